/-! killing keeps the coupling -/
theorem jI_W {σ τ : mm_S} {nb U G : Nat} {N : Nat → Nat → Nat} {O B ht : Nat → Nat} (h : jI σ τ nb U G N O B ht) : tW U N ht := by
  obtain ⟨i1, i2, i3, i4, i5, i6, i7, i8, i9, i10, i11, i12, i13, i14, i15⟩ := h
  intro x h1 h2
  obtain ⟨⟨a1, a2, a3, a4, a5, a6, a7, a8, a9⟩, -⟩ := i15 x h1 h2
  exact ⟨a6, fun p hp => (a7 p hp).imp id fun q => ⟨q.1, q.2.1, q.2.2.1⟩, a8⟩
theorem jI_O {σ τ : mm_S} {nb U G : Nat} {N : Nat → Nat → Nat} {O B ht : Nat → Nat} (h : jI σ τ nb U G N O B ht) : tO τ U N O := by
  obtain ⟨i1, i2, i3, i4, i5, i6, i7, i8, i9, i10, i11, i12, i13, i14, i15⟩ := h
  refine ⟨fun z h1 h2 => ?_, fun x p h1 h2 hp => ?_⟩
  · obtain ⟨⟨a1, a2, a3, a4, a5, a6, a7, a8, a9⟩, -⟩ := i15 z h1 h2
    refine ⟨by rw [← i9]; exact a4, a5, fun h0 => ?_⟩
    obtain ⟨p, hp, -, e⟩ := a9 h0
    exact ⟨p, hp, e⟩
  · obtain ⟨⟨a1, a2, a3, a4, a5, a6, a7, a8, a9⟩, -⟩ := i15 x h1 h2
    exact (a7 p hp).imp id fun q => q.2.2.2.1
theorem jI_cD {σ τ : mm_S} {nb U G : Nat} {N : Nat → Nat → Nat} {O B ht : Nat → Nat} (h : jI σ τ nb U G N O B ht) : cD σ U G := by
  obtain ⟨i1, i2, i3, i4, i5, i6, i7, i8, i9, i10, i11, i12, i13, i14, i15⟩ := h
  exact ⟨i1, i3, i4, i5, i12⟩
theorem jI_rD {σ τ : mm_S} {nb U G : Nat} {N : Nat → Nat → Nat} {O B ht : Nat → Nat} (h : jI σ τ nb U G N O B ht) : rD τ U G := by
  obtain ⟨i1, i2, i3, i4, i5, i6, i7, i8, i9, i10, i11, i12, i13, i14, i15⟩ := h
  exact ⟨i1, i6, i7, by rw [← i10]; exact i12⟩
theorem jI_al {σ τ : mm_S} {nb U G : Nat} {N : Nat → Nat → Nat} {O B ht : Nat → Nat} (h : jI σ τ nb U G N O B ht) : ∀ x, 1 ≤ x → x ≤ U → ¬ σ.1 36 x = 0 → ∀ z, z ∈ tL N x → ¬ σ.1 36 z = 0 := by
  have hW := jI_W h
  apply tL_ind hW (P := fun x => ¬ σ.1 36 x = 0 → ∀ z, z ∈ tL N x → ¬ σ.1 36 z = 0)
  intro x h1 h2 ih ha z hz
  rcases (tL_mem hW h1 h2).1 hz with rfl | ⟨p, hp, h0, hm⟩
  · exact ha
  · obtain ⟨-, b⟩ := h.2.2.2.2.2.2.2.2.2.2.2.2.2.2 x h1 h2
    exact ih p hp h0 ((b ha).1 p hp h0) z hm
def kk (σ τ : mm_S) : Prop := σ.1 36 = τ.1 23 ∧ σ.1 41 = τ.1 25 ∧ σ.1 4 2 = τ.1 0 31
theorem kk_1 {σ τ : mm_S} (h : kk σ τ) (x : Nat) : kk (kC1 σ x) (kR1 τ x) := by
  obtain ⟨h1, h2, h3⟩ := h
  refine ⟨by rw [kC1_36, kR1_23, h1], ?_, ?_⟩
  · have a : (kC1 σ x).1 41 = uq (σ.1 41) (σ.1 4 2).toNatClampNeg (nI x) := by
      unfold kC1
      simp (decide := true) only [mm_w_ne, mm_w_eq]
      rfl
    have b : (kR1 τ x).1 25 = uq (τ.1 25) (τ.1 0 31).toNatClampNeg (nI x) := by
      unfold kR1
      simp (decide := true) only [mm_w_ne, mm_w_eq]
      rfl
    rw [a, b, h2, h3]
  · unfold kC1 kR1
    simp only
    rw [mm_w_at, mm_w_at, h3]
theorem kk_L : ∀ (L : List Nat) {σ τ : mm_S}, kk σ τ → kk (kC σ L) (kR τ L)
  | [], _, _, h => h
  | x :: L, _, _, h => kk_L L (kk_1 h x)
theorem rQ_31 {τ τ' : mm_S} (h : r31 τ τ') : rQ τ τ' := ⟨fun c _ _ q => h.1 c (by omega), fun j _ _ _ => by rw [h.1 0 (by decide)]⟩
set_option maxHeartbeats 1000000 in
theorem jI_kill {σ τ : mm_S} {nb U G : Nat} {N : Nat → Nat → Nat} {O B ht : Nat → Nat} (h : jI σ τ nb U G N O B ht) {x : Nat} (h1 : 1 ≤ x) (h2 : x ≤ U) (h0 : O x = 0) (hD : cD (kC σ (tL N x)) U (G + (tL N x).length)) (hD2 : rD (kR τ (tL N x)) U (G + (tL N x).length)) : jI (kC σ (tL N x)) (kR τ (tL N x)) nb U (G + (tL N x).length) N O B ht := by
  have hW := jI_W h
  have hO := jI_O h
  obtain ⟨i1, i2, i3, i4, i5, i6, i7, i8, i9, i10, i11, i12, i13, i14, i15⟩ := h
  have hk := kk_L (tL N x) (σ := σ) (τ := τ) ⟨i10, i11, by rw [i5, i7]⟩
  have e : ∀ k, k ≠ 4 → k ≠ 36 → k ≠ 41 → (kC σ (tL N x)).1 k = σ.1 k := fun k a b c => kC_o a b c _ _
  have g : ∀ k, k ≠ 0 → k ≠ 23 → k ≠ 25 → (kR τ (tL N x)).1 k = τ.1 k := fun k a b c => kR_o a b c _ _
  obtain ⟨d1, d2, d3, d4, d5⟩ := hD
  refine ⟨i1, by rw [← d5]; exact pCt_le _ _, d2, d3, d4, hD2.2.1, hD2.2.2.1, ?_, ?_, hk.1, hk.2.1, d5, ?_, ?_, ?_⟩
  · rw [e 34 (by decide) (by decide) (by decide), g 20 (by decide) (by decide) (by decide)]; exact i8
  · rw [e 35 (by decide) (by decide) (by decide), g 21 (by decide) (by decide) (by decide)]; exact i9
  · intro y hy
    refine ⟨(i13 y hy).1, by rw [g 24 (by decide) (by decide) (by decide)]; exact (i13 y hy).2.1, kC_36y _ _ _ (Or.inr (i13 y hy).2.2)⟩
  · intro y p hp
    rw [e (38 + p) (by omega) (by omega) (by omega)]
    exact i14 y p hp
  · intro y y1 y2
    obtain ⟨a, b⟩ := i15 y y1 y2
    refine ⟨?_, ?_⟩
    · unfold jI1 at *
      rw [e 34 (by decide) (by decide) (by decide), e 16 (by decide) (by decide) (by decide), e 17 (by decide) (by decide) (by decide), e 35 (by decide) (by decide) (by decide), g 22 (by decide) (by decide) (by decide)]
      exact a
    · intro hy
      have hy1 : y ∉ tL N x := fun q => hy (kC_36y _ _ _ (Or.inl q))
      rw [kC_36n _ _ _ hy1] at hy
      obtain ⟨b1, b2, b3⟩ := b hy
      refine ⟨fun p hp hn => ?_, fun hn => ?_, ?_⟩
      · have oy := (hO.2 y p y1 y2 hp).resolve_left hn
        have : N p y ∉ tL N x := by
          intro q
          rcases tL_dn hW x h1 h2 _ q with e1 | ⟨w, r, w1, w2, w3, w4⟩
          · rw [e1, h0] at oy; omega
          · have wr := tL_rng hW x h1 h2 w w1
            have ow := (hO.2 w r (by omega) wr.2.2 w2).resolve_left w3
            rw [w4, oy] at ow
            exact hy1 (by rw [ow]; exact w1)
        rw [kC_36n _ _ _ this]
        exact b1 p hp hn
      · have : O y ∉ tL N x := by
          intro q
          obtain ⟨-, -, o3⟩ := hO.1 y y1 y2
          obtain ⟨p, hp, e1⟩ := o3 hn
          have := tL_up hW x h1 h2 _ q p hp (by omega)
          rw [e1] at this
          exact hy1 this
        rw [kC_36n _ _ _ this]
        exact b2 hn
      · rw [g 24 (by decide) (by decide) (by decide), e 15 (by decide) (by decide) (by decide)]
        exact b3
/-- all of the coupling but what the contexts hold -/
def jM (σ τ : mm_S) (nc nb U G : Nat) (F1 F2 lv H : Nat → Nat) (N : Nat → Nat → Nat) (O B ht : Nat → Nat) : Prop :=
  cI σ nc nb F1 F2 lv H ∧ sT σ τ ∧ jX σ nc nb F1 F2 lv ∧ jP σ τ nb ∧ jI σ τ nb U G N O B ht ∧ (σ.1 0 5 = τ.1 0 15 ∧ (σ.1 0 5 = 0 ∨ σ.1 0 5 = 1))
theorem jM_A {σ σ' τ τ' : mm_S} {nc nb U G : Nat} {F1 F2 lv H : Nat → Nat} {N : Nat → Nat → Nat} {O B ht : Nat → Nat} (q : ∀ k, k < 42 → σ'.1 k = σ.1 k) (r : ∀ k, k < 26 → τ'.1 k = τ.1 k) (h : jM σ τ nc nb U G F1 F2 lv H N O B ht) : jM σ' τ' nc nb U G F1 F2 lv H N O B ht := by
  obtain ⟨h1, h2, h3, h4, h5, h7⟩ := h
  have qa : stA σ σ' := ⟨fun c _ _ => q c (by omega), by rw [q 1 (by decide)], by rw [q 2 (by decide)]⟩
  have ra : stR τ τ' := ⟨fun c _ _ => r c (by omega), by rw [r 0 (by decide)], by rw [r 0 (by decide)]⟩
  refine ⟨cI_A qa h1, sT_A qa ra h2, jX_A qa h3, jP_A qa (fun c _ _ _ => q c (by omega)) (by rw [q 0 (by decide)]) (r 16 (by decide)) (r 14 (by decide)) (jX_pt h3) h4, jI_A (fun c _ => q c (by omega)) (fun c _ _ => r c (by omega)) (by rw [r 0 (by decide)]) (by rw [r 0 (by decide)]) h5, ?_⟩
  rw [q 0 (by decide), r 0 (by decide)]
  exact h7
theorem jM_31 {σ τ τ' : mm_S} {nc nb U G : Nat} {F1 F2 lv H : Nat → Nat} {N : Nat → Nat → Nat} {O B ht : Nat → Nat} (r : r31 τ τ') (h : jM σ τ nc nb U G F1 F2 lv H N O B ht) : jM σ τ' nc nb U G F1 F2 lv H N O B ht := jM_A (fun _ _ => rfl) (fun k hk => r.1 k (by omega)) h
theorem jM_kill {σ τ : mm_S} {nc nb U G : Nat} {F1 F2 lv H : Nat → Nat} {N : Nat → Nat → Nat} {O B ht : Nat → Nat} (h : jM σ τ nc nb U G F1 F2 lv H N O B ht) {x : Nat} (x1 : 1 ≤ x) (x2 : x ≤ U) (x0 : O x = 0) (xa : ¬ σ.1 36 x = 0) (c d e : Nat) : ∃ τ', cG (d + 12) 59 [.ref 4, .int (nI x), .int 0] σ = some (0, 0, kC σ (tL N x)) ∧ rG (e + 1) 38 [.ref 0, .int (nI x), .int (nI c)] τ = some (nI (c + (tL N x).length), 0, τ') ∧ r31 (kR τ (tL N x)) τ' ∧ jM (kC σ (tL N x)) τ' nc nb U (G + (tL N x).length) F1 F2 lv H N O B ht := by
  obtain ⟨h1, h2, h3, h4, h5, h7⟩ := h
  have hW := jI_W h5
  have hO := jI_O h5
  have al := jI_al h5 x x1 x2 xa
  have h9 := (hW x x1 x2).1
  obtain ⟨r1, D1⟩ := c_discard hW 10 x (Or.inr ⟨x1, x2, by omega⟩) σ G 0 d (jI_cD h5) (fun y p hp => h5.2.2.2.2.2.2.2.2.2.2.2.2.2.1 y p hp) al (Or.inr (by omega))
  obtain ⟨τ', q1, q2, q3⟩ := r_kill hW x1 x2 (fun z hz => by rw [← h5.2.2.2.2.2.2.2.2.2.1]; exact al z hz) (jI_rD h5) hO c e
  refine ⟨τ', r1, q3, q1, jM_31 q1 ?_⟩
  have E : ∀ k, k ≠ 4 → k ≠ 36 → k ≠ 41 → (kC σ (tL N x)).1 k = σ.1 k := fun k a b c => kC_o a b c _ _
  have g : ∀ k, k ≠ 0 → k ≠ 23 → k ≠ 25 → (kR τ (tL N x)).1 k = τ.1 k := fun k a b c => kR_o a b c _ _
  have qa : stA σ (kC σ (tL N x)) := ⟨fun c _ _ => E c (by omega) (by omega) (by omega), by rw [E 1 (by decide) (by decide) (by decide)], by rw [E 2 (by decide) (by decide) (by decide)]⟩
  have ra : stR τ (kR τ (tL N x)) := ⟨fun c _ _ => g c (by omega) (by omega) (by omega), kR_0 (by decide) _ _, kR_0 (by decide) _ _⟩
  refine ⟨cI_A qa h1, sT_A qa ra h2, jX_A qa h3, jP_A qa (fun c _ _ _ => E c (by omega) (by omega) (by omega)) (by rw [E 0 (by decide) (by decide) (by decide)]) (g 16 (by decide) (by decide) (by decide)) (g 14 (by decide) (by decide) (by decide)) (jX_pt h3) h4, jI_kill h5 x1 x2 x0 D1 q2, ?_⟩
  rw [E 0 (by decide) (by decide) (by decide), kR_0 (by decide)]
  exact h7
/-- what the contexts hold -/
def jH (σ τ : mm_S) (nb U : Nat) (O B : Nat → Nat) : Prop := (∀ c b, c < 4 → b < 16 → ∃ x, σ.1 (44 + c) b = nI x ∧ τ.1 33 (16 * c + b) = nI x ∧ (x = 0 ∨ (1 ≤ x ∧ x ≤ U ∧ b < nb ∧ ¬ σ.1 36 x = 0 ∧ O x = 0 ∧ B x = b ∧ ¬ σ.1 15 b = 0))) ∧ jU σ
def jAc (σ : mm_S) : Prop := ∀ c b, c < 4 → b < 16 → ¬ σ.1 (44 + c) b = 0 → ¬ σ.1 42 c = 0
theorem jC_of {σ τ : mm_S} {nb U : Nat} {O B : Nat → Nat} (h1 : ∀ c, c < 4 → σ.1 42 c = τ.1 32 c) (h2 : jH σ τ nb U O B) (h3 : jAc σ) (hU : U ≤ 200) : jC σ τ nb U O B := by
  refine ⟨h1, fun c b hc hb => ?_, h2.2⟩
  obtain ⟨x, e1, e2, e3⟩ := h2.1 c b hc hb
  refine ⟨x, e1, e2, e3.imp id fun ⟨a1, a2, a3, a4, a5, a6, a7⟩ => ⟨a1, a2, a3, a4, a5, a6, a7, h3 c b hc hb ?_⟩⟩
  rw [e1]
  exact nI_ne0 (by omega) (by omega)
theorem jC_H {σ τ : mm_S} {nb U : Nat} {O B : Nat → Nat} (h : jC σ τ nb U O B) : jH σ τ nb U O B ∧ jAc σ := by
  refine ⟨⟨fun c b hc hb => ?_, h.2.2⟩, fun c b hc hb h0 => ?_⟩
  · obtain ⟨x, e1, e2, e3⟩ := h.2.1 c b hc hb
    exact ⟨x, e1, e2, e3.imp id fun ⟨a1, a2, a3, a4, a5, a6, a7, a8⟩ => ⟨a1, a2, a3, a4, a5, a6, a7⟩⟩
  · obtain ⟨x, e1, e2, e3⟩ := h.2.1 c b hc hb
    rcases e3 with rfl | ⟨a1, a2, a3, a4, a5, a6, a7, a8⟩
    · exact absurd e1 h0
    · exact a8
theorem jH_kill {σ τ τ0 τ' : mm_S} {nb U G : Nat} {N : Nat → Nat → Nat} {O B ht : Nat → Nat} (h5 : jI σ τ0 nb U G N O B ht) {x : Nat} (x1 : 1 ≤ x) (x2 : x ≤ U) (r : τ'.1 33 = τ.1 33) (hH : jH σ τ nb U O B) (hx : ∀ c b, c < 4 → b < 16 → ¬ σ.1 (44 + c) b = nI x) : jH (kC σ (tL N x)) τ' nb U O B := by
  have hW := jI_W h5
  have hO := jI_O h5
  refine ⟨fun c b hc hb => ?_, jU_A (fun k _ _ => kC_o (by omega) (by omega) (by omega) _ _) hH.2⟩
  obtain ⟨y, e1, e2, e3⟩ := hH.1 c b hc hb
  refine ⟨y, by rw [kC_o (by omega) (by omega) (by omega)]; exact e1, by rw [r]; exact e2, e3.imp id fun ⟨a1, a2, a3, a4, a5, a6, a7⟩ => ⟨a1, a2, a3, ?_, a5, a6, ?_⟩⟩
  · rw [kC_36n]
    · exact a4
    · intro q
      rcases tL_dn hW x x1 x2 _ q with e | ⟨w, p, w1, w2, w3, w4⟩
      · exact hx c b hc hb (by rw [e1, e])
      · have wr := tL_rng hW x x1 x2 w w1
        have ow := (hO.2 w p (by omega) wr.2.2 w2).resolve_left w3
        rw [w4, a5] at ow
        omega
  · rw [kC_o (by omega) (by omega) (by omega)]; exact a7
