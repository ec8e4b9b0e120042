/-! THE COUPLING of the class's state σ and the reference's τ -/
def jX (σ : mm_S) (nc nb : Nat) (F1 F2 lv : Nat → Nat) : Prop :=
  (∀ h, h = 0 ∨ nc < h → F1 h = 0 ∧ F2 h = 0) ∧ (∀ h, h < 32 → σ.1 8 h = nI (lv h)) ∧ (∀ h, σ.1 7 h = 0 ∨ σ.1 7 h = 1) ∧
  (∀ j, j < nb → (σ.1 15 j = 0 ∨ σ.1 15 j = 1 ∨ σ.1 15 j = 2) ∧ (¬ σ.1 18 j = 0 → σ.1 17 j = -1) ∧ (∀ k, k < nb → σ.1 17 j = nI k → ¬ σ.1 18 k = 0 ∧ σ.1 15 k = 0) ∧
    ∃ m, m ≤ 3 ∧ σ.1 19 j = nI m ∧ ∀ p, p < m → ∃ R, R < 2 ^ 31 ∧ σ.1 (21 + p) j = nI R ∧ (pTA nc (σ.1 6) true false 6).1 R = true) ∧
  (∀ j, nb ≤ j → σ.1 18 j = 0 ∧ σ.1 19 j = 0)
def pTg (σ : mm_S) (b p : Nat) : Nat := (σ.1 (29 + p) b).toNatClampNeg
def pPt (σ : mm_S) (b : Nat) : Nat := (σ.1 19 b).toNatClampNeg
def pHK (σ : mm_S) (K : Nat → Nat) (b : Nat) : Nat := if σ.1 17 b = -1 then 0 else K (σ.1 17 b).toNatClampNeg
def pDK (σ : mm_S) (K : Nat → Nat) (b : Nat) : Nat := pSum (fun p => if σ.1 15 (pTg σ b p) = 0 then K (pTg σ b p) else 0) (pPt σ b)
def jK (σ τ : mm_S) (nb : Nat) (K : Nat → Nat) : Prop := ∀ b, b < nb → pE (σ.1 16) (σ.1 17) b = true →
  (∀ p, p < pPt σ b → ∃ y, y < nb ∧ pE (σ.1 16) (σ.1 17) y = true ∧ σ.1 (29 + p) b = nI y) ∧ K b = 1 + pHK σ K b + pDK σ K b ∧ σ.1 33 b = nI (min 100 (K b)) ∧ τ.1 16 b = nI (min 101 (K b))
def jP (σ τ : mm_S) (nb : Nat) : Prop := (∀ b p, p < 3 → σ.1 (29 + p) b = τ.1 14 (3 * b + p)) ∧ (¬ σ.1 0 5 = 0 → ∃ K, jK σ τ nb K)
/-- the instances: U made, G gone; N p x is the part of x at its point p (0: none), O its owner, B its bean; x and all that it owns lie in x .. x + ht x -/
def jI1 (σ τ : mm_S) (nb U : Nat) (N : Nat → Nat → Nat) (O B ht : Nat → Nat) (x : Nat) : Prop :=
  σ.1 34 x = nI (B x) ∧ B x < nb ∧ pE (σ.1 16) (σ.1 17) (B x) = true ∧ σ.1 35 x = nI (O x) ∧ O x < x ∧ ht x ≤ 9 ∧
  (∀ p, p < 3 → N p x = 0 ∨ (x < N p x ∧ N p x ≤ U ∧ N p x + ht (N p x) ≤ x + ht x ∧ O (N p x) = x ∧ τ.1 22 (N p x) = nI p)) ∧
  (∀ p q, p < q → q < 3 → N p x = 0 ∨ N q x = 0 ∨ N p x + ht (N p x) < N q x) ∧
  (¬ O x = 0 → ∃ p, p < 3 ∧ τ.1 22 x = nI p ∧ N p (O x) = x)
def jI2 (σ τ : mm_S) (N : Nat → Nat → Nat) (O B : Nat → Nat) (x : Nat) : Prop :=
  ¬ σ.1 36 x = 0 → (∀ p, p < 3 → ¬ N p x = 0 → ¬ σ.1 36 (N p x) = 0) ∧ (¬ O x = 0 → ¬ σ.1 36 (O x) = 0) ∧ (¬ τ.1 24 x = 0 ↔ (O x = 0 ∧ σ.1 15 (B x) = 0))
def jI (σ τ : mm_S) (nb U G : Nat) (N : Nat → Nat → Nat) (O B ht : Nat → Nat) : Prop :=
  U ≤ 200 ∧ G ≤ U ∧ σ.1 4 0 = nI U ∧ σ.1 4 1 = nI (U - G) ∧ σ.1 4 2 = nI G ∧ τ.1 0 24 = nI U ∧ τ.1 0 31 = nI G ∧ σ.1 34 = τ.1 20 ∧ σ.1 35 = τ.1 21 ∧ σ.1 36 = τ.1 23 ∧ σ.1 41 = τ.1 25 ∧
  pCt (fun i => decide (σ.1 36 (i + 1) = 0)) U = G ∧
  (∀ x, U < x → (∀ p, N p x = 0) ∧ τ.1 24 x = 0 ∧ σ.1 36 x = 0) ∧
  (∀ x p, p < 3 → σ.1 (38 + p) x = nI (N p x)) ∧
  (∀ x, 1 ≤ x → x ≤ U → jI1 σ τ nb U N O B ht x ∧ jI2 σ τ N O B x)
/-- no two contexts hold the same -/
def jU (σ : mm_S) : Prop := ∀ c c' b, c < 4 → c' < 4 → b < 16 → c ≠ c' → ¬ σ.1 (44 + c) b = 0 → ¬ σ.1 (44 + c) b = σ.1 (44 + c') b
theorem jU_A {σ σ' : mm_S} (q : ∀ k, 44 ≤ k → k ≤ 47 → σ'.1 k = σ.1 k) (h : jU σ) : jU σ' := by
  intro c c' b h1 h2 h3 h4
  rw [q (44 + c) (by omega) (by omega), q (44 + c') (by omega) (by omega)]
  exact h c c' b h1 h2 h3 h4
def jC (σ τ : mm_S) (nb U : Nat) (O B : Nat → Nat) : Prop :=
  (∀ c, c < 4 → σ.1 42 c = τ.1 32 c) ∧
  (∀ c b, c < 4 → b < 16 → ∃ x, σ.1 (44 + c) b = nI x ∧ τ.1 33 (16 * c + b) = nI x ∧ (x = 0 ∨ (1 ≤ x ∧ x ≤ U ∧ b < nb ∧ ¬ σ.1 36 x = 0 ∧ O x = 0 ∧ B x = b ∧ ¬ σ.1 15 b = 0 ∧ ¬ σ.1 42 c = 0))) ∧ jU σ
def jR (σ τ : mm_S) : Prop := ∃ (nc nb U G : Nat) (F1 F2 lv H : Nat → Nat) (N : Nat → Nat → Nat) (O B ht : Nat → Nat),
  cI σ nc nb F1 F2 lv H ∧ sT σ τ ∧ jX σ nc nb F1 F2 lv ∧ jP σ τ nb ∧ jI σ τ nb U G N O B ht ∧ jC σ τ nb U O B ∧ (σ.1 0 5 = τ.1 0 15 ∧ (σ.1 0 5 = 0 ∨ σ.1 0 5 = 1))
/-! scratch: what may change freely -/
def cQ (σ σ' : mm_S) : Prop := (∀ c, c ≠ 1 → c ≠ 32 → σ'.1 c = σ.1 c) ∧ (∀ j, j ≠ 8 → σ'.1 1 j = σ.1 1 j)
def rQ (τ τ' : mm_S) : Prop := (∀ c, c ≠ 0 → c ≠ 15 → (c < 26 ∨ 31 < c) → τ'.1 c = τ.1 c) ∧ (∀ j, j ≠ 20 → j ≠ 23 → j ≠ 37 → τ'.1 0 j = τ.1 0 j)
theorem cQ_refl (σ : mm_S) : cQ σ σ := ⟨fun _ _ _ => rfl, fun _ _ => rfl⟩
theorem rQ_refl (τ : mm_S) : rQ τ τ := ⟨fun _ _ _ _ => rfl, fun _ _ _ _ => rfl⟩
theorem rQ_trans {τ τ' τ'' : mm_S} (h : rQ τ τ') (h' : rQ τ' τ'') : rQ τ τ'' := ⟨fun c h1 h2 h3 => (h'.1 c h1 h2 h3).trans (h.1 c h1 h2 h3), fun j h1 h2 h3 => (h'.2 j h1 h2 h3).trans (h.2 j h1 h2 h3)⟩
theorem cQ_trans {σ σ' σ'' : mm_S} (h : cQ σ σ') (h' : cQ σ' σ'') : cQ σ σ'' := ⟨fun c h1 h2 => (h'.1 c h1 h2).trans (h.1 c h1 h2), fun j h1 => (h'.2 j h1).trans (h.2 j h1)⟩
theorem rQ_of {τ τ' : mm_S} (h : rEq τ τ') : rQ τ τ' := ⟨fun c h1 _ _ => h.1 c h1, fun j h1 h2 _ => h.2 j h1 h2⟩
theorem cQ_S (σ : mm_S) (a n) : cQ σ (cS σ a n) := ⟨fun _ h _ => cS_o _ _ _ h, fun j h => by simp [cS, mm_w, h]⟩
theorem cI_Q {σ σ' : mm_S} {nc nb : Nat} {F1 F2 lv H : Nat → Nat} (q : cQ σ σ') (h : cI σ nc nb F1 F2 lv H) : cI σ' nc nb F1 F2 lv H := by
  obtain ⟨q1, q2⟩ := q
  unfold cI cK cB cR cH cHo at *
  simp only [q2 0 (by decide), q1 2 (by decide) (by decide), q1 6 (by decide) (by decide), q1 9 (by decide) (by decide), q1 10 (by decide) (by decide), q1 11 (by decide) (by decide), q1 13 (by decide) (by decide), q1 17 (by decide) (by decide)]
  exact h
theorem sT_Q {σ σ' τ τ' : mm_S} (q : cQ σ σ') (r : rQ τ τ') (h : sT σ τ) : sT σ' τ' := by
  obtain ⟨q1, q2⟩ := q
  obtain ⟨r1, r2⟩ := r
  obtain ⟨s1, s2, s3, s4, s5, s6, s7, s8, s9, s10, s11, s12, s13, s14⟩ := h
  have e : ∀ c, c ≠ 1 → c ≠ 32 → σ'.1 c = σ.1 c := q1
  have g : ∀ c, c ≠ 0 → c ≠ 15 → c < 26 → τ'.1 c = τ.1 c := fun c a b d => r1 c a b (Or.inl d)
  refine ⟨?_, ?_, ?_, ?_, ?_, fun h => ?_, ?_, ?_, ?_, ?_, ?_, ?_, ?_, fun b p hp => ?_⟩
  · rw [q2 0 (by decide), r2 0 (by decide) (by decide) (by decide), s1]
  · rw [e 2 (by decide) (by decide), r2 5 (by decide) (by decide) (by decide), s2]
  · rw [e 6 (by decide) (by decide), g 1 (by decide) (by decide) (by decide), s3]
  · rw [e 7 (by decide) (by decide), g 2 (by decide) (by decide) (by decide), s4]
  · rw [e 8 (by decide) (by decide), g 3 (by decide) (by decide) (by decide), s5]
  · rw [e 9 (by decide) (by decide), e 10 (by decide) (by decide), g 4 (by decide) (by decide) (by decide)]; exact s6 h
  · rw [e 13 (by decide) (by decide), g 5 (by decide) (by decide) (by decide), s7]
  · rw [e 14 (by decide) (by decide), g 6 (by decide) (by decide) (by decide), s8]
  · rw [e 15 (by decide) (by decide), g 7 (by decide) (by decide) (by decide), s9]
  · rw [e 16 (by decide) (by decide), g 8 (by decide) (by decide) (by decide), s10]
  · rw [e 17 (by decide) (by decide), g 9 (by decide) (by decide) (by decide), s11]
  · rw [e 18 (by decide) (by decide), g 10 (by decide) (by decide) (by decide), s12]
  · rw [e 19 (by decide) (by decide), g 11 (by decide) (by decide) (by decide), s13]
  · rw [e (21 + p) (by omega) (by omega), e (25 + p) (by omega) (by omega), g 12 (by decide) (by decide) (by decide), g 13 (by decide) (by decide) (by decide)]; exact s14 b p hp
theorem jX_Q {σ σ' : mm_S} {nc nb : Nat} {F1 F2 lv : Nat → Nat} (q : cQ σ σ') (h : jX σ nc nb F1 F2 lv) : jX σ' nc nb F1 F2 lv := by
  obtain ⟨q1, q2⟩ := q
  obtain ⟨x1, x2, x3, x4, x5⟩ := h
  have e : ∀ c, c ≠ 1 → c ≠ 32 → σ'.1 c = σ.1 c := q1
  refine ⟨x1, by rw [e 8 (by decide) (by decide)]; exact x2, by rw [e 7 (by decide) (by decide)]; exact x3, ?_, by rw [e 18 (by decide) (by decide), e 19 (by decide) (by decide)]; exact x5⟩
  intro j hj
  obtain ⟨y1, y2, y3, m, y4, y5, y6⟩ := x4 j hj
  rw [e 15 (by decide) (by decide), e 17 (by decide) (by decide), e 18 (by decide) (by decide), e 19 (by decide) (by decide), e 6 (by decide) (by decide)]
  refine ⟨y1, y2, y3, m, y4, y5, fun p hp => ?_⟩
  rw [e (21 + p) (by omega) (by omega)]
  exact y6 p hp
theorem jK_Q {σ σ' τ τ' : mm_S} {nb : Nat} {K : Nat → Nat} (q : cQ σ σ') (r : rQ τ τ') (hpt : ∀ b, b < nb → pPt σ b ≤ 3) (h : jK σ τ nb K) : jK σ' τ' nb K := by
  obtain ⟨q1, q2⟩ := q
  obtain ⟨r1, r2⟩ := r
  have e : ∀ c, c ≠ 1 → c ≠ 32 → σ'.1 c = σ.1 c := q1
  have g : ∀ c, c ≠ 0 → c ≠ 15 → c < 26 → τ'.1 c = τ.1 c := fun c a b d => r1 c a b (Or.inl d)
  intro b hb he
  rw [e 16 (by decide) (by decide), e 17 (by decide) (by decide)] at he
  obtain ⟨k1, k2, k3, k4⟩ := h b hb he
  have ept : pPt σ' b = pPt σ b := by unfold pPt; rw [e 19 (by decide) (by decide)]
  have etg : ∀ p, p < 3 → pTg σ' b p = pTg σ b p := fun p hp => by unfold pTg; rw [e (29 + p) (by omega) (by omega)]
  have h3 := hpt b hb
  refine ⟨?_, ?_, ?_, ?_⟩
  · intro p hp
    rw [ept] at hp
    rw [e 16 (by decide) (by decide), e 17 (by decide) (by decide), e (29 + p) (by omega) (by omega)]
    exact k1 p hp
  · rw [k2]
    have a1 : pHK σ' K b = pHK σ K b := by unfold pHK; rw [e 17 (by decide) (by decide)]
    have a2 : pDK σ' K b = pDK σ K b := by
      unfold pDK
      rw [ept, e 15 (by decide) (by decide)]
      exact pSum_ext (fun p hp => by rw [etg p (by omega)])
    rw [a1, a2]
  · rw [e 33 (by decide) (by decide)]; exact k3
  · rw [g 16 (by decide) (by decide) (by decide)]; exact k4
theorem jX_pt {σ : mm_S} {nc nb : Nat} {F1 F2 lv : Nat → Nat} (h : jX σ nc nb F1 F2 lv) : ∀ b, b < nb → pPt σ b ≤ 3 := by
  intro b hb
  obtain ⟨-, -, -, m, h3, e, -⟩ := h.2.2.2.1 b hb
  unfold pPt
  rw [e, nI_clamp (by omega)]
  exact h3
theorem jP_Q {σ σ' τ τ' : mm_S} {nb : Nat} (q : cQ σ σ') (r : rQ τ τ') (hpt : ∀ b, b < nb → pPt σ b ≤ 3) (h : jP σ τ nb) : jP σ' τ' nb := by
  refine ⟨fun b p hp => ?_, fun hr => ?_⟩
  · rw [q.1 (29 + p) (by omega) (by omega), r.1 14 (by decide) (by decide) (Or.inl (by decide))]
    exact h.1 b p hp
  · rw [q.1 0 (by decide) (by decide)] at hr
    obtain ⟨K, hK⟩ := h.2 hr
    exact ⟨K, jK_Q q r hpt hK⟩
theorem jI_Q {σ σ' τ τ' : mm_S} {nb U G : Nat} {N : Nat → Nat → Nat} {O B ht : Nat → Nat} (q : cQ σ σ') (r : rQ τ τ') (h : jI σ τ nb U G N O B ht) : jI σ' τ' nb U G N O B ht := by
  obtain ⟨q1, q2⟩ := q
  obtain ⟨r1, r2⟩ := r
  have e : ∀ c, c ≠ 1 → c ≠ 32 → σ'.1 c = σ.1 c := q1
  have g : ∀ c, c ≠ 0 → c ≠ 15 → c < 26 → τ'.1 c = τ.1 c := fun c a b d => r1 c a b (Or.inl d)
  unfold jI jI1 jI2 at *
  rw [e 4 (by decide) (by decide), e 34 (by decide) (by decide), e 35 (by decide) (by decide), e 36 (by decide) (by decide), e 41 (by decide) (by decide), e 16 (by decide) (by decide), e 17 (by decide) (by decide), e 15 (by decide) (by decide), r2 24 (by decide) (by decide) (by decide), r2 31 (by decide) (by decide) (by decide), g 20 (by decide) (by decide) (by decide), g 21 (by decide) (by decide) (by decide), g 22 (by decide) (by decide) (by decide), g 23 (by decide) (by decide) (by decide), g 24 (by decide) (by decide) (by decide), g 25 (by decide) (by decide) (by decide)]
  obtain ⟨i1, i2, i3, i4, i5, i6, i7, i8, i9, i10, i11, i12, i13, i14, i15⟩ := h
  refine ⟨i1, i2, i3, i4, i5, i6, i7, i8, i9, i10, i11, i12, i13, fun x p hp => ?_, i15⟩
  rw [e (38 + p) (by omega) (by omega)]
  exact i14 x p hp
theorem jC_Q {σ σ' τ τ' : mm_S} {nb U : Nat} {O B : Nat → Nat} (q : cQ σ σ') (r : rQ τ τ') (h : jC σ τ nb U O B) : jC σ' τ' nb U O B := by
  obtain ⟨q1, q2⟩ := q
  obtain ⟨r1, r2⟩ := r
  have e : ∀ c, c ≠ 1 → c ≠ 32 → σ'.1 c = σ.1 c := q1
  obtain ⟨c1, c2, c3⟩ := h
  refine ⟨fun c hc => ?_, fun c b hc hb => ?_, jU_A (fun k _ _ => e k (by omega) (by omega)) c3⟩
  · rw [e 42 (by decide) (by decide), r1 32 (by decide) (by decide) (Or.inr (by decide))]
    exact c1 c hc
  · rw [e (44 + c) (by omega) (by omega), e 36 (by decide) (by decide), e 15 (by decide) (by decide), e 42 (by decide) (by decide), r1 33 (by decide) (by decide) (Or.inr (by decide))]
    exact c2 c b hc hb
theorem jR_Q {σ σ' τ τ' : mm_S} (q : cQ σ σ') (r : rQ τ τ') (h : jR σ τ) : jR σ' τ' := by
  obtain ⟨nc, nb, U, G, F1, F2, lv, H, N, O, B, ht, h1, h2, h3, h4, h5, h6, h7⟩ := h
  refine ⟨nc, nb, U, G, F1, F2, lv, H, N, O, B, ht, cI_Q q h1, sT_Q q r h2, jX_Q q h3, jP_Q q r (jX_pt h3) h4, jI_Q q r h5, jC_Q q r h6, ?_⟩
  rw [q.1 0 (by decide) (by decide), r.2 15 (by decide) (by decide) (by decide)]
  exact h7
