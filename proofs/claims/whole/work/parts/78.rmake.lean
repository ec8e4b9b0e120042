set_option maxHeartbeats 1000000 in
theorem r_make1 {σ τ : mm_S} {nb : Nat} {K : Nat → Nat} (hJ : jE σ nb K) (hg : gS σ τ K nb) {b U : Nat} (he : vE σ nb (b, U + 1, 0, -1)) (hk : K b ≤ 10) (hU : U + K b ≤ 200) (h24 : τ.1 0 24 = nI U) (d : Nat) : ∃ (Q : List mE) (τq : mm_S) (g : Nat), sQ σ K (mm_w τ.1 0 24 (nI (U + K b)), τ.2) τq Q Q.length ∧ Q.Perm (eN σ K (b, U + 1, 0, -1)) ∧ 9000 ≤ g ∧ ∀ res, mm_ex sr (rG (d + 2)) 1 rp_36_l g rp_36_r5 [.ref 0, .int (nI b), .int (nI (nM σ K (b, U + 1, 0, -1))), .int (nI 0), .null, .null] [] τq = some res → rG (d + 3) 36 [.ref 0, .int (nI b)] τ = some res := by
  have hn := hJ.1
  have hb : b < nb := he.1
  have hTb := pu_T (show b < 16 by omega) (by decide)
  have hCb := pu_cl (show b < 16 by omega) (by decide)
  have k1 : 1 ≤ K b := by rw [(hJ.2 b he.1 he.2).2.2.2.2]; omega
  have e16 : τ.1 16 b = nI (K b) := by rw [hg.2.2.2.2 b hb he.2, show min 101 (K b) = K b by omega]
  -- an empty queue, then the first entry
  have hq0 : qS σ (mm_w τ.1 0 37 0, τ.2) [] := ⟨(show mm_w τ.1 0 37 0 0 37 = nI 0 from mm_w_at), fun i e hi => by cases hi⟩
  have hh : σ.1 17 b = -1 ∨ ∃ k, k < 16 ∧ σ.1 17 b = nI k := by
    rcases (hJ.2 b he.1 he.2).1 with z | ⟨k, k1, k2, -⟩
    · exact Or.inl z
    · exact Or.inr ⟨k, by omega, k2⟩
  obtain ⟨τb, p1, p2, p3⟩ := r_part (b := b) (f := U + 1) (o := 0) (p := -1) hq0 (by simp) (show mm_w τ.1 0 37 0 9 = σ.1 17 by rw [mm_w_ne (by decide)]; exact hg.2.1) (by omega) hh (d + 1)
  rw [List.nil_append] at p2
  have c16 : τb.1 16 b = nI (K b) := by rw [p1.1 16 (by decide) (by decide)]; exact (congrFun (mm_w_ne (by decide) : mm_w τ.1 0 37 0 16 = τ.1 16) b).trans e16
  have c24 : τb.1 0 24 = nI U := by rw [p1.2 24 (by decide)]; exact (mm_w_at2 (by decide) : mm_w τ.1 0 37 0 0 24 = τ.1 0 24).trans h24
  -- numbers are taken
  generalize hc : ((mm_w τb.1 0 24 (nI (U + K b)), τb.2) : mm_S) = τc
  have tc : ∀ k, k ≠ 0 → τc.1 k = τb.1 k := fun k hk' => by rw [← hc]; exact mm_w_ne hk'
  have tc0 : ∀ j, j ≠ 24 → τc.1 0 j = τb.1 0 j := fun j hj => by rw [← hc]; exact (show mm_w τb.1 0 24 (nI (U + K b)) 0 j = τb.1 0 j from mm_w_at2 hj)
  have tB : ∀ k, k ≠ 0 → mm_w τ.1 0 24 (nI (U + K b)) k = τ.1 k := fun k hk' => mm_w_ne hk'
  have bB : ∀ k, k ≠ 0 → (k < 26 ∨ 30 < k) → τc.1 k = mm_w τ.1 0 24 (nI (U + K b)) k := by
    intro k x y
    rw [tc k x, p1.1 k x y, tB k x]
    exact mm_w_ne x
  have bB0 : ∀ j, j ≠ 37 → τc.1 0 j = mm_w τ.1 0 24 (nI (U + K b)) 0 j := by
    intro j hj
    by_cases e : j = 24
    · subst e; rw [← hc]; exact (show mm_w τb.1 0 24 (nI (U + K b)) 0 24 = mm_w τ.1 0 24 (nI (U + K b)) 0 24 from mm_w_at.trans mm_w_at.symm)
    · rw [tc0 j e, p1.2 j hj, mm_w_at2 e]
      exact (show mm_w τ.1 0 37 0 0 j = τ.1 0 j from mm_w_at2 hj)
  have hqc : qS σ τc [(b, U + 1, 0, -1)] := by
    unfold qS at *
    rw [tc0 37 (by decide), tc 26 (by decide), tc 27 (by decide), tc 28 (by decide), tc 29 (by decide), tc 30 (by decide)]
    exact p2
  have hgc : gS σ τc K nb := gS_c (fun k x y => (bB k (by omega) (Or.inl (by omega))).trans (tB k (by omega))) hg
  have hgB : gS σ (mm_w τ.1 0 24 (nI (U + K b)), τ.2) K nb := gS_c (fun k x y => tB k (by omega)) hg
  have hvc : ∀ c, c ∈ cE σ K (b, U + 1, 0, -1) → vE σ nb c ∧ K c.1 ≤ 10 := fun c hc' => by
    obtain ⟨c1, c2, -⟩ := cE_ok hJ he hc'
    exact ⟨c1, by simp only at c2; omega⟩
  have hcl : (cE σ K (b, U + 1, 0, -1)).length + 1 ≤ K b := by
    have h1 := fm_len hJ hvc
    have h2 := eN_len hJ he hk
    rw [eN_eq hJ he hk, List.length_cons] at h2
    simp only at h2
    omega
  have hnr := nM_rng hJ he
  simp only at hnr
  obtain ⟨τd, s1, s2, s3, s4, s5, s6, s7, s8⟩ := r_settle hJ hgc hqc (i := 0) rfl he hk (by rw [List.length_singleton]; omega) (by omega) d
  have hs1 : sQ σ K (mm_w τ.1 0 24 (nI (U + K b)), τ.2) τd ([(b, U + 1, 0, -1)] ++ cE σ K (b, U + 1, 0, -1)) 1 := by
    refine ⟨s3, fun k x y => (s1 k x y).trans (bB k x (by omega)), fun j hj => (s2 j hj).trans (bB0 j hj), fun c hc' => ?_, fun k k1' k2' x hx => ?_⟩
    · have : c = (b, U + 1, 0, -1) := by simpa using hc'
      subst this
      unfold rw4
      rw [s4, s5, s6, s7, uq_at, uq_at, uq_at, uq_at]
      exact ⟨rfl, rfl, rfl, rfl⟩
    · have hxa : x ≠ nM σ K (b, U + 1, 0, -1) := fun q => hx (b, U + 1, 0, -1) (by simp) q.symm
      show τd.1 k x = mm_w τ.1 0 24 (nI (U + K b)) k x
      rw [← bB k (by omega) (Or.inl (by omega))]
      rcases (show k = 20 ∨ k = 21 ∨ k = 22 ∨ k = 23 by omega) with rfl | rfl | rfl | rfl
      · rw [s4, uq_ne hxa]
      · rw [s5, uq_ne hxa]
      · rw [s6, uq_ne hxa]
      · rw [s7, uq_ne hxa]
  have hv1 : ∀ c, c ∈ [(b, U + 1, 0, -1)] ++ cE σ K (b, U + 1, 0, -1) → vE σ nb c ∧ K c.1 ≤ 10 := fun c hc' => by
    rcases List.mem_append.1 hc' with q | q
    · rw [List.mem_singleton] at q; subst q; exact ⟨he, hk⟩
    · exact hvc c q
  obtain ⟨Q', τq, g, q1, q2, q3, q4⟩ := r_queue hJ hgB he hk (by simp only; omega) (x1 := nI b) (x2 := nI (nM σ K (b, U + 1, 0, -1))) d (K b - 1) 1 (99999958 + 0) _ τd (by simp only; omega) (by omega) hs1 hv1 (by
    rw [eN_eq hJ he hk]
    exact List.Perm.refl _) (by simp)
  refine ⟨Q', τq, g, q2, q3, by omega, fun res h => ?_⟩
  rw [show d + 3 = (d + 2) + 1 from rfl, rp_36_g]
  simp only [hTb, hCb, if_true, e16, h24, nI_add]
  rw [if_neg (show ¬ (10 : Int32) < nI (K b) from (nI_nlt (by omega) (by decide) : ¬ nI 10 < nI (K b))), if_pos (show nI (U + K b) ≤ (200 : Int32) from (nI_le (by omega) (by decide) : nI (U + K b) ≤ nI 200))]
  simp (decide := true) only [mm_w_at2, h24, nI_1]
  rw [nI_0] at p3
  rw [show d + 2 = d + 1 + 1 from rfl, p3]
  simp only [pu_bnd, c24, c16, nI_add]
  rw [hc, show d + 1 + 1 = d + 2 from rfl]
  rw [nI_0] at s8
  rw [s8]
  simp only [pu_bnd]
  have := q4 res h
  rw [show nI 1 = (1 : Int32) by decide] at this
  exact this
def nN (U : Nat) (N : Nat → Nat → Nat) (σ' : mm_S) (q x : Nat) : Nat := if x ≤ U then N q x else if q < 3 then (σ'.1 (38 + q) x).toNatClampNeg else 0
def nO (U : Nat) (O : Nat → Nat) (σ' : mm_S) (x : Nat) : Nat := if x ≤ U then O x else (σ'.1 35 x).toNatClampNeg
def nB (U : Nat) (B : Nat → Nat) (σ' : mm_S) (x : Nat) : Nat := if x ≤ U then B x else (σ'.1 34 x).toNatClampNeg
def nH (U : Nat) (ht : Nat → Nat) (σ : mm_S) (K : Nat → Nat) (σ' : mm_S) (x : Nat) : Nat := if x ≤ U then ht x else hX σ K (σ'.1 34 x).toNatClampNeg
theorem pNn_le {σ : mm_S} {nb : Nat} {K : Nat → Nat} (hJ : jE σ nb K) {e : mE} (he : vE σ nb e) (hk : K e.1 ≤ 10) (hU : e.2.1 + K e.1 ≤ 201) {c : mE} (hc : c ∈ eN σ K e) (q : Nat) : pNn σ K c q ≤ 200 := by
  by_cases h0 : pNn σ K c q = 0
  · omega
  · obtain ⟨-, -, e3, e4⟩ := pNn_e h0
    obtain ⟨v, r1, r2⟩ := eN_rng hJ e he hk _ (eN_ch hJ e he hk c hc _ e4)
    have := nM_rng hJ v
    rw [e3]
    omega
theorem new_c {σ σ' : mm_S} {nb U G : Nat} {K : Nat → Nat} (hJ : jE σ nb K) {e : mE} (he : vE σ nb e) (hk : K e.1 ≤ 10) (hf : e.2.1 = U + 1) (h0 : e.2.2.1 = 0) (hU : U + K e.1 ≤ 200) {kl : List Nat} (hm : mk2 σ K (fun _ => False) σ σ' U (K e.1) G (eN σ K e) kl) (N : Nat → Nat → Nat) (O B ht : Nat → Nat) {c : mE} (hc : c ∈ eN σ K e) : (∀ q, q < 3 → nN U N σ' q (nM σ K c) = pNn σ K c q) ∧ nO U O σ' (nM σ K c) = c.2.2.1 ∧ nB U B σ' (nM σ K c) = c.1 ∧ nH U ht σ K σ' (nM σ K c) = hX σ K c.1 ∧ vE σ nb c ∧ K c.1 ≤ 10 ∧ U < nM σ K c ∧ nM σ K c ≤ U + K e.1 := by
  obtain ⟨v, r1, r2⟩ := eN_rng hJ e he hk c hc
  have hr := nM_rng hJ v
  obtain ⟨m1, m2, m3⟩ := hm.2.2.2.1 c hc
  have hn := hJ.1
  have ow := eN_owner hJ he hk (by omega) h0 hc
  have gt : ¬ nM σ K c ≤ U := by omega
  refine ⟨fun q hq => ?_, ?_, ?_, ?_, v, by omega, by omega, by omega⟩
  · unfold nN
    rw [if_neg gt, if_pos hq, m3 q hq, nI_clamp (by have := pNn_le hJ he hk (by omega) hc q; omega)]
  · unfold nO
    rw [if_neg gt, m2, nI_clamp (by omega)]
  · unfold nB
    rw [if_neg gt, m1, nI_clamp (by have := v.1; omega)]
  · unfold nH
    rw [if_neg gt, m1, nI_clamp (by have := v.1; omega)]
theorem new_W {σ σ' : mm_S} {nb U G : Nat} {K : Nat → Nat} {N : Nat → Nat → Nat} {O B ht : Nat → Nat} (hJ : jE σ nb K) {e : mE} (he : vE σ nb e) (hk : K e.1 ≤ 10) (hf : e.2.1 = U + 1) (h0 : e.2.2.1 = 0) (hU : U + K e.1 ≤ 200) {kl : List Nat} (hm : mk2 σ K (fun _ => False) σ σ' U (K e.1) G (eN σ K e) kl) (hW : tW U N ht) : tW (U + K e.1) (nN U N σ') (nH U ht σ K σ') := by
  intro x x1 x2
  by_cases hx : x ≤ U
  · obtain ⟨w1, w2, w3⟩ := hW x x1 hx
    have en : ∀ q, nN U N σ' q x = N q x := fun q => by unfold nN; rw [if_pos hx]
    have eh : nH U ht σ K σ' x = ht x := by unfold nH; rw [if_pos hx]
    have hc : ∀ p, p < 3 → ¬ N p x = 0 → nH U ht σ K σ' (N p x) = ht (N p x) := by
      intro p hp h
      have := (w2 p hp).resolve_left h
      unfold nH
      rw [if_pos this.2.1]
    refine ⟨by rw [eh]; exact w1, fun p hp => ?_, fun p q hpq hq => ?_⟩
    · rw [en, eh]
      by_cases h : N p x = 0
      · exact Or.inl h
      · right
        have := (w2 p hp).resolve_left h
        rw [hc p hp h]
        exact ⟨this.1, by omega, this.2.2⟩
    · rw [en, en]
      by_cases h : N p x = 0
      · exact Or.inl h
      · rw [hc p (by omega) h]
        exact w3 p q hpq hq
  · obtain ⟨c, hc, rfl⟩ := eN_cov hJ he hk (x := x) (by omega) (by omega)
    obtain ⟨n1, n2, n3, n4, n5, n6, n7, n8⟩ := new_c hJ he hk hf h0 hU hm N O B ht hc
    obtain ⟨f1, f2⟩ := pNn_f hJ n5
    have hch : ∀ p, ¬ pNn σ K c p = 0 → pNn σ K c p ≤ U + K e.1 ∧ nH U ht σ K σ' (pNn σ K c p) = hX σ K (pTg σ c.1 p) := by
      intro p h
      obtain ⟨-, -, e3, e4⟩ := pNn_e h
      obtain ⟨-, -, -, m4, -, -, m7, m8⟩ := new_c hJ he hk hf h0 hU hm N O B ht (eN_ch hJ e he hk c hc _ e4)
      rw [e3]
      exact ⟨m8, m4⟩
    refine ⟨?_, fun p hp => ?_, fun p q hpq hq => ?_⟩
    · rw [n4]
      unfold hX
      omega
    · rw [n1 p hp, n4]
      by_cases h : pNn σ K c p = 0
      · exact Or.inl h
      · right
        obtain ⟨g1, g2⟩ := (f1 p hp).resolve_left h
        obtain ⟨g3, g4⟩ := hch p h
        rw [g4]
        exact ⟨g1, g3, g2⟩
    · rw [n1 p (by omega), n1 q hq]
      by_cases h : pNn σ K c p = 0
      · exact Or.inl h
      · rw [(hch p h).2]
        exact f2 p q hpq hq
