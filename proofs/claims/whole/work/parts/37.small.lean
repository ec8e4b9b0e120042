/-! what each component of the coupling reads -/
def stA (σ σ' : mm_S) : Prop := (∀ c, 6 ≤ c → c ≤ 27 → σ'.1 c = σ.1 c) ∧ σ'.1 1 0 = σ.1 1 0 ∧ σ'.1 2 1 = σ.1 2 1
def stR (τ τ' : mm_S) : Prop := (∀ c, 1 ≤ c → c ≤ 13 → τ'.1 c = τ.1 c) ∧ τ'.1 0 0 = τ.1 0 0 ∧ τ'.1 0 5 = τ.1 0 5
theorem cI_A {σ σ' : mm_S} {nc nb : Nat} {F1 F2 lv H : Nat → Nat} (q : stA σ σ') (h : cI σ nc nb F1 F2 lv H) : cI σ' nc nb F1 F2 lv H := by
  obtain ⟨q1, q2, q3⟩ := q
  unfold cI cK cB cR cH cHo at *
  simp only [q2, q3, q1 6 (by decide) (by decide), q1 9 (by decide) (by decide), q1 10 (by decide) (by decide), q1 11 (by decide) (by decide), q1 13 (by decide) (by decide), q1 17 (by decide) (by decide)]
  exact h
theorem sT_A {σ σ' τ τ' : mm_S} (q : stA σ σ') (r : stR τ τ') (h : sT σ τ) : sT σ' τ' := by
  obtain ⟨e, q2, q3⟩ := q
  obtain ⟨g, r2, r3⟩ := r
  obtain ⟨s1, s2, s3, s4, s5, s6, s7, s8, s9, s10, s11, s12, s13, s14⟩ := h
  refine ⟨?_, ?_, ?_, ?_, ?_, fun h => ?_, ?_, ?_, ?_, ?_, ?_, ?_, ?_, fun b p hp => ?_⟩
  · rw [q2, r2, s1]
  · rw [q3, r3, s2]
  · rw [e 6 (by decide) (by decide), g 1 (by decide) (by decide), s3]
  · rw [e 7 (by decide) (by decide), g 2 (by decide) (by decide), s4]
  · rw [e 8 (by decide) (by decide), g 3 (by decide) (by decide), s5]
  · rw [e 9 (by decide) (by decide), e 10 (by decide) (by decide), g 4 (by decide) (by decide)]; exact s6 h
  · rw [e 13 (by decide) (by decide), g 5 (by decide) (by decide), s7]
  · rw [e 14 (by decide) (by decide), g 6 (by decide) (by decide), s8]
  · rw [e 15 (by decide) (by decide), g 7 (by decide) (by decide), s9]
  · rw [e 16 (by decide) (by decide), g 8 (by decide) (by decide), s10]
  · rw [e 17 (by decide) (by decide), g 9 (by decide) (by decide), s11]
  · rw [e 18 (by decide) (by decide), g 10 (by decide) (by decide), s12]
  · rw [e 19 (by decide) (by decide), g 11 (by decide) (by decide), s13]
  · rw [e (21 + p) (by omega) (by omega), e (25 + p) (by omega) (by omega), g 12 (by decide) (by decide), g 13 (by decide) (by decide)]; exact s14 b p hp
theorem jX_A {σ σ' : mm_S} {nc nb : Nat} {F1 F2 lv : Nat → Nat} (q : stA σ σ') (h : jX σ nc nb F1 F2 lv) : jX σ' nc nb F1 F2 lv := by
  obtain ⟨e, q2, q3⟩ := q
  obtain ⟨x1, x2, x3, x4, x5⟩ := h
  refine ⟨x1, by rw [e 8 (by decide) (by decide)]; exact x2, by rw [e 7 (by decide) (by decide)]; exact x3, ?_, by rw [e 18 (by decide) (by decide), e 19 (by decide) (by decide)]; exact x5⟩
  intro j hj
  obtain ⟨y1, y2, y3, m, y4, y5, y6⟩ := x4 j hj
  rw [e 15 (by decide) (by decide), e 17 (by decide) (by decide), e 18 (by decide) (by decide), e 19 (by decide) (by decide), e 6 (by decide) (by decide)]
  refine ⟨y1, y2, y3, m, y4, y5, fun p hp => ?_⟩
  rw [e (21 + p) (by omega) (by omega)]
  exact y6 p hp
theorem jK_A {σ σ' τ τ' : mm_S} {nb : Nat} {K : Nat → Nat} (q : stA σ σ') (q2 : ∀ c, 29 ≤ c → c ≤ 33 → c ≠ 32 → σ'.1 c = σ.1 c) (r : τ'.1 16 = τ.1 16) (hpt : ∀ b, b < nb → pPt σ b ≤ 3) (h : jK σ τ nb K) : jK σ' τ' nb K := by
  obtain ⟨e, -, -⟩ := q
  intro b hb he
  rw [e 16 (by decide) (by decide), e 17 (by decide) (by decide)] at he
  obtain ⟨k1, k2, k3, k4⟩ := h b hb he
  have ept : pPt σ' b = pPt σ b := by unfold pPt; rw [e 19 (by decide) (by decide)]
  have etg : ∀ p, p < 3 → pTg σ' b p = pTg σ b p := fun p hp => by unfold pTg; rw [q2 (29 + p) (by omega) (by omega) (by omega)]
  have h3 := hpt b hb
  refine ⟨?_, ?_, ?_, ?_⟩
  · intro p hp
    rw [ept] at hp
    rw [e 16 (by decide) (by decide), e 17 (by decide) (by decide), q2 (29 + p) (by omega) (by omega) (by omega)]
    exact k1 p hp
  · rw [k2]
    have a1 : pHK σ' K b = pHK σ K b := by unfold pHK; rw [e 17 (by decide) (by decide)]
    have a2 : pDK σ' K b = pDK σ K b := by
      unfold pDK
      rw [ept, e 15 (by decide) (by decide)]
      exact pSum_ext (fun p hp => by rw [etg p (by omega)])
    rw [a1, a2]
  · rw [q2 33 (by decide) (by decide) (by decide)]; exact k3
  · rw [r]; exact k4
theorem jP_A {σ σ' τ τ' : mm_S} {nb : Nat} (q : stA σ σ') (q2 : ∀ c, 29 ≤ c → c ≤ 33 → c ≠ 32 → σ'.1 c = σ.1 c) (q3 : σ'.1 0 5 = σ.1 0 5) (r : τ'.1 16 = τ.1 16) (r2 : τ'.1 14 = τ.1 14) (hpt : ∀ b, b < nb → pPt σ b ≤ 3) (h : jP σ τ nb) : jP σ' τ' nb := by
  refine ⟨fun b p hp => ?_, fun hr => ?_⟩
  · rw [q2 (29 + p) (by omega) (by omega) (by omega), r2]
    exact h.1 b p hp
  · rw [q3] at hr
    obtain ⟨K, hK⟩ := h.2 hr
    exact ⟨K, jK_A q q2 r hpt hK⟩
theorem jI_A {σ σ' τ τ' : mm_S} {nb U G : Nat} {N : Nat → Nat → Nat} {O B ht : Nat → Nat} (q : ∀ c, (c = 4 ∨ (15 ≤ c ∧ c ≤ 17) ∨ (34 ≤ c ∧ c ≤ 41)) → σ'.1 c = σ.1 c) (r : ∀ c, 20 ≤ c → c ≤ 25 → τ'.1 c = τ.1 c) (r2 : τ'.1 0 24 = τ.1 0 24) (r3 : τ'.1 0 31 = τ.1 0 31) (h : jI σ τ nb U G N O B ht) : jI σ' τ' nb U G N O B ht := by
  unfold jI jI1 jI2 at *
  rw [q 4 (by decide), q 34 (by decide), q 35 (by decide), q 36 (by decide), q 41 (by decide), q 16 (by decide), q 17 (by decide), q 15 (by decide), r2, r3, r 20 (by decide) (by decide), r 21 (by decide) (by decide), r 22 (by decide) (by decide), r 23 (by decide) (by decide), r 24 (by decide) (by decide), r 25 (by decide) (by decide)]
  obtain ⟨i1, i2, i3, i4, i5, i6, i7, i8, i9, i10, i11, i12, i13, i14, i15⟩ := h
  refine ⟨i1, i2, i3, i4, i5, i6, i7, i8, i9, i10, i11, i12, i13, fun x p hp => ?_, i15⟩
  rw [q (38 + p) (Or.inr (Or.inr (by omega)))]
  exact i14 x p hp
theorem jC_A {σ σ' τ τ' : mm_S} {nb U : Nat} {O B : Nat → Nat} (q : ∀ c, (c = 15 ∨ c = 36 ∨ (42 ≤ c ∧ c ≤ 47)) → σ'.1 c = σ.1 c) (r : τ'.1 32 = τ.1 32) (r2 : τ'.1 33 = τ.1 33) (h : jC σ τ nb U O B) : jC σ' τ' nb U O B := by
  obtain ⟨c1, c2, c3⟩ := h
  refine ⟨fun c hc => ?_, fun c b hc hb => ?_, jU_A (fun k _ _ => q k (Or.inr (Or.inr (by omega)))) c3⟩
  · rw [q 42 (by decide), r]
    exact c1 c hc
  · rw [q (44 + c) (Or.inr (Or.inr (by omega))), q 36 (by decide), q 15 (by decide), q 42 (by decide), r2]
    exact c2 c b hc hb
/-! living or not -/
theorem inst_or (U : Nat) (hU : U ≤ 200) (x : Int32) : (x < 1 ∨ nI U < x) ∨ ∃ n, 1 ≤ n ∧ n ≤ U ∧ x = nI n := by
  rcases pk_ix x (n := U + 1) (by omega) with h | h | ⟨j, hj, e⟩
  · exact Or.inl (Or.inl (Int32.lt_trans h (by decide)))
  · refine Or.inl (Or.inr (Int32.lt_of_lt_of_le (nI_lt (show U < U + 1 by omega) (by omega)) h))
  · subst e
    by_cases h0 : j = 0
    · subst h0; exact Or.inl (Or.inl (by decide))
    · exact Or.inr ⟨j, by omega, by omega, rfl⟩
theorem c_isLiving_n {σ : mm_S} {x : Int32} (h : x < 1 ∨ σ.1 4 0 < x) (d : Nat) : cG (d + 1) 53 [.ref 4, .int x] σ = some (0, 0, σ) := by
  rw [cp_53_g]
  by_cases h0 : x < 1
  · rw [if_pos h0]
  · rw [if_neg h0, if_pos (h.resolve_left h0)]
theorem c_isLiving {σ : mm_S} {U n : Nat} (hU : U ≤ 200) (e : σ.1 4 0 = nI U) (h1 : 1 ≤ n) (h2 : n ≤ U) (d : Nat) : cG (d + 1) 53 [.ref 4, .int (nI n)] σ = some (pb (!decide (σ.1 36 n = 0)), 0, σ) := by
  have hT := pu_T (show n < 201 by omega) (by decide)
  have hC := pu_cl (show n < 201 by omega) (by decide)
  rw [cp_53_g, if_neg (show ¬ nI n < 1 from (nI_nlt h1 (by omega) : ¬ nI n < nI 1)), e, if_neg (nI_nlt h2 (by omega))]
  simp only [hT, if_true, hC]
  by_cases h : σ.1 36 n = 0
  · rw [if_pos h]; simp [h, pb]
  · rw [if_neg h]; simp [h, pb]
theorem r_living_n {τ : mm_S} {x : Int32} (h : x < 1 ∨ τ.1 0 24 < x) (d : Nat) : rG (d + 1) 42 [.ref 0, .int x] τ = some (0, 0, τ) := by
  rw [rp_42_g]
  by_cases h0 : x < 1
  · rw [if_pos h0]
  · rw [if_neg h0, if_pos (h.resolve_left h0)]
theorem r_living {τ : mm_S} {U n : Nat} (hU : U ≤ 200) (e : τ.1 0 24 = nI U) (h1 : 1 ≤ n) (h2 : n ≤ U) (d : Nat) : rG (d + 1) 42 [.ref 0, .int (nI n)] τ = some (pb (!decide (τ.1 23 n = 0)), 0, τ) := by
  have hT := pu_T (show n < 201 by omega) (by decide)
  have hC := pu_cl (show n < 201 by omega) (by decide)
  rw [rp_42_g, if_neg (show ¬ nI n < 1 from (nI_nlt h1 (by omega) : ¬ nI n < nI 1)), e, if_neg (nI_nlt h2 (by omega))]
  simp only [hT, if_true, hC]
  by_cases h : τ.1 23 n = 0
  · rw [if_pos h]; simp [h, pb]
  · rw [if_neg h]; simp [h, pb]
theorem s_beanOf : lq_S_beanOf jR := by
  intro x σ τ hR
  have hR0 := hR
  obtain ⟨nc, nb, U, G, F1, F2, lv, H, N, O, B, ht, h1, h2, h3, h4, h5, h6, h7⟩ := hR
  obtain ⟨i1, i2, i3, i4, i5, i6, i7, i8, i9, i10, i11, i12, i13, i14, i15⟩ := h5
  rcases inst_or U i1 x with h | ⟨n, n1, n2, rfl⟩
  · refine ⟨(-8, 0, σ), (-8, 0, τ), ?_, ?_, rfl, hR0⟩
    · rw [show (100 : Nat) = 98 + 1 + 1 from rfl, cp_86_g, c_isLiving_n (by rw [i3]; exact h)]; rfl
    · rw [show (100 : Nat) = 98 + 1 + 1 from rfl, rp_49_g, r_living_n (by rw [i6]; exact h)]; rfl
  · have hT := pu_T (show n < 201 by omega) (by decide)
    have hC := pu_cl (show n < 201 by omega) (by decide)
    by_cases ha : σ.1 36 n = 0
    · refine ⟨(-8, 0, σ), (-8, 0, τ), ?_, ?_, rfl, hR0⟩
      · rw [show (100 : Nat) = 98 + 1 + 1 from rfl, cp_86_g, c_isLiving i1 i3 n1 n2]
        simp [ha, pb]
      · rw [show (100 : Nat) = 98 + 1 + 1 from rfl, rp_49_g, r_living i1 i6 n1 n2, ← i10]
        simp [ha, pb]
    · refine ⟨(σ.1 34 n, 0, σ), (σ.1 34 n, 0, τ), ?_, ?_, rfl, hR0⟩
      · rw [show (100 : Nat) = 98 + 1 + 1 from rfl, cp_86_g, c_isLiving i1 i3 n1 n2]
        simp only [pu_bind, pb_if, ha, decide_false, Bool.not_false, if_true]
        rw [cp_54_g, c_isLiving i1 i3 n1 n2]
        simp only [pu_bind, pb_if, ha, decide_false, Bool.not_false, if_true, hT, hC]
      · rw [show (100 : Nat) = 98 + 1 + 1 from rfl, rp_49_g, r_living i1 i6 n1 n2, ← i10]
        simp only [pu_bind, pb_if, ha, decide_false, Bool.not_false, if_true, hT, hC]
        rw [i8]
theorem s_owner : lq_S_owner jR := by
  intro x σ τ hR
  have hR0 := hR
  obtain ⟨nc, nb, U, G, F1, F2, lv, H, N, O, B, ht, h1, h2, h3, h4, h5, h6, h7⟩ := hR
  obtain ⟨i1, i2, i3, i4, i5, i6, i7, i8, i9, i10, i11, i12, i13, i14, i15⟩ := h5
  rcases inst_or U i1 x with h | ⟨n, n1, n2, rfl⟩
  · refine ⟨(-8, 0, σ), (-8, 0, τ), ?_, ?_, rfl, hR0⟩
    · rw [show (100 : Nat) = 98 + 1 + 1 from rfl, cp_87_g, c_isLiving_n (by rw [i3]; exact h)]; rfl
    · rw [show (100 : Nat) = 98 + 1 + 1 from rfl, rp_50_g, r_living_n (by rw [i6]; exact h)]; rfl
  · have hT := pu_T (show n < 201 by omega) (by decide)
    have hC := pu_cl (show n < 201 by omega) (by decide)
    by_cases ha : σ.1 36 n = 0
    · refine ⟨(-8, 0, σ), (-8, 0, τ), ?_, ?_, rfl, hR0⟩
      · rw [show (100 : Nat) = 98 + 1 + 1 from rfl, cp_87_g, c_isLiving i1 i3 n1 n2]
        simp [ha, pb]
      · rw [show (100 : Nat) = 98 + 1 + 1 from rfl, rp_50_g, r_living i1 i6 n1 n2, ← i10]
        simp [ha, pb]
    · refine ⟨(σ.1 35 n, 0, σ), (σ.1 35 n, 0, τ), ?_, ?_, rfl, hR0⟩
      · rw [show (100 : Nat) = 98 + 1 + 1 from rfl, cp_87_g, c_isLiving i1 i3 n1 n2]
        simp only [pu_bind, pb_if, ha, decide_false, Bool.not_false, if_true]
        rw [cp_55_g, c_isLiving i1 i3 n1 n2]
        simp only [pu_bind, pb_if, ha, decide_false, Bool.not_false, if_true, hT, hC]
      · rw [show (100 : Nat) = 98 + 1 + 1 from rfl, rp_50_g, r_living i1 i6 n1 n2, ← i10]
        simp only [pu_bind, pb_if, ha, decide_false, Bool.not_false, if_true, hT, hC]
        rw [i9]
theorem s_destroyed : lq_S_destroyed jR := by
  intro x σ τ hR
  have hR0 := hR
  obtain ⟨nc, nb, U, G, F1, F2, lv, H, N, O, B, ht, h1, h2, h3, h4, h5, h6, h7⟩ := hR
  obtain ⟨i1, i2, i3, i4, i5, i6, i7, i8, i9, i10, i11, i12, i13, i14, i15⟩ := h5
  rcases pk_ix x (n := G) (by omega) with h | h | ⟨j, hj, rfl⟩
  · refine ⟨(0, 0, σ), (0, 0, τ), ?_, ?_, rfl, hR0⟩
    · rw [show (100 : Nat) = 98 + 1 + 1 from rfl, cp_88_g, cp_52_g, if_pos h]; rfl
    · rw [show (100 : Nat) = 98 + 1 + 1 from rfl, rp_51_g, if_pos h]
  · have h0 : ¬ x < 0 := by
      intro q
      have : nI G < 0 := Int32.lt_of_le_of_lt h q
      exact nI_pos (by omega) this
    refine ⟨(0, 0, σ), (0, 0, τ), ?_, ?_, rfl, hR0⟩
    · rw [show (100 : Nat) = 98 + 1 + 1 from rfl, cp_88_g, cp_52_g, if_neg h0, i5, if_pos h]; rfl
    · rw [show (100 : Nat) = 98 + 1 + 1 from rfl, rp_51_g, if_neg h0, i7, if_pos h]
  · refine ⟨(σ.1 41 j, 0, σ), (σ.1 41 j, 0, τ), ?_, ?_, rfl, hR0⟩
    · rw [show (100 : Nat) = 98 + 1 + 1 from rfl, cp_88_g, cp_52_g, if_neg (nI_pos (by omega)), i5, if_neg (nI_ge hj (by omega)), if_pos (pu_in (show j < 200 by omega) (by decide)), pu_cl (show j < 200 by omega) (by decide)]; rfl
    · rw [show (100 : Nat) = 98 + 1 + 1 from rfl, rp_51_g, if_neg (nI_pos (by omega)), i7, if_neg (nI_ge hj (by omega)), if_pos (pu_in (show j < 201 by omega) (by decide)), pu_cl (show j < 201 by omega) (by decide), i11]
theorem s_live : lq_S_live jR := by
  intro σ τ hR
  have hR0 := hR
  obtain ⟨nc, nb, U, G, F1, F2, lv, H, N, O, B, ht, h1, h2, h3, h4, h5, h6, h7⟩ := hR
  obtain ⟨i1, i2, i3, i4, i5, i6, i7, i8, i9, i10, i11, i12, i13, i14, i15⟩ := h5
  refine ⟨(nI (U - G), 0, σ), (nI (U - G), 0, τ), ?_, ?_, rfl, hR0⟩
  · rw [show (100 : Nat) = 98 + 1 + 1 from rfl, cp_89_g, cp_50_g, i4]; rfl
  · rw [show (100 : Nat) = 98 + 1 + 1 from rfl, rp_52_g, i6, i7, pk_sub i2]
theorem s_cost : lq_S_cost jR := by
  intro x σ τ hR
  have hR0 := hR
  obtain ⟨nc, nb, U, G, F1, F2, lv, H, N, O, B, ht, h1, h2, h3, h4, h5, h6, h7⟩ := hR
  have hB := h1.2.2.1
  have hI := rI_of h1 h2
  have hn := hB.2
  by_cases hr : σ.1 0 5 = 0
  · refine ⟨(-3, 0, σ), (-3, 0, τ), ?_, ?_, rfl, hR0⟩
    · rw [show (100 : Nat) = 98 + 1 + 1 from rfl, cp_79_g, if_pos hr]
    · rw [show (100 : Nat) = 98 + 1 + 1 from rfl, rp_33_g, if_pos (by rw [← h7.1]; exact hr)]
  · have hr2 : ¬ τ.1 0 15 = 0 := by rw [← h7.1]; exact hr
    rcases c_bean_or hB x with h | ⟨j, hj, rfl⟩
    · refine ⟨(-1, 0, σ), (-1, 0, τ), ?_, ?_, rfl, hR0⟩
      · rw [show (100 : Nat) = 98 + 1 + 1 from rfl, cp_79_g, if_neg hr, c_exists_n h]; rfl
      · rw [show (100 : Nat) = 98 + 1 + 1 from rfl, rp_33_g, if_neg hr2, r_isBean_n (by rw [← h2.2.1]; exact h)]; rfl
    · have h16 := pu_T (show j < 16 by omega) (by decide)
      have e16 := pu_cl (show j < 16 by omega) (by decide)
      have hE : pE (τ.1 8) (τ.1 9) j = pE (σ.1 16) (σ.1 17) j := by rw [h2.2.2.2.2.2.2.2.2.2.1, h2.2.2.2.2.2.2.2.2.2.2.1]
      cases he : pE (σ.1 16) (σ.1 17) j with
      | false =>
        refine ⟨(-1, 0, σ), (-1, 0, τ), ?_, ?_, rfl, hR0⟩
        · rw [show (100 : Nat) = 97 + 2 + 1 from rfl, cp_79_g, if_neg hr, c_exists_y hB hj]
          simp only [pu_bind, pu_10, if_false]
          rw [c_isEnabled hB h1.2.2.2.2.2.2.2.2.2.1 hj, he]
          rfl
        · rw [show (100 : Nat) = 97 + 2 + 1 from rfl, rp_33_g, if_neg hr2, r_isBean_y hI.2.2.1 hj]
          simp only [pu_bind, pu_10, if_false]
          rw [r_enabled hI.2.2.1 hI.2.2.2.2.2.2.2.1 hj, hE, he]
          rfl
      | true =>
        obtain ⟨K, hK⟩ := h4.2 hr
        obtain ⟨k1, k2, k3, k4⟩ := hK j hj he
        refine ⟨(nI (min 100 (K j)), 0, σ), (nI (min 100 (K j)), 0, τ), ?_, ?_, rfl, hR0⟩
        · rw [show (100 : Nat) = 97 + 2 + 1 from rfl, cp_79_g, if_neg hr, c_exists_y hB hj]
          simp only [pu_bind, pu_10, if_false]
          rw [c_isEnabled hB h1.2.2.2.2.2.2.2.2.2.1 hj, he]
          simp only [pu_bind, if_true, pu_10, if_false]
          rw [cp_61_g, c_exists_y hB hj]
          simp only [pu_bind, pu_10, if_false, h16, if_true, e16, k3]
        · rw [show (100 : Nat) = 97 + 2 + 1 from rfl, rp_33_g, if_neg hr2, r_isBean_y hI.2.2.1 hj]
          simp only [pu_bind, pu_10, if_false]
          rw [r_enabled hI.2.2.1 hI.2.2.2.2.2.2.2.1 hj, hE, he]
          simp only [pu_bind, if_true, pu_10, if_false, h16, e16, k4]
          by_cases hc : K j ≤ 100
          · rw [if_pos (show nI (min 101 (K j)) ≤ 100 from (nI_le (by omega) (by decide) : nI (min 101 (K j)) ≤ nI 100)), show min 101 (K j) = min 100 (K j) by omega]
          · rw [if_neg (show ¬ nI (min 101 (K j)) ≤ 100 from (nI_ge (by omega) (by omega) : ¬ nI (min 101 (K j)) ≤ nI 100)), show min 100 (K j) = 100 by omega]
            rfl
