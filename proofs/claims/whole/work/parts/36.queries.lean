/-! THE METHODS: types, fits, candidates, resolve -/
theorem pCode_some {nc : Nat} {g : Nat → Int32} {w v : Bool} {k : Nat} {x : Int32} (h : pCode nc g w v k x = true) : ∃ R, R < 2 ^ 31 ∧ x = nI R ∧ (pTA nc g w v k).1 R = true := by
  unfold pCode at h
  rw [Bool.and_eq_true, Bool.not_eq_true', decide_eq_false_iff_not] at h
  obtain ⟨c, hc, rfl⟩ := nI_of (x := x) (fun q => h.1 (Int32.le_of_lt q))
  refine ⟨c, hc, rfl, ?_⟩
  have := h.2
  rw [nI_clamp hc] at this
  exact this
theorem c_isRequired {σ : mm_S} {nc : Nat} (hK : cK σ nc) (x : Int32) (d : Nat) : cG (d + 14) 29 [.ref 1, .int x] σ = some (pb (pCode nc (σ.1 6) true false 6 x), 0, σ) := by
  have h := c_isTypeCode hK true false (k := 6) (by decide) x d
  rw [show nI 6 = (6 : Int32) by decide, pb_t, pb_f] at h
  rw [cp_29_g, h]
  simp only [Option.bind_some]
  rw [if_pos (pb_01 _)]
theorem r_required {τ : mm_S} {nc : Nat} (hK : rK τ nc) (x : Int32) (d : Nat) : rG (d + 2) 1 [.ref 0, .int x] τ = some (pb (pCode nc (τ.1 1) true false 6 x), 0, τ) := by
  have h := r_written hK true false (k := 6) (by decide) x d
  rw [show nI 6 = (6 : Int32) by decide, pb_t, pb_f] at h
  rw [rp_1_g, h]
  simp only [Option.bind_some]
  rw [if_pos (pb_01 _)]
def pFine (x : Int32) : Bool := !decide (x < 0) && (!decide (32767 < x) && !decide (1 < ((x >>> ((3 : Int32) &&& 31)) &&& 7)))
theorem c_areMarks (σ : mm_S) (x : Int32) (d : Nat) : cG (d + 2) 92 [.int x] σ = some (pb (pFine x), 0, σ) := by
  rw [cp_92_g, cp_91_g]
  simp only [Option.bind_some, show (1 : Int32) * 3 = 3 by decide]
  unfold pFine
  by_cases h1 : x < 0
  · simp [h1, pb]
  · rw [if_neg h1]
    by_cases h2 : 32767 < x
    · simp [h1, h2, pb]
    · rw [if_neg h2]
      by_cases h3 : 1 < ((x >>> ((3 : Int32) &&& 31)) &&& 7)
      · rw [if_pos h3]; simp [h3, pb]
      · rw [if_neg h3]; simp [h1, h2, h3, pb]
theorem r_fine (τ : mm_S) (x : Int32) (d : Nat) : rG (d + 1) 2 [.int x] τ = some (pb (pFine x), 0, τ) := by
  rw [rp_2_g]
  unfold pFine
  by_cases h1 : x < 0
  · simp [h1, pb]
  · rw [if_neg h1]
    by_cases h2 : 32767 < x
    · simp [h1, h2, pb]
    · rw [if_neg h2]
      by_cases h3 : 1 < ((x >>> ((3 : Int32) &&& 31)) &&& 7)
      · rw [if_pos h3]; simp [h3, pb]
      · rw [if_neg h3]; simp [h1, h2, h3, pb]
def pAsk (x : Int32) : Bool := decide (x = -1) || pFine x
theorem r_askable (τ : mm_S) (x : Int32) (d : Nat) : rG (d + 2) 3 [.int x] τ = some (pb (pAsk x), 0, τ) := by
  rw [rp_3_g, r_fine]
  unfold pAsk
  by_cases h : x = -1
  · rw [if_pos h]; simp [h, pb]
  · rw [if_neg h]
    simp only [Option.bind_some, pb_if]
    cases hf : pFine x <;> simp [h, pb]
theorem c_isRequirement {σ : mm_S} {nc : Nat} (hK : cK σ nc) (x w : Int32) (d : Nat) : cG (d + 15) 94 [.ref 0, .int x, .int w] σ = some (pb (pCode nc (σ.1 6) true false 6 x && pAsk w), 0, σ) := by
  rw [cp_94_g, c_isRequired hK]
  simp only [Option.bind_some, pb_if]
  cases pCode nc (σ.1 6) true false 6 x with
  | false => rfl
  | true =>
    rw [if_pos rfl, show d + 14 = (d + 12) + 2 by omega, c_areMarks]
    unfold pAsk
    by_cases h : w = -1
    · rw [if_pos h]; simp [h, pb]
    · rw [if_neg h]
      simp only [Option.bind_some, pb_if]
      cases hf : pFine w <;> simp [h, pb]
theorem pu_bind {α β : Type} {a : α} {f : α → Option β} : (some a).bind f = f a := rfl
theorem jR_I {σ τ : mm_S} {nc nb : Nat} {F1 F2 lv H : Nat → Nat} (h1 : cI σ nc nb F1 F2 lv H) (h2 : sT σ τ) : rK τ nc := ⟨by rw [← h2.1]; exact h1.1.1, h1.1.2⟩
theorem r_isBean_y {τ : mm_S} {n j : Nat} (hB : rB τ n) (hj : j < n) (d : Nat) : rG (d + 1) 9 [.ref 0, .int (nI j)] τ = some (1, 0, τ) := by
  have hn := hB.2
  rw [rp_9_g, if_neg (nI_pos (by omega)), hB.1, if_neg (nI_ge hj (by omega))]
theorem r_isBean_n {τ : mm_S} {x : Int32} (h : x < 0 ∨ τ.1 0 5 ≤ x) (d : Nat) : rG (d + 1) 9 [.ref 0, .int x] τ = some (0, 0, τ) := by
  rw [rp_9_g]
  by_cases h0 : x < 0
  · rw [if_pos h0]
  · rw [if_neg h0, if_pos (h.resolve_left h0)]
theorem s_types : lq_S_types jR := by
  intro x σ τ hR
  have hR0 := hR
  obtain ⟨nc, nb, U, G, F1, F2, lv, H, N, O, B, ht, h1, h2, h3, h4, h5, h6, h7⟩ := hR
  have hB := h1.2.2.1
  have hI := rI_of h1 h2
  have hn := hB.2
  rcases c_bean_or hB x with h | ⟨j, hj, rfl⟩
  · refine ⟨(-1, 0, σ), (-1, 0, τ), by rw [show (100 : Nat) = 98 + 1 + 1 from rfl, cp_74_g, c_exists_n h]; rfl, by rw [show (100 : Nat) = 98 + 1 + 1 from rfl, rp_23_g, r_isBean_n (by rw [← h2.2.1]; exact h)]; rfl, rfl, hR0⟩
  · have h16 := pu_T (show j < 16 by omega) (by decide)
    have e16 := pu_cl (show j < 16 by omega) (by decide)
    refine ⟨(nI (pSup F1 F2 (σ.1 6) (σ.2 12) (σ.1 13 j).toInt64).2, 0, cS σ (pSup F1 F2 (σ.1 6) (σ.2 12) (σ.1 13 j).toInt64).1 (pSup F1 F2 (σ.1 6) (σ.2 12) (σ.1 13 j).toInt64).2), (nI (pSup F1 F2 (τ.1 1) (τ.2 17) (τ.1 5 j).toInt64).2, 0, rS τ (pSup F1 F2 (τ.1 1) (τ.2 17) (τ.1 5 j).toInt64).1 (pSup F1 F2 (τ.1 1) (τ.2 17) (τ.1 5 j).toInt64).2), ?_, ?_, ?_, ?_⟩
    · rw [show (100 : Nat) = 97 + 1 + 1 + 1 from rfl, cp_74_g, c_exists_y hB hj]
      simp only [pu_bind, pu_10, if_false]
      rw [c_typeOf hB hj]
      simp only [pu_bind]
      rw [c_countSupertypes h1.2.2.2.1 h1.2.2.2.2.1 h1.2.2.2.2.2.1]
      rfl
    · rw [show (100 : Nat) = 97 + 1 + 1 + 1 from rfl, rp_23_g, r_isBean_y hI.2.2.1 hj]
      simp only [pu_bind, pu_10, if_false, h16, if_true, e16]
      rw [r_climb hI.2.2.2.1 hI.2.2.2.2.1 hI.2.2.2.2.2.1]
      simp only [pu_bind]
      rw [rS_n]
    · show nI _ = nI _
      rw [← h2.2.2.1, ← h2.2.2.2.2.2.2.1]
      exact congrArg nI (pSim_sup (a := σ.2 12) (a' := τ.2 17)).1
    · exact jR_Q (cQ_S _ _ _) (rQ_of (rEq_S _ _ _)) hR0
theorem s_fits : lq_S_fits jR := by
  intro x y σ τ hR
  have hR0 := hR
  obtain ⟨nc, nb, U, G, F1, F2, lv, H, N, O, B, ht, h1, h2, h3, h4, h5, h6, h7⟩ := hR
  have hB := h1.2.2.1
  have hI := rI_of h1 h2
  have hn := hB.2
  rcases c_bean_or hB y with h | ⟨j, hj, rfl⟩
  · refine ⟨(-1, 0, σ), (-1, 0, τ), by rw [show (100 : Nat) = 98 + 1 + 1 from rfl, cp_75_g, c_exists_n h]; rfl, by rw [show (100 : Nat) = 98 + 1 + 1 from rfl, rp_24_g, r_isBean_n (by rw [← h2.2.1]; exact h)]; rfl, rfl, hR0⟩
  · have h16 := pu_T (show j < 16 by omega) (by decide)
    have e16 := pu_cl (show j < 16 by omega) (by decide)
    have eg : τ.1 1 = σ.1 6 := h2.2.2.1.symm
    cases hc : pCode nc (σ.1 6) true false 6 x with
    | false =>
      refine ⟨(-1, 0, σ), (-1, 0, τ), ?_, ?_, rfl, hR0⟩
      · rw [show (100 : Nat) = 98 + 1 + 1 from rfl, cp_75_g, c_exists_y hB hj]
        simp only [pu_bind, pu_10, if_false]
        rw [show 98 + 1 = 85 + 14 from rfl, c_isRequired h1.1, hc]
        rfl
      · rw [show (100 : Nat) = 97 + 2 + 1 from rfl, rp_24_g, r_isBean_y hI.2.2.1 hj]
        simp only [pu_bind, pu_10, if_false]
        rw [r_required (jR_I h1 h2), eg, hc]
        rfl
    | true =>
      obtain ⟨R, h31, rfl, hv⟩ := pCode_some hc
      obtain ⟨a, n, ar, ab, kk, hm⟩ := r_met (τ := τ) (nc := nc) hI.2.1 hI.2.2.2.1 hI.2.2.2.2.1 hI.2.2.2.2.2.1 h31 (by rw [eg]; exact hv) (τ.1 5 j).toInt64 96
      refine ⟨(pb (pSm F1 F2 (σ.1 6) 6 R (σ.1 13 j).toInt64), 0, σ), (pb (pSm F1 F2 (τ.1 1) 6 R (τ.1 5 j).toInt64), 0, rM τ a n ar ab kk), ?_, ?_, ?_, ?_⟩
      · rw [show (100 : Nat) = 98 + 1 + 1 from rfl, cp_75_g, c_exists_y hB hj]
        simp only [pu_bind, pu_10, if_false]
        rw [show 98 + 1 = 85 + 14 from rfl, c_isRequired h1.1, hc]
        simp only [pu_bind, pb_if, if_true]
        rw [show 85 + 14 = 97 + 2 from rfl, c_typeOf hB hj]
        simp only [pu_bind]
        rw [show 97 + 2 = 63 + 36 from rfl, c_metb h1 h31 hv hj]
        simp only [pu_bind, pb_if]
        cases pSm F1 F2 (σ.1 6) 6 R (σ.1 13 j).toInt64 <;> rfl
      · rw [show (100 : Nat) = 97 + 2 + 1 from rfl, rp_24_g, r_isBean_y hI.2.2.1 hj]
        simp only [pu_bind, pu_10, if_false]
        rw [r_required (jR_I h1 h2), eg, hc]
        simp only [pu_bind, pb_if, if_true, h16, e16]
        rw [nI_l h31, show 97 + 2 = 96 + 3 from rfl, hm]
        simp only [pu_bind, pb_if]
        rw [eg]
        cases pSm F1 F2 (σ.1 6) 6 R (τ.1 5 j).toInt64 <;> rfl
      · show pb _ = pb _
        rw [eg, ← h2.2.2.2.2.2.2.1]
      · exact jR_Q (cQ_refl σ) (rQ_of (rEq_M _ _ _ _ _ _)) hR0
theorem s_candidates : lq_S_candidates jR := by
  intro x w σ τ hR
  have hR0 := hR
  obtain ⟨nc, nb, U, G, F1, F2, lv, H, N, O, B, ht, h1, h2, h3, h4, h5, h6, h7⟩ := hR
  have hB := h1.2.2.1
  have hI := rI_of h1 h2
  have hn := hB.2
  have eg : τ.1 1 = σ.1 6 := h2.2.2.1.symm
  cases hc : pCode nc (σ.1 6) true false 6 x with
  | false =>
    refine ⟨(-1, 0, σ), (-1, 0, τ), ?_, ?_, rfl, hR0⟩
    · rw [show (100 : Nat) = 84 + 15 + 1 from rfl, cp_76_g, c_isRequirement h1.1, hc]
      rfl
    · rw [show (100 : Nat) = 97 + 2 + 1 from rfl, rp_25_g, r_required (jR_I h1 h2), eg, hc]
      rfl
  | true =>
    cases ha : pAsk w with
    | false =>
      refine ⟨(-1, 0, σ), (-1, 0, τ), ?_, ?_, rfl, hR0⟩
      · rw [show (100 : Nat) = 84 + 15 + 1 from rfl, cp_76_g, c_isRequirement h1.1, hc, ha]
        rfl
      · rw [show (100 : Nat) = 97 + 2 + 1 from rfl, rp_25_g, r_required (jR_I h1 h2), eg, hc]
        simp only [pu_bind, pb_if, if_true]
        rw [r_askable, ha]
        rfl
    | true =>
      obtain ⟨R, h31, rfl, hv⟩ := pCode_some hc
      obtain ⟨τ', q, hs⟩ := r_seek hI h31 (by rw [eg]; exact hv) w 95
      have hb := pBits_lt (pCd1 F1 F2 (σ.1 6) (σ.1 13) (σ.1 14) (σ.1 16) (σ.1 17) R w) nb
      have h16 : 2 ^ nb ≤ 2 ^ 16 := Nat.pow_le_pow_right (by decide) hn
      refine ⟨(nI (pCt (pBits (pCd1 F1 F2 (σ.1 6) (σ.1 13) (σ.1 14) (σ.1 16) (σ.1 17) R w) nb).testBit 16), 0, σ), (nI (pCt (pBits (pCd1 F1 F2 (σ.1 6) (σ.1 13) (σ.1 14) (σ.1 16) (σ.1 17) R w) nb).testBit 16), 0, τ'), ?_, ?_, rfl, ?_⟩
      · rw [show (100 : Nat) = 84 + 15 + 1 from rfl, cp_76_g, c_isRequirement h1.1, hc, ha]
        simp only [pu_bind, Bool.and_self, pb_if, if_true]
        rw [show 84 + 15 = 62 + 37 from rfl, c_candidateSet h1 h31 hv]
        simp only [pu_bind]
        rw [show 62 + 37 = 98 + 1 from rfl, c_bitCount (by omega)]
        rfl
      · rw [show (100 : Nat) = 97 + 2 + 1 from rfl, rp_25_g, r_required (jR_I h1 h2), eg, hc]
        simp only [pu_bind, pb_if, if_true]
        rw [r_askable, ha]
        simp only [pu_bind, pb_if, if_true]
        rw [show 97 + 2 = 95 + 4 from rfl, hs]
        simp only [pu_bind]
        rw [eg, ← h2.2.2.2.2.2.2.1, ← h2.2.2.2.2.2.2.2.1, ← h2.2.2.2.2.2.2.2.2.2.1, ← h2.2.2.2.2.2.2.2.2.2.2.1, show 95 + 4 = 98 + 1 from rfl, r_count (by omega)]
        rfl
      · exact jR_Q (cQ_refl σ) (rQ_of q) hR0
theorem s_resolve : lq_S_resolve jR := by
  intro x w σ τ hR
  have hR0 := hR
  obtain ⟨nc, nb, U, G, F1, F2, lv, H, N, O, B, ht, h1, h2, h3, h4, h5, h6, h7⟩ := hR
  have hB := h1.2.2.1
  have hI := rI_of h1 h2
  have hn := hB.2
  have eg : τ.1 1 = σ.1 6 := h2.2.2.1.symm
  cases hc : pCode nc (σ.1 6) true false 6 x with
  | false =>
    refine ⟨(-1, 0, σ), (-1, 0, τ), ?_, ?_, rfl, hR0⟩
    · rw [show (100 : Nat) = 84 + 15 + 1 from rfl, cp_77_g, c_isRequirement h1.1, hc]
      rfl
    · rw [show (100 : Nat) = 97 + 2 + 1 from rfl, rp_26_g, r_required (jR_I h1 h2), eg, hc]
      rfl
  | true =>
    cases ha : pAsk w with
    | false =>
      refine ⟨(-1, 0, σ), (-1, 0, τ), ?_, ?_, rfl, hR0⟩
      · rw [show (100 : Nat) = 84 + 15 + 1 from rfl, cp_77_g, c_isRequirement h1.1, hc, ha]
        rfl
      · rw [show (100 : Nat) = 97 + 2 + 1 from rfl, rp_26_g, r_required (jR_I h1 h2), eg, hc]
        simp only [pu_bind, pb_if, if_true]
        rw [r_askable, ha]
        rfl
    | true =>
      obtain ⟨R, h31, rfl, hv⟩ := pCode_some hc
      obtain ⟨τ', q, hs⟩ := r_pick hI h31 (by rw [eg]; exact hv) w 94
      refine ⟨(pFd (pCd1 F1 F2 (σ.1 6) (σ.1 13) (σ.1 14) (σ.1 16) (σ.1 17) R w) (pRk (σ.1 16) (σ.1 17)) nb, 0, σ), (pFd (pCd1 F1 F2 (σ.1 6) (σ.1 13) (σ.1 14) (σ.1 16) (σ.1 17) R w) (pRk (σ.1 16) (σ.1 17)) nb, 0, τ'), ?_, ?_, rfl, ?_⟩
      · rw [show (100 : Nat) = 84 + 15 + 1 from rfl, cp_77_g, c_isRequirement h1.1, hc, ha]
        simp only [pu_bind, Bool.and_self, pb_if, if_true]
        rw [show 84 + 15 = 61 + 38 from rfl, c_find h1 h31 hv]
        rfl
      · rw [show (100 : Nat) = 97 + 2 + 1 from rfl, rp_26_g, r_required (jR_I h1 h2), eg, hc]
        simp only [pu_bind, pb_if, if_true]
        rw [r_askable, ha]
        simp only [pu_bind, pb_if, if_true]
        rw [show 97 + 2 = 94 + 5 from rfl, hs]
        simp only [pu_bind]
        rw [eg, ← h2.2.2.2.2.2.2.1, ← h2.2.2.2.2.2.2.2.1, ← h2.2.2.2.2.2.2.2.2.2.1, ← h2.2.2.2.2.2.2.2.2.2.2.1]
      · exact jR_Q (cQ_refl σ) (rQ_of q) hR0
