/-! PURE: the reference's becomes: the same -/
-- the family pf_ of kit/laws/BITS.to-paste, pasted
theorem pf_lI {a : Nat} (h : a < 2 ^ 63) : (lN a).toInt = (a : Int) := lg_ofNat_toInt h
theorem pf_shr {a d : Nat} {D : Int64} (hD : (D.toBitVec.smod 64).toNat = d) (h : a < 2 ^ 62) : lN a >>> D = lN (a / 2 ^ d) := by
  have hd : a / 2 ^ d ≤ a := Nat.div_le_self _ _
  apply Int64.toInt_inj.mp
  have e : (lN a >>> D).toInt = (lN a).toInt >>> d := by
    rw [← hD]
    exact BitVec.toInt_sshiftRight ..
  rw [e, Int.shiftRight_eq_div_pow, pf_lI (by omega), pf_lI (by omega)]
  rfl
theorem pu_land5 {a : Nat} (h : a < 2 ^ 64) : lN a &&& 31 = lN (a % 32) := by
  apply Int64.toBitVec_inj.mp
  apply BitVec.eq_of_toNat_eq
  rw [Int64.toBitVec_and, BitVec.toNat_and]
  show (BitVec.ofNat 64 a).toNat &&& 31 = (BitVec.ofNat 64 (a % 32)).toNat
  rw [BitVec.toNat_ofNat, BitVec.toNat_ofNat, Nat.mod_eq_of_lt h, Nat.mod_eq_of_lt (show a % 32 < 2 ^ 64 by omega)]
  exact Nat.and_two_pow_sub_one_eq_mod _ 5
theorem pu_lshl {a s : Nat} {S : Int64} (hs : s < 63) (hS : (S.toBitVec.smod 64).toNat = s) (h : a * 2 ^ s < 2 ^ 64) : lN a <<< S = lN (a * 2 ^ s) := by
  apply Int64.toBitVec_inj.mp
  apply BitVec.eq_of_toNat_eq
  rw [Int64.toBitVec_shiftLeft, BitVec.shiftLeft_eq', BitVec.toNat_shiftLeft, hS, Nat.shiftLeft_eq]
  show (BitVec.ofNat 64 a).toNat * 2 ^ s % 2 ^ 64 = (BitVec.ofNat 64 (a * 2 ^ s)).toNat
  have h1 : a ≤ a * 2 ^ s := Nat.le_mul_of_pos_right _ (Nat.pow_pos (by decide))
  rw [BitVec.toNat_ofNat, BitVec.toNat_ofNat, Nat.mod_eq_of_lt (show a < 2 ^ 64 by omega)]
theorem r_bec_loop {P : Nat} (hP : pPar P) (τ : mm_S) (t : Int64) (d f : Nat) (hf : 300 ≤ f) : mm_ex sr (rG d) 2 rp_14_l f rp_14_r1 [.ref 0, .long (lN P), .null, .long t, .null, .long (pArg t), .null, .null, .null, .null, .null, .null] [] τ = some ((0 : Int32), (if P / 32 = 31 then lN (P % 32) + (pArg t <<< 5) else if P / 1024 = 31 then lN (P % 1024) + (pArg t <<< 10) else lN P), τ) := by
  obtain ⟨h1, h2, h3⟩ := hP
  have a0 : lN P >>> (((5 : Int32) * 0).toInt64 &&& 63) &&& 31 = lN (P % 32) := by
    rw [pf_shr (d := 0) (by decide) (by omega), pu_land5 (by omega)]
    simp
  have a1 : lN P >>> (((5 : Int32) * (0 + 1)).toInt64 &&& 63) &&& 31 = lN (P / 32 % 32) := by
    rw [pf_shr (d := 5) (by decide) (by omega), pu_land5 (by omega)]
  have a2 : lN P >>> (((5 : Int32) * (0 + 1 + 1)).toInt64 &&& 63) &&& 31 = lN (P / 1024) := by
    rw [pf_shr (d := 10) (by decide) (by omega), pu_land5 (by omega)]
    rw [show P / 2 ^ 10 % 32 = P / 1024 by omega]
  have q : ∀ n, n < 32 → ((lN n = 31) ↔ n = 31) := fun n hn => pk_lEQ (b := 31) (by omega) (by decide)
  rw [show f = (f - 4) + 4 by omega, rp_14_h1, show f - 4 + 0 = (f - 30) + 26 by omega, rp_14_h2, if_neg (by decide), a0]
  simp only [pu_cmp, q _ (show P % 32 < 32 by omega)]
  rw [if_neg h2]
  refine mm_ref _ _ [.ref 0, .long (lN P), .null, .long t, .null, .long (pArg t), .null, .long (lN (P % 32)), .null, .int (0 + 1), .null, .null] _ _ _ (by
    simp only [mm_rf, true_or, or_true, and_true, true_and]
    rw [pu_lshl (s := 0) (by decide) (by decide) (by omega)]
    simp) ?_
  rw [show f - 30 + 1 = (f - 55) + 26 by omega, rp_14_h2, if_neg (by decide), a1]
  simp only [pu_cmp, q _ (show P / 32 % 32 < 32 by omega)]
  by_cases hc : P / 32 % 32 = 31
  · have hz := h3 hc
    rw [if_pos hc]
    refine mm_ref _ _ [.ref 0, .long (lN P), .null, .long t, .null, .long (pArg t), .null, .long (lN (P % 32) + (pArg t <<< 5)), .null, .int (0 + 1 + 1), .null, .null] _ _ _ (by
      simp only [mm_rf, true_or, or_true, and_true, true_and]
      rw [show (((5 : Int32) * (0 + 1)).toInt64 &&& 63) = 5 by decide]
      simp) ?_
    rw [show f - 55 + 0 = (f - 81) + 26 by omega, rp_14_h2, if_neg (by decide), a2]
    simp only [pu_cmp, q _ (show P / 1024 < 32 by omega)]
    rw [if_neg (by omega)]
    refine mm_ref _ _ [.ref 0, .long (lN P), .null, .long t, .null, .long (pArg t), .null, .long (lN (P % 32) + (pArg t <<< 5)), .null, .int (0 + 1 + 1 + 1), .null, .null] _ _ _ (by
      simp only [mm_rf, true_or, or_true, and_true, true_and]
      rw [hz, pu_lshl (a := 0) (s := 10) (by decide) (by decide) (by rw [Nat.zero_mul]; exact Nat.pow_pos (by decide)), Nat.zero_mul, show lN 0 = 0 from rfl]
      simp) ?_
    rw [show f - 81 + 1 = (f - 106) + 26 by omega, rp_14_h2, if_pos (by decide), if_pos (show P / 32 = 31 by omega)]
  · rw [if_neg hc]
    have hn : ¬ P / 32 = 31 := by omega
    refine mm_ref _ _ [.ref 0, .long (lN P), .null, .long t, .null, .long (pArg t), .null, .long (lN (P % 1024)), .null, .int (0 + 1 + 1), .null, .null] _ _ _ (by
      simp only [mm_rf, true_or, or_true, and_true, true_and]
      rw [pu_lshl (s := 5) (by decide) (by decide) (by omega), lN_add, show P % 32 + P / 32 % 32 * 2 ^ 5 = P % 1024 by omega]
      simp) ?_
    rw [show f - 55 + 1 = (f - 80) + 26 by omega, rp_14_h2, if_neg (by decide), a2]
    simp only [pu_cmp, q _ (show P / 1024 < 32 by omega)]
    rw [if_neg hn]
    by_cases hd : P / 1024 = 31
    · rw [if_pos hd, if_pos hd]
      refine mm_ref _ _ [.ref 0, .long (lN P), .null, .long t, .null, .long (pArg t), .null, .long (lN (P % 1024) + (pArg t <<< 10)), .null, .int (0 + 1 + 1 + 1), .null, .null] _ _ _ (by
        simp only [mm_rf, true_or, or_true, and_true, true_and]
        rw [show (((5 : Int32) * (0 + 1 + 1)).toInt64 &&& 63) = 10 by decide]
        simp) ?_
      rw [show f - 80 + 0 = (f - 106) + 26 by omega, rp_14_h2, if_pos (by decide)]
    · rw [if_neg hd, if_neg hd]
      refine mm_ref _ _ [.ref 0, .long (lN P), .null, .long t, .null, .long (pArg t), .null, .long (lN P), .null, .int (0 + 1 + 1 + 1), .null, .null] _ _ _ (by
        simp only [mm_rf, true_or, or_true, and_true, true_and]
        rw [pu_lshl (s := 10) (by decide) (by decide) (by omega), lN_add, show P % 1024 + P / 1024 * 2 ^ 10 = P by omega]
        simp) ?_
      rw [show f - 80 + 1 = (f - 105) + 26 by omega, rp_14_h2, if_pos (by decide)]
theorem r_becomes {P : Nat} (hP : pPar P) (τ : mm_S) (t : Int64) (d : Nat) : rG (d + 1) 14 [.ref 0, .long (lN P), .long t] τ = some ((0 : Int32), pBec (τ.1 1) P t, τ) := by
  have h1 := hP.1
  rw [rp_14_g]
  have e : t >>> (((5 : Int32)).toInt64 &&& 63) = pArg t := rfl
  rw [e]
  simp only [pu_cmp, pHd_T, if_true, pHd_cl]
  by_cases ha : pArg t = 0
  · rw [if_pos ha]
    by_cases hg : τ.1 1 (pHd t) = 0
    · rw [if_pos hg, r_bec_loop hP _ _ _ _ (by omega)]
      simp only [pBec, ha, hg, not_true_eq_false, and_false, if_false]
    · rw [if_neg hg]
      rw [pu_land5 (by omega)]
      simp only [pBec, ha, hg, not_false_eq_true, and_self, if_true]
  · rw [if_neg ha, r_bec_loop hP _ _ _ _ (by omega)]
    simp only [pBec, ha, false_and, if_false]
