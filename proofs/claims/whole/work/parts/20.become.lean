/-! PURE: what a parent becomes for a type: class and reference alike (types are longs) -/
theorem pu_cmp {x y : Int64} : (lg_cmp x y = 0) ↔ x = y := by
  unfold lg_cmp
  by_cases h : x > y
  · rw [if_pos h]
    constructor
    · intro q; exact absurd q (by decide)
    · intro q; rw [q] at h; exact (Int64.lt_irrefl h).elim
  · rw [if_neg h]
    by_cases h2 : x = y
    · simp [h2]
    · rw [if_neg h2]
      constructor
      · intro q; exact absurd q (by decide)
      · intro q; exact absurd q h2
def pHd (t : Int64) : Nat := (t &&& 31).toInt32.toNatClampNeg
def pArg (t : Int64) : Int64 := t >>> (((5 : Int32)).toInt64 &&& 63)
theorem pHd_eq (t : Int64) : (t &&& 31).toInt32 = nI (pHd t) ∧ pHd t < 32 := by
  have h1 : (t &&& 31) = lN (t.toBitVec.toNat % 32) := by
    apply Int64.toBitVec_inj.mp
    apply BitVec.eq_of_toNat_eq
    rw [Int64.toBitVec_and, BitVec.toNat_and]
    show t.toBitVec.toNat &&& 31 = (BitVec.ofNat 64 (t.toBitVec.toNat % 32)).toNat
    rw [BitVec.toNat_ofNat, Nat.mod_eq_of_lt (show t.toBitVec.toNat % 32 < 2 ^ 64 by omega)]
    exact Nat.and_two_pow_sub_one_eq_mod _ 5
  have h2 : t.toBitVec.toNat % 32 < 32 := Nat.mod_lt _ (by decide)
  have h3 : (t &&& 31).toInt32 = nI (t.toBitVec.toNat % 32) := by rw [h1, lN_i]
  have h4 : pHd t = t.toBitVec.toNat % 32 := by
    unfold pHd
    rw [h3, nI_clamp (by omega)]
  rw [h4]
  exact ⟨h3, h2⟩
theorem pHd_T (t : Int64) : (mm_in (t &&& 31).toInt32 32) = True := by
  rw [(pHd_eq t).1]
  exact pu_T (pHd_eq t).2 (by decide)
theorem pHd_cl (t : Int64) : (t &&& 31).toInt32.toNatClampNeg = pHd t := by
  have h := pHd_eq t
  rw [h.1]
  exact nI_clamp (by omega)
/-- 'or' of a small number and a shifted one is their sum -/
theorem pu_or {a s : Nat} {S : Int64} (ha : a < 2 ^ s) (hs : s < 63) (hS : (S.toBitVec.smod 64).toNat = s) (y : Int64) : lN a ||| (y <<< S) = lN a + (y <<< S) := by
  apply Int64.toBitVec_inj.mp
  apply BitVec.eq_of_toNat_eq
  rw [Int64.toBitVec_or, Int64.toBitVec_add, BitVec.toNat_or, BitVec.toNat_add]
  have e : (y <<< S).toBitVec.toNat = 2 ^ s * (y.toBitVec.toNat % 2 ^ (64 - s)) := by
    rw [Int64.toBitVec_shiftLeft, BitVec.shiftLeft_eq', BitVec.toNat_shiftLeft, hS, Nat.shiftLeft_eq, Nat.mul_comm]
    rw [show 2 ^ 64 = 2 ^ s * 2 ^ (64 - s) by rw [← Nat.pow_add]; congr 1; omega, Nat.mul_mod_mul_left]
  have h64 : 2 ^ s ≤ 2 ^ 62 := Nat.pow_le_pow_right (by decide) (by omega)
  have ea : (lN a).toBitVec.toNat = a := by
    show (BitVec.ofNat 64 a).toNat = a
    rw [BitVec.toNat_ofNat, Nat.mod_eq_of_lt (by omega)]
  rw [e, ea, Nat.or_comm, ← Nat.two_pow_add_eq_or_of_lt ha, Nat.add_comm a]
  symm
  apply Nat.mod_eq_of_lt
  have h1 : y.toBitVec.toNat % 2 ^ (64 - s) + 1 ≤ 2 ^ (64 - s) := Nat.mod_lt _ (Nat.pow_pos (by decide))
  have h2 : 2 ^ s * (y.toBitVec.toNat % 2 ^ (64 - s) + 1) ≤ 2 ^ s * 2 ^ (64 - s) := Nat.mul_le_mul_left _ h1
  rw [← Nat.pow_add, show s + (64 - s) = 64 by omega, Nat.mul_add, Nat.mul_one] at h2
  omega
/-- a parent's code: at most three digits, the VARIABLE last alone -/
def pPar (P : Nat) : Prop := P < 32768 ∧ ¬ P % 32 = 31 ∧ (P / 32 % 32 = 31 → P / 1024 = 0)
def pBec (ge : Nat → Int32) (P : Nat) (t : Int64) : Int64 := if pArg t = 0 ∧ ¬ ge (pHd t) = 0 then lN (P % 32) else if P / 32 = 31 then lN (P % 32) + (pArg t <<< 5) else if P / 1024 = 31 then lN (P % 1024) + (pArg t <<< 10) else lN P
theorem c_bec_loop {P : Nat} (hP : pPar P) (σ : mm_S) (t : Int64) (d f : Nat) (hf : 200 ≤ f) : mm_ex sc (cG d) 2 cp_36_l f cp_36_r1 [.ref 1, .int (nI P), .long t, .null, .long (pArg t), .null, .null, .null] [] σ = some ((0 : Int32), (if P / 32 = 31 then lN (P % 32) + (pArg t <<< 5) else if P / 1024 = 31 then lN (P % 1024) + (pArg t <<< 10) else lN P), σ) := by
  obtain ⟨h1, h2, h3⟩ := hP
  have e1 : nI P >>> ((1 : Int32) * 5 &&& 31) = nI (P / 32) := pk_shrN (by omega) _ 5 (by decide)
  have e2 : nI P >>> ((1 + 1 : Int32) * 5 &&& 31) = nI (P / 1024) := pk_shrN (by omega) _ 10 (by decide)
  have c1 : (nI (P / 32) = 31) ↔ P / 32 = 31 := nI_eq (b := 31) (by omega) (by decide)
  have c2 : (nI (P / 1024) = 31) ↔ P / 1024 = 31 := nI_eq (b := 31) (by omega) (by decide)
  rw [show f = (f - 2) + 2 by omega, cp_36_h1, show f - 2 + 0 = (f - 27) + 25 by omega, cp_36_h2, if_neg (by decide), e1]
  simp only [c1]
  by_cases hc : P / 32 = 31
  · rw [if_pos hc, if_pos hc]
    rw [show (nI P &&& ((1 : Int32) <<< ((1 : Int32) * 5 &&& 31) - 1)) = nI (P % 32) from pk_andN (by omega) 5 (by decide), nI_l (by omega)]
    rw [pu_or (s := 5) (by omega) (by decide) (by decide), show (((1 : Int32) * 5).toInt64 &&& 63) = 5 by decide]
  · rw [if_neg hc, if_neg hc]
    refine mm_ref _ _ [.ref 1, .int (nI P), .long t, .null, .long (pArg t), .null, .int (1 + 1), .null] _ _ _ (by simp [mm_rf]) ?_
    rw [show f - 27 + 11 = (f - 41) + 25 by omega, cp_36_h2, if_neg (by decide), e2]
    simp only [c2]
    by_cases hd : P / 1024 = 31
    · rw [if_pos hd, if_pos hd]
      rw [show (nI P &&& ((1 : Int32) <<< ((1 + 1 : Int32) * 5 &&& 31) - 1)) = nI (P % 1024) from pk_andN (by omega) 10 (by decide), nI_l (by omega)]
      rw [pu_or (s := 10) (by omega) (by decide) (by decide), show (((1 + 1 : Int32) * 5).toInt64 &&& 63) = 10 by decide]
    · rw [if_neg hd, if_neg hd]
      refine mm_ref _ _ [.ref 1, .int (nI P), .long t, .null, .long (pArg t), .null, .int (1 + 1 + 1), .null] _ _ _ (by simp [mm_rf]) ?_
      rw [show f - 41 + 11 = (f - 55) + 25 by omega, cp_36_h2, if_pos (by decide), nI_l (by omega)]
theorem c_become {P : Nat} (hP : pPar P) (σ : mm_S) (t : Int64) (d : Nat) : cG (d + 1) 36 [.ref 1, .int (nI P), .long t] σ = some ((0 : Int32), pBec (σ.1 6) P t, σ) := by
  have h1 := hP.1
  rw [cp_36_g]
  have e : t >>> (((5 : Int32)).toInt64 &&& 63) = pArg t := rfl
  rw [e]
  simp only [pu_cmp, pHd_T, if_true, pHd_cl]
  by_cases ha : pArg t = 0
  · rw [if_pos ha]
    by_cases hg : σ.1 6 (pHd t) = 0
    · rw [if_pos hg, c_bec_loop hP _ _ _ _ (by omega)]
      simp only [pBec, ha, hg, not_true_eq_false, and_false, if_false]
    · rw [if_neg hg]
      rw [pu_and5 (by omega), nI_l (by omega)]
      simp only [pBec, ha, hg, not_false_eq_true, and_self, if_true]
  · rw [if_neg ha, c_bec_loop hP _ _ _ _ (by omega)]
    simp only [pBec, ha, false_and, if_false]
