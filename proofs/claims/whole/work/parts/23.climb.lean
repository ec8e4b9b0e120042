/-! PURE: all supertypes of a type: class and reference walk the same rows; at most 16 of them -/
def pSt (F1 F2 : Nat → Nat) (ge : Nat → Int32) (t : Int64) (s : (Nat → Int64) × Nat) : (Nat → Int64) × Nat :=
  if F2 (pHd t) = 0 then (if F1 (pHd t) = 0 then s else pNt s (pBec ge (F1 (pHd t)) t)) else pNt (if F1 (pHd t) = 0 then s else pNt s (pBec ge (F1 (pHd t)) t)) (pBec ge (F2 (pHd t)) t)
def pCl (F1 F2 : Nat → Nat) (ge : Nat → Int32) : Nat → Nat → (Nat → Int64) × Nat → (Nat → Int64) × Nat
  | 0, _, s => s
  | r + 1, k, s => if s.2 ≤ k then s else pCl F1 F2 ge r (k + 1) (pSt F1 F2 ge (s.1 k) s)
/-- heads: what becomes of a parent has the parent's head -/
theorem pHd_nat (t : Int64) : pHd t = t.toBitVec.toNat % 32 := by
  have h1 : (t &&& 31) = lN (t.toBitVec.toNat % 32) := by
    apply Int64.toBitVec_inj.mp
    apply BitVec.eq_of_toNat_eq
    rw [Int64.toBitVec_and, BitVec.toNat_and]
    show t.toBitVec.toNat &&& 31 = (BitVec.ofNat 64 (t.toBitVec.toNat % 32)).toNat
    rw [BitVec.toNat_ofNat, Nat.mod_eq_of_lt (show t.toBitVec.toNat % 32 < 2 ^ 64 by omega)]
    exact Nat.and_two_pow_sub_one_eq_mod _ 5
  unfold pHd
  rw [h1, lN_i, nI_clamp (by omega)]
theorem pHd_lN {a : Nat} (h : a < 2 ^ 64) : pHd (lN a) = a % 32 := by
  rw [pHd_nat]
  show (BitVec.ofNat 64 a).toNat % 32 = a % 32
  rw [BitVec.toNat_ofNat, Nat.mod_eq_of_lt h]
theorem pu_shlN {s : Nat} {S : Int64} (hs : s < 63) (hS : (S.toBitVec.smod 64).toNat = s) (y : Int64) : (y <<< S).toBitVec.toNat = 2 ^ s * (y.toBitVec.toNat % 2 ^ (64 - s)) := by
  rw [Int64.toBitVec_shiftLeft, BitVec.shiftLeft_eq', BitVec.toNat_shiftLeft, hS, Nat.shiftLeft_eq, Nat.mul_comm]
  rw [show 2 ^ 64 = 2 ^ s * 2 ^ (64 - s) by rw [← Nat.pow_add]; congr 1; omega, Nat.mul_mod_mul_left]
theorem pHd_bec {ge : Nat → Int32} {P : Nat} {t : Int64} (h : P < 32768) : pHd (pBec ge P t) = P % 32 := by
  unfold pBec
  split
  · rw [pHd_lN (by omega)]; omega
  · split
    · rw [pHd_nat, Int64.toBitVec_add, BitVec.toNat_add, pu_shlN (s := 5) (by decide) (by decide)]
      show ((BitVec.ofNat 64 (P % 32)).toNat + 2 ^ 5 * _) % 2 ^ 64 % 32 = P % 32
      rw [BitVec.toNat_ofNat, Nat.mod_eq_of_lt (show P % 32 < 2 ^ 64 by omega)]
      omega
    · split
      · rw [pHd_nat, Int64.toBitVec_add, BitVec.toNat_add, pu_shlN (s := 10) (by decide) (by decide)]
        show ((BitVec.ofNat 64 (P % 1024)).toNat + 2 ^ 10 * _) % 2 ^ 64 % 32 = P % 32
        rw [BitVec.toNat_ofNat, Nat.mod_eq_of_lt (show P % 1024 < 2 ^ 64 by omega)]
        omega
      · rw [pHd_lN (by omega)]
/-- the room that the supertypes not yet looked at may still need -/
def pc (lv : Nat → Nat) (t : Int64) : Nat := 2 * (2 ^ lv (pHd t) - 1)
def pWt (lv : Nat → Nat) (a : Nat → Int64) : Nat → Nat → Nat
  | 0, _ => 0
  | r + 1, k => pc lv (a k) + pWt lv a r (k + 1)
theorem pWt_up {lv : Nat → Nat} {a : Nat → Int64} {n : Nat} {t : Int64} : ∀ r k, k + r ≤ n → pWt lv (pUp a n t) r k = pWt lv a r k
  | 0, _, _ => rfl
  | r + 1, k, h => by
    have ih := pWt_up (lv := lv) (a := a) (n := n) (t := t) r (k + 1) (by omega)
    simp only [pWt, ih]
    have : pUp a n t k = a k := by unfold pUp; rw [if_neg (by omega)]
    rw [this]
theorem pWt_snoc {lv : Nat → Nat} {a : Nat → Int64} : ∀ r k, pWt lv a (r + 1) k = pWt lv a r k + pc lv (a (k + r))
  | 0, k => by simp [pWt]
  | r + 1, k => by
    rw [pWt, pWt_snoc r (k + 1), pWt, show k + 1 + r = k + (r + 1) by omega]
    omega
/-- at k: what is noted, and what may come, fit in m -/
def pIn (lv : Nat → Nat) (s : (Nat → Int64) × Nat) (k m : Nat) : Prop := k ≤ s.2 ∧ s.2 + pWt lv s.1 (s.2 - k) k ≤ m
theorem pIn_nt {lv : Nat → Nat} {s : (Nat → Int64) × Nat} {k m : Nat} {t : Int64} (h : pIn lv s k m) : pIn lv (pNt s t) k (m + 1 + pc lv t) := by
  unfold pNt
  split
  · exact ⟨h.1, by have := h.2; omega⟩
  · refine ⟨Nat.le_succ_of_le h.1, ?_⟩
    show s.2 + 1 + pWt lv (pUp s.1 s.2 t) (s.2 + 1 - k) k ≤ _
    have h1 := h.1
    have h2 := h.2
    rw [show s.2 + 1 - k = (s.2 - k) + 1 by omega, pWt_snoc, pWt_up _ _ (by omega), show k + (s.2 - k) = s.2 by omega]
    have : pUp s.1 s.2 t s.2 = t := by unfold pUp; rw [if_pos rfl]
    rw [this]
    omega
/-- the classes' rows as numbers: parents are codes, levels fall, none above 3 -/
def pRow (F1 F2 : Nat → Nat) (lv : Nat → Nat) : Prop := ∀ h, h < 32 → pPar (F1 h) ∧ pPar (F2 h) ∧ lv h ≤ 3 ∧ (F1 h = 0 ∨ lv (F1 h % 32) < lv h) ∧ (F2 h = 0 ∨ lv (F2 h % 32) < lv h)
theorem pu_pow {a b : Nat} (h : a < b) : 1 + 2 * (2 ^ a - 1) ≤ 2 ^ b - 1 := by
  have h1 : 2 ^ (a + 1) ≤ 2 ^ b := Nat.pow_le_pow_right (by decide) (by omega)
  have h2 : 1 ≤ 2 ^ a := Nat.pow_pos (by decide)
  rw [Nat.pow_succ] at h1
  omega
theorem pIn_st {F1 F2 lv : Nat → Nat} (hR : pRow F1 F2 lv) {ge : Nat → Int32} {s : (Nat → Int64) × Nat} {k : Nat} (hk : k < s.2) (h : pIn lv s k 16) :
    s.2 ≤ 16 ∧ pIn lv (pSt F1 F2 ge (s.1 k) s) (k + 1) 16 ∧ (¬ F1 (pHd (s.1 k)) = 0 → s.2 < 16) ∧ (¬ F2 (pHd (s.1 k)) = 0 → (if F1 (pHd (s.1 k)) = 0 then s else pNt s (pBec ge (F1 (pHd (s.1 k))) (s.1 k))).2 < 16) := by
  obtain ⟨p1, p2, l3, q1, q2⟩ := hR (pHd (s.1 k)) (pHd_eq (s.1 k)).2
  have h2 := h.2
  rw [show s.2 - k = (s.2 - (k + 1)) + 1 by omega, pWt] at h2
  generalize hL : lv (pHd (s.1 k)) = Lk at *
  have hc : pc lv (s.1 k) = 2 * (2 ^ Lk - 1) := by unfold pc; rw [hL]
  rw [hc] at h2
  have b0 : pIn lv s (k + 1) (16 - 2 * (2 ^ Lk - 1)) := ⟨by omega, by omega⟩
  have s1 : ∀ P, pPar P → lv (P % 32) < Lk → 1 + pc lv (pBec ge P (s.1 k)) ≤ 2 ^ Lk - 1 := by
    intro P hP hl
    unfold pc
    rw [pHd_bec hP.1]
    exact pu_pow hl
  have b1 : pIn lv (if F1 (pHd (s.1 k)) = 0 then s else pNt s (pBec ge (F1 (pHd (s.1 k))) (s.1 k))) (k + 1) (16 - (2 ^ Lk - 1)) := by
    split
    · exact ⟨b0.1, by have := b0.2; omega⟩
    · rename_i hz
      have h3 := s1 _ p1 (q1.resolve_left hz)
      have h4 := pIn_nt (t := pBec ge (F1 (pHd (s.1 k))) (s.1 k)) b0
      exact ⟨h4.1, by have := h4.2; omega⟩
  refine ⟨by omega, ?_, fun hz => ?_, fun hz => ?_⟩
  · unfold pSt
    split
    · exact ⟨b1.1, by have := b1.2; omega⟩
    · rename_i hz
      have h3 := s1 _ p2 (q2.resolve_left hz)
      have h4 := pIn_nt (t := pBec ge (F2 (pHd (s.1 k))) (s.1 k)) b1
      exact ⟨h4.1, by have := h4.2; omega⟩
  · have h3 := s1 _ p1 (q1.resolve_left hz)
    omega
  · have h3 := s1 _ p2 (q2.resolve_left hz)
    have := b1.2
    omega
