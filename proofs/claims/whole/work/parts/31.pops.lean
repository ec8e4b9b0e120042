/-! PURE: how many bits: the class's bitCount, the reference's count -/
def pCt (p : Nat → Bool) : Nat → Nat
  | 0 => 0
  | n + 1 => pCt p n + (if p n = true then 1 else 0)
def pPopN (x : Nat) : Nat := x % 2 + x / 2 % 2 + x / 4 % 2 + x / 8 % 2 + x / 16 % 2 + x / 32 % 2 + x / 64 % 2 + x / 128 % 2
def pF0 (x : Nat) : Nat := x - (x / 2 &&& 1431655765)
def pF1 (x : Nat) : Nat := (x &&& 858993459) + (x / 4 &&& 858993459)
def pF2 (x : Nat) : Nat := (x + x / 16) &&& 252645135
def pF3 (x : Nat) : Nat := x + x / 256
def pF4 (x : Nat) : Nat := (x + x / 65536) &&& 63
def pLp (p : Nat → Bool) : Nat → Bool
  | 0 => true
  | n + 1 => p n && pLp p n
theorem pLp_at {p : Nat → Bool} : ∀ {n : Nat}, pLp p n = true → ∀ i, i < n → p i = true
  | 0, _, i, h => by omega
  | n + 1, h, i, hi => by
    rw [pLp, Bool.and_eq_true] at h
    by_cases e : i = n
    · rw [e]; exact h.1
    · exact pLp_at h.2 i (by omega)
def pChk (h l : Nat) : Bool := Nat.beq (pF4 (pF3 (pF2 (pF1 (pF0 (256 * h + l)))))) (pPopN h + pPopN l)
set_option maxRecDepth 100000 in
theorem pChk_all : pLp (fun h => pLp (fun l => pChk h l) 256) 256 = true := by decide +kernel
theorem pF_eq {N : Nat} (h : N < 2 ^ 16) : pF4 (pF3 (pF2 (pF1 (pF0 N)))) = pPopN (N / 256) + pPopN (N % 256) := by
  have h1 := pLp_at (pLp_at pChk_all (N / 256) (by omega)) (N % 256) (by omega)
  rw [pChk, show 256 * (N / 256) + N % 256 = N by omega] at h1
  exact Nat.eq_of_beq_eq_true h1
theorem pPop_ct {N : Nat} (h : N < 2 ^ 16) : pPopN (N / 256) + pPopN (N % 256) = pCt N.testBit 16 := by
  have e : ∀ i, (if N.testBit i = true then 1 else 0) = N / 2 ^ i % 2 := by
    intro i
    rw [Nat.testBit_eq_decide_div_mod_eq]
    by_cases h : N / 2 ^ i % 2 = 1
    · simp [h]
    · rw [if_neg (by simpa using h)]
      omega
  simp only [pCt, e]
  unfold pPopN
  omega
theorem pu_and {a b : Nat} (ha : a < 2 ^ 31) (hb : b < 2 ^ 31) : nI a &&& nI b = nI (a &&& b) := by
  apply Int32.toBitVec_inj.mp
  apply BitVec.eq_of_toNat_eq
  rw [Int32.toBitVec_and, BitVec.toNat_and, pk_tn (by omega), pk_tn (by omega), pk_tn]
  exact Nat.lt_of_le_of_lt Nat.and_le_left (by omega)
theorem c_bitCount {N : Nat} (h : N < 2 ^ 16) (σ : mm_S) (d : Nat) : cG (d + 1) 100 [.int (nI N)] σ = some (nI (pCt N.testBit 16), 0, σ) := by
  have u : ∀ (n : Nat) (s : Int32) (k : Nat), n < 2 ^ 32 → ((s.toUInt32 &&& Int32.toUInt32 31).toBitVec % 32).toNat = k → ((nI n).toUInt32 >>> (s.toUInt32 &&& Int32.toUInt32 31)).toInt32 = nI (n / 2 ^ k) := fun n s k hn hs => pk_ushrN hn s k hs
  have le : ∀ a b : Nat, a &&& b ≤ a := fun a b => Nat.and_le_left
  have b0 : pF0 N < 2 ^ 17 := by unfold pF0; omega
  have b1 : pF1 (pF0 N) < 2 ^ 19 := by
    unfold pF1
    have := le (pF0 N) 858993459
    have := le (pF0 N / 4) 858993459
    omega
  have b2 : pF2 (pF1 (pF0 N)) < 2 ^ 20 := by
    unfold pF2
    have := le (pF1 (pF0 N) + pF1 (pF0 N) / 16) 252645135
    omega
  have b3 : pF3 (pF2 (pF1 (pF0 N))) < 2 ^ 21 := by unfold pF3; omega
  have s0 : nI N - (((nI N).toUInt32 >>> (((1 : Int32)).toUInt32 &&& Int32.toUInt32 31)).toInt32 &&& (1431655765 : Int32)) = nI (pF0 N) := by
    rw [u N 1 1 (by omega) (by decide), show (1431655765 : Int32) = nI 1431655765 by decide, pu_and (by omega) (by decide), pk_sub]
    · rfl
    · exact Nat.le_trans (le _ _) (by omega)
  have s1 : (nI (pF0 N) &&& (858993459 : Int32)) + (((nI (pF0 N)).toUInt32 >>> (((2 : Int32)).toUInt32 &&& Int32.toUInt32 31)).toInt32 &&& (858993459 : Int32)) = nI (pF1 (pF0 N)) := by
    rw [u (pF0 N) 2 2 (by omega) (by decide), show (858993459 : Int32) = nI 858993459 by decide, pu_and (by omega) (by decide), pu_and (by omega) (by decide), nI_add]
    rfl
  have s2 : (nI (pF1 (pF0 N)) + ((nI (pF1 (pF0 N))).toUInt32 >>> (((4 : Int32)).toUInt32 &&& Int32.toUInt32 31)).toInt32) &&& (252645135 : Int32) = nI (pF2 (pF1 (pF0 N))) := by
    rw [u (pF1 (pF0 N)) 4 4 (by omega) (by decide), show (252645135 : Int32) = nI 252645135 by decide, nI_add, pu_and (by omega) (by decide)]
    rfl
  have s3 : nI (pF2 (pF1 (pF0 N))) + ((nI (pF2 (pF1 (pF0 N)))).toUInt32 >>> (((8 : Int32)).toUInt32 &&& Int32.toUInt32 31)).toInt32 = nI (pF3 (pF2 (pF1 (pF0 N)))) := by
    rw [u (pF2 (pF1 (pF0 N))) 8 8 (by omega) (by decide), nI_add]
    rfl
  have s4 : (nI (pF3 (pF2 (pF1 (pF0 N)))) + ((nI (pF3 (pF2 (pF1 (pF0 N))))).toUInt32 >>> (((16 : Int32)).toUInt32 &&& Int32.toUInt32 31)).toInt32) &&& (63 : Int32) = nI (pF4 (pF3 (pF2 (pF1 (pF0 N))))) := by
    rw [u (pF3 (pF2 (pF1 (pF0 N)))) 16 16 (by omega) (by decide), show (63 : Int32) = nI 63 by decide, nI_add, pu_and (by omega) (by decide)]
    rfl
  rw [cp_100_g, s0, s1, s2, s3, s4, pF_eq h, pPop_ct h]
theorem r_count_loop {N : Nat} (h : N < 2 ^ 16) (τ : mm_S) (d : Nat) : ∀ (r k f : Nat), k + r = 16 → 13 * (r + 1) ≤ f → mm_ex sr (rG d) 1 rp_20_l f rp_20_r1 [.int (nI N), .int (nI (pCt N.testBit k)), .int (nI k)] [] τ = some (nI (pCt N.testBit 16), 0, τ) := by
  intro r
  induction r with
  | zero =>
    intro k f hk hf
    have e : k = 16 := by omega
    subst e
    rw [show f = (f - 13) + 13 by omega, rp_20_h1, if_pos (by decide)]
  | succ r ih =>
    intro k f hk hf
    rw [show f = (f - 13) + 13 by omega, rp_20_h1, if_neg (show ¬ (16 : Int32) ≤ nI k from (nI_ge (by omega) (by decide) : ¬ nI 16 ≤ nI k))]
    have hs : ((nI k &&& 31).toBitVec.smod 32).toNat = k := by
      have : ∀ i, i < 16 → ((nI i &&& 31).toBitVec.smod 32).toNat = i := by decide +kernel
      exact this k (by omega)
    have e : (nI N >>> (nI k &&& 31)) &&& 1 = nI (if N.testBit k = true then 1 else 0) := by
      rw [pk_shrN (by omega) _ k hs, show (1 : Int32) = nI 1 by decide, show nI (N / 2 ^ k) &&& nI 1 = nI (N / 2 ^ k % 2) from pk_andN (by have : N / 2 ^ k ≤ N := Nat.div_le_self _ _; omega) 1 (by decide), Nat.testBit_eq_decide_div_mod_eq]
      congr 1
      by_cases h : N / 2 ^ k % 2 = 1
      · simp [h]
      · rw [if_neg (by simpa using h)]
        omega
    rw [e, nI_add, nI_1]
    exact ih (k + 1) _ (by omega) (by omega)
theorem r_count {N : Nat} (h : N < 2 ^ 16) (τ : mm_S) (d : Nat) : rG (d + 1) 20 [.int (nI N)] τ = some (nI (pCt N.testBit 16), 0, τ) := by
  have := r_count_loop h τ d 16 0 (99999996 + 0) (by omega) (by omega)
  rw [nI_0] at this
  rw [rp_20_g]
  exact this
