/-! PURE: enabled and rank, in the class and in the reference -/
def pRk (ch ho : Nat → Int32) (j : Nat) : Int32 := if 0 < ch j then ch j else if ho j = -1 then 0 else if 0 < ch (ho j).toNatClampNeg then ch (ho j).toNatClampNeg else 0
theorem pu_nm1 {k : Nat} (h : k < 2 ^ 31) : ¬ nI k = -1 := by
  intro q
  have := congrArg Int32.toInt q
  rw [nI_toInt h] at this
  simp at this
theorem pu_max0 (x : Int32) : (if x < 0 then 0 else x) = (if 0 < x then x else 0) := by
  by_cases h : x < 0
  · rw [if_pos h, if_neg (fun q => Int32.lt_irrefl (Int32.lt_trans h q))]
  · rw [if_neg h]
    by_cases h2 : 0 < x
    · rw [if_pos h2]
    · rw [if_neg h2]
      exact Int32.le_antisymm (Int32.not_lt.mp h2) (Int32.not_lt.mp h)
theorem c_rankOf {σ : mm_S} {n j : Nat} (hB : cB σ n) (hH : cHo σ n) (hj : j < n) (d : Nat) : cG (d + 2) 22 [.ref 2, .int (nI j)] σ = some (pRk (σ.1 16) (σ.1 17) j, 0, σ) := by
  have hn := hB.2
  have h16 := pu_T (show j < 16 by omega) (by decide)
  have e16 := pu_cl (show j < 16 by omega) (by decide)
  rw [cp_22_g]
  simp only [h16, if_true, e16, pu_max0]
  unfold pRk
  by_cases h1 : 0 < σ.1 16 j
  · rw [if_pos h1, if_pos h1, if_pos h1]
  · rw [if_neg h1, if_neg h1]
    rcases hH j hj with h2 | ⟨k, hk, h2⟩
    · rw [h2, c_exists_n (Or.inl (by decide)), if_pos rfl]
      simp only [Option.bind_some, pu_00, if_true]
      rw [if_neg h1]
    · have k16 := pu_T (show k < 16 by omega) (by decide)
      have ke := pu_cl (show k < 16 by omega) (by decide)
      rw [h2, c_exists_y hB hk, if_neg (pu_nm1 (by omega))]
      simp only [Option.bind_some, pu_10, if_false, k16, if_true, ke]
def rHo (τ : mm_S) (n : Nat) : Prop := ∀ j, j < n → τ.1 9 j = -1 ∨ ∃ k, k < n ∧ τ.1 9 j = nI k
theorem pu_le0 {x : Int32} : (x ≤ 0) ↔ ¬ 0 < x := Int32.not_lt.symm
theorem r_rank {τ : mm_S} {n j : Nat} (hB : rB τ n) (hH : rHo τ n) (hj : j < n) (d : Nat) : rG (d + 1) 12 [.ref 0, .int (nI j)] τ = some (pRk (τ.1 8) (τ.1 9) j, 0, τ) := by
  have hn := hB.2
  have h16 := pu_T (show j < 16 by omega) (by decide)
  have e16 := pu_cl (show j < 16 by omega) (by decide)
  rw [rp_12_g]
  simp only [h16, if_true, e16, pu_le0]
  unfold pRk
  by_cases h1 : 0 < τ.1 8 j
  · rw [if_neg (fun q => q h1), if_pos h1]
  · rw [if_pos h1, if_neg h1]
    rcases hH j hj with h2 | ⟨k, hk, h2⟩
    · rw [h2, if_pos (by decide), if_pos rfl]
    · have k16 := pu_T (show k < 16 by omega) (by decide)
      have ke := pu_cl (show k < 16 by omega) (by decide)
      rw [h2, if_neg (nI_pos (by omega)), if_neg (pu_nm1 (by omega))]
      simp only [k16, if_true, ke]
      by_cases h3 : 0 < τ.1 8 k
      · rw [if_neg (fun q => q h3), if_pos h3]
      · rw [if_pos h3, if_neg h3]
theorem r_enabled {τ : mm_S} {n j : Nat} (hB : rB τ n) (hH : rHo τ n) (hj : j < n) (d : Nat) : rG (d + 1) 11 [.ref 0, .int (nI j)] τ = some ((if pE (τ.1 8) (τ.1 9) j = true then 1 else 0), 0, τ) := by
  have hn := hB.2
  have h16 := pu_T (show j < 16 by omega) (by decide)
  have e16 := pu_cl (show j < 16 by omega) (by decide)
  rw [rp_11_g]
  simp only [h16, if_true, e16]
  by_cases h1 : τ.1 8 j = -1
  · rw [if_pos h1, if_neg (by simp [pE, h1])]
  · rw [if_neg h1]
    rcases hH j hj with h2 | ⟨k, hk, h2⟩
    · rw [h2, if_pos (by decide), if_pos (by simp [pE, h1, h2])]
    · have k16 := pu_T (show k < 16 by omega) (by decide)
      have ke := pu_cl (show k < 16 by omega) (by decide)
      have h3 : ¬ nI k = -1 := pu_nm1 (by omega)
      rw [h2, if_neg (nI_pos (by omega))]
      simp only [k16, if_true, ke]
      by_cases h4 : τ.1 8 k = -1
      · rw [if_pos h4, if_neg (by simp [pE, h1, h2, h3, h4, ke])]
      · rw [if_neg h4, if_pos (by simp [pE, h1, h2, h3, h4, ke])]
/-! sets of beans as bits: pBits p n is the number whose bit i says p i, i < n -/
def pBits (p : Nat → Bool) : Nat → Nat
  | 0 => 0
  | n + 1 => pBits p n + (if p n = true then 2 ^ n else 0)
theorem pBits_lt (p : Nat → Bool) : ∀ n, pBits p n < 2 ^ n
  | 0 => by simp [pBits]
  | n + 1 => by
    have := pBits_lt p n
    unfold pBits
    rw [Nat.pow_succ]
    split <;> omega
theorem pBits_bit (p : Nat → Bool) : ∀ n i, (pBits p n).testBit i = (decide (i < n) && p i)
  | 0, i => by simp [pBits]
  | n + 1, i => by
    have hl := pBits_lt p n
    have ih := pBits_bit p n i
    unfold pBits
    by_cases hp : p n = true
    · rw [if_pos hp, Nat.add_comm, show 2 ^ n + pBits p n = 2 ^ n * 1 + pBits p n by omega, Nat.two_pow_add_eq_or_of_lt hl, Nat.testBit_or, ih, Nat.mul_one, Nat.testBit_two_pow]
      by_cases h1 : n = i
      · subst h1; simp [hp]
      · by_cases hi : i < n
        · simp [h1, hi, show i < n + 1 by omega]
        · simp [h1, hi, show ¬ i < n + 1 by omega]
    · rw [if_neg hp, Nat.add_zero, ih]
      by_cases h1 : i = n
      · subst h1; simp [hp]
      · by_cases hi : i < n
        · simp [hi, show i < n + 1 by omega]
        · simp [hi, show ¬ i < n + 1 by omega]
theorem pBits_ext {p q : Nat → Bool} {n : Nat} (h : ∀ i, i < n → p i = q i) : pBits p n = pBits q n := by
  apply Nat.eq_of_testBit_eq
  intro i
  rw [pBits_bit, pBits_bit]
  by_cases hi : i < n
  · rw [h i hi]
  · simp [hi]
theorem pu_get {p : Nat → Bool} {n i : Nat} (hn : n ≤ 16) (hi : i < n) : (((nI (pBits p n) >>> (nI i &&& 31)) &&& 1) = 1) ↔ p i = true := by
  have hl := pBits_lt p n
  have h16 : 2 ^ n ≤ 2 ^ 16 := Nat.pow_le_pow_right (by decide) hn
  have hs : ((nI i &&& 31).toBitVec.smod 32).toNat = i := by
    have : ∀ i, i < 16 → ((nI i &&& 31).toBitVec.smod 32).toNat = i := by decide +kernel
    exact this i (by omega)
  rw [pk_shrN (by omega) _ i hs, show (1 : Int32) = nI 1 by decide, show nI (pBits p n / 2 ^ i) &&& nI 1 = nI (pBits p n / 2 ^ i % 2) from pk_andN (by have : pBits p n / 2 ^ i ≤ pBits p n := Nat.div_le_self _ _; omega) 1 (by decide), nI_eq (by omega) (by decide)]
  have := pBits_bit p n i
  rw [Nat.testBit_eq_decide_div_mod_eq] at this
  simp [hi] at this
  rw [← this]
  simp
theorem pu_set {p : Nat → Bool} {i : Nat} (hi : i < 16) (hp : p i = true) : nI (pBits p i) ||| ((1 : Int32) <<< (nI i &&& 31)) = nI (pBits p (i + 1)) := by
  have hl := pBits_lt p i
  have h1 : ∀ i, i < 16 → (1 : Int32) <<< (nI i &&& 31) = nI (2 ^ i) := by decide +kernel
  have h16 : 2 ^ i ≤ 2 ^ 15 := Nat.pow_le_pow_right (by decide) (by omega)
  rw [h1 i hi]
  apply Int32.toBitVec_inj.mp
  apply BitVec.eq_of_toNat_eq
  rw [Int32.toBitVec_or, BitVec.toNat_or]
  show (BitVec.ofNat 32 _).toNat ||| (BitVec.ofNat 32 _).toNat = (BitVec.ofNat 32 _).toNat
  have e : pBits p (i + 1) = pBits p i + 2 ^ i := by rw [pBits, if_pos hp]
  rw [e, BitVec.toNat_ofNat, BitVec.toNat_ofNat, BitVec.toNat_ofNat, Nat.mod_eq_of_lt (by omega), Nat.mod_eq_of_lt (by omega), Nat.mod_eq_of_lt (by omega), Nat.or_comm]
  have := Nat.two_pow_add_eq_or_of_lt hl 1
  rw [Nat.mul_one] at this
  omega
