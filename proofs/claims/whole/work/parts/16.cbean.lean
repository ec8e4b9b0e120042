/-! PURE, THE CLASS: the bean table's small methods. 'cB σ n': there are n beans -/
def cB (σ : mm_S) (n : Nat) : Prop := σ.1 2 1 = nI n ∧ n ≤ 16
theorem pu_in {j N : Nat} (h : j < N) (hN : N < 2 ^ 31) : mm_in (nI j) N := vp_in_nI h hN
theorem pu_T {j N : Nat} (h : j < N) (hN : N < 2 ^ 31) : (mm_in (nI j) N) = True := eq_true (vp_in_nI h hN)
theorem pu_cl {j N : Nat} (h : j < N) (hN : N < 2 ^ 31) : (nI j).toNatClampNeg = j := nI_clamp (by omega)
theorem c_exists_y {σ : mm_S} {n j : Nat} (hB : cB σ n) (hj : j < n) (d : Nat) : cG (d + 1) 1 [.ref 2, .int (nI j)] σ = some (1, 0, σ) := by
  have hn := hB.2
  rw [cp_1_g, if_neg (nI_pos (by omega)), hB.1, if_neg (nI_ge hj (by omega))]
theorem c_exists_n {σ : mm_S} {x : Int32} (h : x < 0 ∨ σ.1 2 1 ≤ x) (d : Nat) : cG (d + 1) 1 [.ref 2, .int x] σ = some (0, 0, σ) := by
  rw [cp_1_g]
  by_cases h0 : x < 0
  · rw [if_pos h0]
  · rw [if_neg h0, if_pos (h.resolve_left h0)]
/-- a bean's number, or none -/
theorem c_bean_or {σ : mm_S} {n : Nat} (hB : cB σ n) (x : Int32) : (x < 0 ∨ σ.1 2 1 ≤ x) ∨ ∃ j, j < n ∧ x = nI j := by
  have hn := hB.2
  rcases pk_ix x (n := n) (by omega) with h | h | h
  · exact Or.inl (Or.inl h)
  · exact Or.inl (Or.inr (by rw [hB.1]; exact h))
  · exact Or.inr h
theorem c_isFull (σ : mm_S) (d : Nat) : cG (d + 1) 0 [.ref 2] σ = some ((if 16 ≤ σ.1 2 1 then 1 else 0), 0, σ) := by
  rw [cp_0_g]
  by_cases h : σ.1 2 1 < 16
  · rw [if_pos h, if_neg (by rw [Int32.not_le]; exact h)]
  · rw [if_neg h, if_pos (by rw [← Int32.not_lt]; exact h)]
theorem c_size (σ : mm_S) (d : Nat) : cG (d + 1) 2 [.ref 2] σ = some (σ.1 2 1, 0, σ) := by rw [cp_2_g]
theorem pu_10 : ((1 : Int32) = 0) ↔ False := by decide
theorem pu_00 : ((0 : Int32) = 0) ↔ True := by decide
theorem c_typeOf {σ : mm_S} {n j : Nat} (hB : cB σ n) (hj : j < n) (d : Nat) : cG (d + 2) 7 [.ref 2, .int (nI j)] σ = some (σ.1 13 j, 0, σ) := by
  have hn := hB.2
  have h16 := pu_T (show j < 16 by omega) (by decide)
  have e16 := pu_cl (show j < 16 by omega) (by decide)
  rw [cp_7_g, c_exists_y hB hj]
  simp only [Option.bind_some, pu_10, if_false, h16, if_true, e16]
theorem c_nameOf {σ : mm_S} {n j : Nat} (hB : cB σ n) (hj : j < n) (d : Nat) : cG (d + 2) 8 [.ref 2, .int (nI j)] σ = some (σ.1 14 j &&& 7, 0, σ) := by
  have hn := hB.2
  have h16 := pu_T (show j < 16 by omega) (by decide)
  have e16 := pu_cl (show j < 16 by omega) (by decide)
  rw [cp_8_g, c_exists_y hB hj]
  simp only [Option.bind_some, pu_10, if_false, h16, if_true, e16]
theorem c_scopeOf {σ : mm_S} {n j : Nat} (hB : cB σ n) (hj : j < n) (d : Nat) : cG (d + 2) 9 [.ref 2, .int (nI j)] σ = some (σ.1 15 j, 0, σ) := by
  have hn := hB.2
  have h16 := pu_T (show j < 16 by omega) (by decide)
  have e16 := pu_cl (show j < 16 by omega) (by decide)
  rw [cp_9_g, c_exists_y hB hj]
  simp only [Option.bind_some, pu_10, if_false, h16, if_true, e16]
theorem c_homeOf {σ : mm_S} {n j : Nat} (hB : cB σ n) (hj : j < n) (d : Nat) : cG (d + 2) 10 [.ref 2, .int (nI j)] σ = some (σ.1 17 j, 0, σ) := by
  have hn := hB.2
  have h16 := pu_T (show j < 16 by omega) (by decide)
  have e16 := pu_cl (show j < 16 by omega) (by decide)
  rw [cp_10_g, c_exists_y hB hj]
  simp only [Option.bind_some, pu_10, if_false, h16, if_true, e16]
theorem c_pointCount {σ : mm_S} {n j : Nat} (hB : cB σ n) (hj : j < n) (d : Nat) : cG (d + 2) 11 [.ref 2, .int (nI j)] σ = some (σ.1 19 j, 0, σ) := by
  have hn := hB.2
  have h16 := pu_T (show j < 16 by omega) (by decide)
  have e16 := pu_cl (show j < 16 by omega) (by decide)
  rw [cp_11_g, c_exists_y hB hj]
  simp only [Option.bind_some, pu_10, if_false, h16, if_true, e16]
theorem c_isDependent {σ : mm_S} {n j : Nat} (hB : cB σ n) (hj : j < n) (d : Nat) : cG (d + 2) 16 [.ref 2, .int (nI j)] σ = some ((if σ.1 15 j = 0 then 1 else 0), 0, σ) := by
  have hn := hB.2
  have h16 := pu_T (show j < 16 by omega) (by decide)
  have e16 := pu_cl (show j < 16 by omega) (by decide)
  rw [cp_16_g, c_exists_y hB hj]
  simp only [Option.bind_some, pu_10, if_false, h16, if_true, e16]
  split <;> rfl
theorem c_isNormal {σ : mm_S} {n j : Nat} (hB : cB σ n) (hj : j < n) (d : Nat) : cG (d + 2) 17 [.ref 2, .int (nI j)] σ = some ((if σ.1 15 j = 0 then 0 else 1), 0, σ) := by
  have hn := hB.2
  have h16 := pu_T (show j < 16 by omega) (by decide)
  have e16 := pu_cl (show j < 16 by omega) (by decide)
  rw [cp_17_g, c_exists_y hB hj]
  simp only [Option.bind_some, pu_10, if_false, h16, if_true, e16]
  split <;> rfl
theorem c_homeOf_n {σ : mm_S} {x : Int32} (h : x < 0 ∨ σ.1 2 1 ≤ x) (d : Nat) : cG (d + 2) 10 [.ref 2, .int x] σ = some (-1, 0, σ) := by
  rw [cp_10_g, c_exists_n h]
  simp only [Option.bind_some, pu_00, if_true]
theorem c_isDependent_n {σ : mm_S} {x : Int32} (h : x < 0 ∨ σ.1 2 1 ≤ x) (d : Nat) : cG (d + 2) 16 [.ref 2, .int x] σ = some (0, 0, σ) := by
  rw [cp_16_g, c_exists_n h]
  simp only [Option.bind_some, pu_00, if_true]
theorem c_isNormal_n {σ : mm_S} {x : Int32} (h : x < 0 ∨ σ.1 2 1 ≤ x) (d : Nat) : cG (d + 2) 17 [.ref 2, .int x] σ = some (0, 0, σ) := by
  rw [cp_17_g, c_exists_n h]
  simp only [Option.bind_some, pu_00, if_true]
theorem c_mayBeHome_n {σ : mm_S} {x : Int32} (h : x < 0 ∨ σ.1 2 1 ≤ x) (d : Nat) : cG (d + 2) 15 [.ref 2, .int x] σ = some (0, 0, σ) := by
  rw [cp_15_g, c_exists_n h]
  simp only [Option.bind_some, pu_00, if_true]
theorem c_isEnabled_n {σ : mm_S} {x : Int32} (h : x < 0 ∨ σ.1 2 1 ≤ x) (d : Nat) : cG (d + 2) 18 [.ref 2, .int x] σ = some (0, 0, σ) := by
  rw [cp_18_g, c_exists_n h]
  simp only [Option.bind_some, pu_00, if_true]
theorem c_pointCount_n {σ : mm_S} {x : Int32} (h : x < 0 ∨ σ.1 2 1 ≤ x) (d : Nat) : cG (d + 2) 11 [.ref 2, .int x] σ = some (0, 0, σ) := by
  rw [cp_11_g, c_exists_n h]
  simp only [Option.bind_some, pu_00, if_true]
theorem c_mayBeHome {σ : mm_S} {n j : Nat} (hB : cB σ n) (hj : j < n) (d : Nat) : cG (d + 2) 15 [.ref 2, .int (nI j)] σ = some ((if σ.1 18 j = 0 then 0 else if σ.1 15 j = 0 then 1 else 0), 0, σ) := by
  have hn := hB.2
  have h16 := pu_T (show j < 16 by omega) (by decide)
  have e16 := pu_cl (show j < 16 by omega) (by decide)
  rw [cp_15_g, c_exists_y hB hj]
  simp only [Option.bind_some, pu_10, if_false, h16, if_true, e16]
  split
  · rfl
  · split <;> rfl
/-- homes are none (-1), or beans -/
def cHo (σ : mm_S) (n : Nat) : Prop := ∀ j, j < n → σ.1 17 j = -1 ∨ ∃ k, k < n ∧ σ.1 17 j = nI k
/-- enabled, as the table says it -/
def pE (ch ho : Nat → Int32) (j : Nat) : Bool := !decide (ch j = -1) && (decide (ho j = -1) || !decide (ch (ho j).toNatClampNeg = -1))
theorem c_isEnabled {σ : mm_S} {n j : Nat} (hB : cB σ n) (hH : cHo σ n) (hj : j < n) (d : Nat) : cG (d + 2) 18 [.ref 2, .int (nI j)] σ = some ((if pE (σ.1 16) (σ.1 17) j = true then 1 else 0), 0, σ) := by
  have hn := hB.2
  have h16 := pu_T (show j < 16 by omega) (by decide)
  have e16 := pu_cl (show j < 16 by omega) (by decide)
  rw [cp_18_g, c_exists_y hB hj]
  simp only [Option.bind_some, pu_10, if_false, h16, if_true, e16]
  by_cases h1 : σ.1 16 j = -1
  · rw [if_pos h1, if_neg (by simp [pE, h1])]
  · rw [if_neg h1]
    rcases hH j hj with h2 | ⟨k, hk, h2⟩
    · rw [h2, c_exists_n (Or.inl (by decide))]
      simp only [Option.bind_some, pu_00, if_true]
      rw [if_pos (by simp [pE, h1, h2])]
    · have k16 := pu_T (show k < 16 by omega) (by decide)
      have ke := pu_cl (show k < 16 by omega) (by decide)
      rw [h2, c_exists_y hB hk]
      simp only [Option.bind_some, pu_10, if_false, k16, if_true, ke]
      have h3 : ¬ nI k = -1 := by
        intro q
        have := congrArg Int32.toInt q
        rw [nI_toInt (by omega)] at this
        simp at this
      by_cases h4 : σ.1 16 k = -1
      · rw [if_pos h4, if_neg (by simp [pE, h1, h2, h3, h4, ke])]
      · rw [if_neg h4, if_pos (by simp [pE, h1, h2, h3, h4, ke])]
