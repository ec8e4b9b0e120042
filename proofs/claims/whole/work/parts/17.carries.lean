/-! PURE: carries, in the class and in the reference: one pure test -/
def pMk (m : Int32) (k : Nat) : Int32 := (m >>> ((nI k * 3) &&& 31)) &&& 7
/-- the mark of kind k: due of what is required, own of the bean -/
def pOk (own due : Int32) (k : Nat) : Bool := decide (due = 0) || decide (own = due) || (!decide (own = 0) && decide (k = 4))
theorem pOk_iff {own due : Int32} {k : Nat} : pOk own due k = true ↔ (due = 0 ∨ own = due ∨ (¬ own = 0 ∧ k = 4)) := by
  simp [pOk, or_assoc]
theorem pOk_no {own due : Int32} {k : Nat} (h1 : ¬ due = 0) (h2 : ¬ own = due) (h3 : own = 0 ∨ ¬ k = 4) : pOk own due k = false := by
  rw [Bool.eq_false_iff]
  intro q
  rcases pOk_iff.mp q with z | z | ⟨z, z2⟩
  · exact h1 z
  · exact h2 z
  · exact h3.elim z (fun y => y z2)
def pCarF (m w : Int32) : Nat → Nat → Bool
  | 0, _ => true
  | r + 1, k => pOk (pMk m k) (pMk w k) k && pCarF m w r (k + 1)
def pCar (m w : Int32) : Bool := decide (w = -1) || pCarF m (if w = 0 then 8 else w) 5 0
theorem pu_k4 {k : Nat} (h : k ≤ 5) : (nI k = 4) ↔ k = 4 := by
  constructor
  · intro q
    exact (nI_eq (by omega) (by decide)).mp (q.trans (show (4 : Int32) = nI 4 by decide))
  · rintro rfl
    decide
theorem pu_k5 {k : Nat} (h : k < 5) : ¬ (5 : Int32) ≤ nI k := by
  have : ¬ nI 5 ≤ nI k := nI_ge h (by decide)
  exact this
set_option maxHeartbeats 1000000 in
theorem c_car_loop {σ : mm_S} {n j : Nat} (hB : cB σ n) (hj : j < n) (d : Nat) (w x2 : Int32) : ∀ (r k : Nat), k + r = 5 → ∀ f, 31 * (r + 1) ≤ f → mm_ex sc (cG (d + 1)) 3 cp_23_l f cp_23_r4 [.ref 2, .int (nI j), .int x2, .int w, .int (nI k), .null, .null, .null] [] σ = some ((if pCarF (σ.1 14 j) w r k = true then 1 else 0), 0, σ) := by
  have hn := hB.2
  have h16 := pu_T (show j < 16 by omega) (by decide)
  have e16 := pu_cl (show j < 16 by omega) (by decide)
  intro r
  induction r with
  | zero =>
    intro k hk f hf
    rw [show f = (f - 31) + 31 by omega, cp_23_h4, if_pos (by rw [show k = 5 by omega]; decide)]
    rfl
  | succ r ih =>
    intro k hk f hf
    rw [show f = (f - 31) + 31 by omega, cp_23_h4, if_neg (pu_k5 (by omega))]
    simp only [cp_91_g, Option.bind_some, h16, if_true, e16, pu_k4 (show k ≤ 5 by omega)]
    have go : ∀ (c : Nat) (a b e : Int32), c ≤ 31 → pOk (pMk (σ.1 14 j) k) (pMk w k) k = true → mm_ex sc (cG (d + 1)) 3 cp_23_l (f - 31 + c) cp_23_r4 [.ref 2, .int (nI j), .int x2, .int w, .int (nI k + 1), .int a, .int b, .int e] [] σ = some ((if pCarF (σ.1 14 j) w (r + 1) k = true then 1 else 0), 0, σ) := by
      intro c a b e hc ho
      refine mm_ref _ _ [.ref 2, .int (nI j), .int x2, .int w, .int (nI (k + 1)), .null, .null, .null] _ _ _ (by simp [mm_rf, nI_1]) ?_
      rw [ih (k + 1) (by omega) _ (by omega)]
      simp only [pCarF, ho, Bool.true_and]
    have no : pOk (pMk (σ.1 14 j) k) (pMk w k) k = false → (some ((0 : Int32), (0 : Int64), σ) : Option mm_R) = some ((if pCarF (σ.1 14 j) w (r + 1) k = true then 1 else 0), 0, σ) := by
      intro ho
      simp only [pCarF, ho, Bool.false_and]
      rfl
    have e1 : pMk (σ.1 14 j) k = (σ.1 14 j >>> (nI k * 3 &&& 31)) &&& 7 := rfl
    have e2 : pMk w k = (w >>> (nI k * 3 &&& 31)) &&& 7 := rfl
    rw [← e1, ← e2]
    split
    · rename_i h1
      split <;> exact go _ _ _ _ (by omega) (pOk_iff.mpr (Or.inr (Or.inl h1)))
    · rename_i h1
      split
      · rename_i h2
        split
        · rename_i h3
          exact go _ _ _ _ (by omega) (pOk_iff.mpr (Or.inl h3))
        · rename_i h3
          exact no (pOk_no h3 h1 (Or.inl h2))
      · rename_i h2
        split
        · rename_i h4
          split <;> exact go _ _ _ _ (by omega) (pOk_iff.mpr (Or.inr (Or.inr ⟨h2, h4⟩)))
        · rename_i h4
          split
          · rename_i h3
            exact go _ _ _ _ (by omega) (pOk_iff.mpr (Or.inl h3))
          · rename_i h3
            exact no (pOk_no h3 h1 (Or.inr h4))
theorem c_carries {σ : mm_S} {n j : Nat} (hB : cB σ n) (hj : j < n) (d : Nat) (w : Int32) : cG (d + 2) 23 [.ref 2, .int (nI j), .int w] σ = some ((if pCar (σ.1 14 j) w = true then 1 else 0), 0, σ) := by
  rw [cp_23_g]
  by_cases h1 : w = -1
  · rw [if_pos h1]
    simp [pCar, h1]
  · rw [if_neg h1]
    by_cases h2 : w = 0
    · have h := c_car_loop hB hj d 8 w 5 0 rfl (99999990 + 0) (by omega)
      rw [nI_0] at h
      rw [if_pos h2, show (99999993 + 0 : Nat) = 99999990 + 3 from rfl, cp_23_h3, h]
      simp [pCar, h2]
    · have h := c_car_loop hB hj d w w 5 0 rfl (99999991 + 0) (by omega)
      rw [nI_0] at h
      rw [if_neg h2, show (99999993 + 1 : Nat) = 99999991 + 3 from rfl, cp_23_h3, h]
      simp [pCar, h1, h2]
/-! the reference: 'rB τ n': there are n beans -/
def rB (τ : mm_S) (n : Nat) : Prop := τ.1 0 5 = nI n ∧ n ≤ 16
set_option maxHeartbeats 1000000 in
theorem r_car_loop {τ : mm_S} {n j : Nat} (hB : rB τ n) (hj : j < n) (d : Nat) (w x2 : Int32) : ∀ (r k : Nat), k + r = 5 → ∀ f, 34 * (r + 1) ≤ f → mm_ex sr (rG d) 3 rp_18_l f rp_18_r4 [.ref 0, .int (nI j), .int x2, .int w, .int (nI k), .null, .null] [] τ = some ((if pCarF (τ.1 6 j) w r k = true then 1 else 0), 0, τ) := by
  have hn := hB.2
  have h16 := pu_T (show j < 16 by omega) (by decide)
  have e16 := pu_cl (show j < 16 by omega) (by decide)
  intro r
  induction r with
  | zero =>
    intro k hk f hf
    rw [show f = (f - 34) + 34 by omega, rp_18_h4, if_pos (by rw [show k = 5 by omega]; decide)]
    rfl
  | succ r ih =>
    intro k hk f hf
    rw [show f = (f - 34) + 34 by omega, rp_18_h4, if_neg (pu_k5 (by omega))]
    simp only [h16, if_true, e16, pu_k4 (show k ≤ 5 by omega)]
    have go : ∀ (c : Nat) (a b : Int32), c ≤ 34 → pOk (pMk (τ.1 6 j) k) (pMk w k) k = true → mm_ex sr (rG d) 3 rp_18_l (f - 34 + c) rp_18_r4 [.ref 0, .int (nI j), .int x2, .int w, .int (nI k + 1), .int a, .int b] [] τ = some ((if pCarF (τ.1 6 j) w (r + 1) k = true then 1 else 0), 0, τ) := by
      intro c a b hc ho
      refine mm_ref _ _ [.ref 0, .int (nI j), .int x2, .int w, .int (nI (k + 1)), .null, .null] _ _ _ (by simp [mm_rf, nI_1]) ?_
      rw [ih (k + 1) (by omega) _ (by omega)]
      simp only [pCarF, ho, Bool.true_and]
    have no : pOk (pMk (τ.1 6 j) k) (pMk w k) k = false → (some ((0 : Int32), (0 : Int64), τ) : Option mm_R) = some ((if pCarF (τ.1 6 j) w (r + 1) k = true then 1 else 0), 0, τ) := by
      intro ho
      simp only [pCarF, ho, Bool.false_and]
      rfl
    have e1 : (τ.1 6 j >>> (3 * nI k &&& 31)) &&& 7 = pMk (τ.1 6 j) k := by rw [Int32.mul_comm]; rfl
    have e2 : (w >>> (3 * nI k &&& 31)) &&& 7 = pMk w k := by rw [Int32.mul_comm]; rfl
    rw [e1, e2]
    split
    · rename_i h1
      exact go _ _ _ (by omega) (pOk_iff.mpr (Or.inl h1))
    · rename_i h1
      split
      · rename_i h2
        exact no (pOk_no h1 (fun q => h1 (q.symm.trans h2)) (Or.inl h2))
      · rename_i h2
        split
        · rename_i h4
          exact go _ _ _ (by omega) (pOk_iff.mpr (Or.inr (Or.inr ⟨h2, h4⟩)))
        · rename_i h4
          split
          · rename_i h3
            exact go _ _ _ (by omega) (pOk_iff.mpr (Or.inr (Or.inl h3)))
          · rename_i h3
            exact no (pOk_no h1 h3 (Or.inr h4))
theorem r_carries {τ : mm_S} {n j : Nat} (hB : rB τ n) (hj : j < n) (d : Nat) (w : Int32) : rG (d + 1) 18 [.ref 0, .int (nI j), .int w] τ = some ((if pCar (τ.1 6 j) w = true then 1 else 0), 0, τ) := by
  rw [rp_18_g]
  by_cases h2 : w = 0
  · have h := r_car_loop hB hj d 8 w 5 0 rfl (99999990 + 0) (by omega)
    rw [nI_0] at h
    rw [if_pos h2, h]
    simp [pCar, h2]
  · rw [if_neg h2]
    by_cases h1 : w = -1
    · rw [if_pos h1]
      simp [pCar, h1]
    · have h := r_car_loop hB hj d w w 5 0 rfl (99999990 + 1) (by omega)
      rw [nI_0] at h
      rw [if_neg h1, h]
      simp [pCar, h1, h2]
