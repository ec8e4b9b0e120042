/-! PURE: which numbers are codes: the reference's loop over the digits; the same codes -/
def pIsC (nc c : Nat) : Bool := decide (1 ≤ c % 32 ∧ c % 32 ≤ nc)
def pIsW (w : Bool) (c : Nat) : Bool := w && (decide (c % 32 = 29) || decide (c % 32 = 30))
def pIsV (v : Bool) (c : Nat) : Bool := v && decide (c % 32 = 31)
def pNx (g : Nat → Int32) (nc c : Nat) : Nat := if pIsC nc c = true then (if g (c % 32) = 0 then 2 else 1) else if c % 32 = 29 then 0 else 2
def pS (nc : Nat) (g : Nat → Int32) (w v : Bool) : Nat → Nat → Nat → Bool
  | 0, st, c => decide (c = 0) && !decide (st = 0)
  | r + 1, st, c => if c = 0 then !decide (st = 0) else (!decide (st = 2) && (pIsC nc c || (!decide (st = 0) && (pIsW w c || pIsV v c)))) && pS nc g w v r (pNx g nc c) (c / 32)
def rK (τ : mm_S) (nc : Nat) : Prop := τ.1 0 0 = nI nc ∧ nc ≤ 13
theorem pb_e0 {b : Bool} (h : b = false) : (0 : Int32) = pb b := by rw [h]; rfl
theorem pb_e1 {b : Bool} (h : b = true) : (1 : Int32) = pb b := by rw [h]; rfl
set_option maxHeartbeats 8000000 in
theorem r_wr_loop {τ : mm_S} {nc : Nat} (hK : rK τ nc) (w v : Bool) (x1 : Int32) (d : Nat) : ∀ (r m st c f : Nat), m + r ≤ 6 → st ≤ 2 → c < 2 ^ 31 → 66 * (r + 2) ≤ f → mm_ex sr (rG d) 3 rp_0_l f rp_0_r1 [.ref 0, .int x1, .int (nI (m + r)), .int (pb w), .int (pb v), .int (nI c), .int (nI st), .int (nI m), .null, .null, .null, .null] [] τ = some (pb (pS nc (τ.1 1) w v r st c), 0, τ) := by
  have hn := hK.2
  intro r
  induction r with
  | zero =>
    intro m st c f hm hst hc hf
    by_cases h0 : c = 0
    · rw [show f = (f - 39) + 39 by omega, rp_0_h1, if_pos ((pu_eq0 hc).mpr h0)]
      simp only [pS, pu_eq0 (show st < 2 ^ 31 by omega)]
      by_cases h1 : st = 0 <;> simp [h0, h1, pb]
    · have dead : (some ((0 : Int32), (0 : Int64), τ) : Option mm_R) = some (pb (pS nc (τ.1 1) w v 0 st c), 0, τ) := by
        simp [pS, h0, pb]
      have key : ∀ f8, 26 ≤ f8 → ∀ x5 x6 x8 a9 a10 s0 : Int32, mm_ex sr (rG d) 3 rp_0_l f8 rp_0_r8 [.ref 0, .int x1, .int (nI (m + 0)), .int (pb w), .int (pb v), .int x5, .int x6, .int (nI (m + 1)), .int x8, .int a9, .int a10, .null] [.int s0] τ = some (pb (pS nc (τ.1 1) w v 0 st c), 0, τ) := by
        intro f8 hf8 x5 x6 x8 a9 a10 s0
        rw [show f8 = (f8 - 26) + 26 by omega, rp_0_h8, if_pos (nI_lt (by omega) (by omega))]
        exact dead
      have key7 : ∀ f8, 27 ≤ f8 → ∀ x5 x6 x8 a9 a10 : Int32, mm_ex sr (rG d) 3 rp_0_l f8 rp_0_r7 [.ref 0, .int x1, .int (nI (m + 0)), .int (pb w), .int (pb v), .int x5, .int x6, .int (nI (m + 1)), .int x8, .int a9, .int a10, .null] [] τ = some (pb (pS nc (τ.1 1) w v 0 st c), 0, τ) := by
        intro f8 hf8 x5 x6 x8 a9 a10
        rw [show f8 = (f8 - 1) + 1 by omega, rp_0_h7]
        exact key _ (by omega) _ _ _ _ _ _
      have l1 : (nI (c % 32) < 1) ↔ c % 32 < 1 := nI_ltI (b := 1) (by omega) (by decide)
      have l2 : (nI nc < nI (c % 32)) ↔ nc < c % 32 := nI_ltI (by omega) (by omega)
      have l3 : (nI (c % 32) = 29) ↔ c % 32 = 29 := nI_eq (b := 29) (by omega) (by decide)
      have l4 : (nI (c % 32) = 30) ↔ c % 32 = 30 := nI_eq (b := 30) (by omega) (by decide)
      have l5 : (nI (c % 32) = 31) ↔ c % 32 = 31 := nI_eq (b := 31) (by omega) (by decide)
      rw [show f = (f - 39) + 39 by omega, rp_0_h1, if_neg (fun q => h0 ((pu_eq0 hc).mp q)), pu_and5 hc, pu_shr5 hc, hK.1, nI_1]
      simp only [l1, l2, l3, l4, l5, pb_0]
      by_cases hc1 : c % 32 < 1
      · rw [if_pos hc1]
        by_cases hw : w = false
        · rw [if_pos hw]
          by_cases hv : v = false
          · rw [if_pos hv]
            exact key7 _ (by omega) _ _ _ _ _
          · rw [if_neg hv]
            by_cases h31 : c % 32 = 31
            · rw [if_pos h31]
              exact key _ (by omega) _ _ _ _ _ _
            · rw [if_neg h31]
              exact key7 _ (by omega) _ _ _ _ _
        · rw [if_neg hw]
          by_cases h29 : c % 32 = 29
          · rw [if_pos h29]
            by_cases hv : v = false
            · rw [if_pos hv]
              exact key7 _ (by omega) _ _ _ _ _
            · rw [if_neg hv]
              by_cases h31 : c % 32 = 31
              · rw [if_pos h31]
                exact key _ (by omega) _ _ _ _ _ _
              · rw [if_neg h31]
                exact key7 _ (by omega) _ _ _ _ _
          · rw [if_neg h29]
            by_cases h30 : c % 32 = 30
            · rw [if_pos h30]
              by_cases hv : v = false
              · rw [if_pos hv]
                exact key7 _ (by omega) _ _ _ _ _
              · rw [if_neg hv]
                by_cases h31 : c % 32 = 31
                · rw [if_pos h31]
                  exact key _ (by omega) _ _ _ _ _ _
                · rw [if_neg h31]
                  exact key7 _ (by omega) _ _ _ _ _
            · rw [if_neg h30]
              by_cases hv : v = false
              · rw [if_pos hv]
                exact key7 _ (by omega) _ _ _ _ _
              · rw [if_neg hv]
                by_cases h31 : c % 32 = 31
                · rw [if_pos h31]
                  exact key _ (by omega) _ _ _ _ _ _
                · rw [if_neg h31]
                  exact key7 _ (by omega) _ _ _ _ _
      · rw [if_neg hc1]
        by_cases hc2 : nc < c % 32
        · rw [if_pos hc2]
          by_cases hw : w = false
          · rw [if_pos hw]
            by_cases hv : v = false
            · rw [if_pos hv]
              exact key7 _ (by omega) _ _ _ _ _
            · rw [if_neg hv]
              by_cases h31 : c % 32 = 31
              · rw [if_pos h31]
                exact key _ (by omega) _ _ _ _ _ _
              · rw [if_neg h31]
                exact key7 _ (by omega) _ _ _ _ _
          · rw [if_neg hw]
            by_cases h29 : c % 32 = 29
            · rw [if_pos h29]
              by_cases hv : v = false
              · rw [if_pos hv]
                exact key7 _ (by omega) _ _ _ _ _
              · rw [if_neg hv]
                by_cases h31 : c % 32 = 31
                · rw [if_pos h31]
                  exact key _ (by omega) _ _ _ _ _ _
                · rw [if_neg h31]
                  exact key7 _ (by omega) _ _ _ _ _
            · rw [if_neg h29]
              by_cases h30 : c % 32 = 30
              · rw [if_pos h30]
                by_cases hv : v = false
                · rw [if_pos hv]
                  exact key7 _ (by omega) _ _ _ _ _
                · rw [if_neg hv]
                  by_cases h31 : c % 32 = 31
                  · rw [if_pos h31]
                    exact key _ (by omega) _ _ _ _ _ _
                  · rw [if_neg h31]
                    exact key7 _ (by omega) _ _ _ _ _
              · rw [if_neg h30]
                by_cases hv : v = false
                · rw [if_pos hv]
                  exact key7 _ (by omega) _ _ _ _ _
                · rw [if_neg hv]
                  by_cases h31 : c % 32 = 31
                  · rw [if_pos h31]
                    exact key _ (by omega) _ _ _ _ _ _
                  · rw [if_neg h31]
                    exact key7 _ (by omega) _ _ _ _ _
        · rw [if_neg hc2]
          by_cases hw : w = false
          · rw [if_pos hw]
            by_cases hv : v = false
            · rw [if_pos hv]
              exact key7 _ (by omega) _ _ _ _ _
            · rw [if_neg hv]
              by_cases h31 : c % 32 = 31
              · rw [if_pos h31]
                exact key _ (by omega) _ _ _ _ _ _
              · rw [if_neg h31]
                exact key7 _ (by omega) _ _ _ _ _
          · rw [if_neg hw]
            by_cases h29 : c % 32 = 29
            · rw [if_pos h29]
              by_cases hv : v = false
              · rw [if_pos hv]
                exact key7 _ (by omega) _ _ _ _ _
              · rw [if_neg hv]
                by_cases h31 : c % 32 = 31
                · rw [if_pos h31]
                  exact key _ (by omega) _ _ _ _ _ _
                · rw [if_neg h31]
                  exact key7 _ (by omega) _ _ _ _ _
            · rw [if_neg h29]
              by_cases h30 : c % 32 = 30
              · rw [if_pos h30]
                by_cases hv : v = false
                · rw [if_pos hv]
                  exact key7 _ (by omega) _ _ _ _ _
                · rw [if_neg hv]
                  by_cases h31 : c % 32 = 31
                  · rw [if_pos h31]
                    exact key _ (by omega) _ _ _ _ _ _
                  · rw [if_neg h31]
                    exact key7 _ (by omega) _ _ _ _ _
              · rw [if_neg h30]
                by_cases hv : v = false
                · rw [if_pos hv]
                  exact key7 _ (by omega) _ _ _ _ _
                · rw [if_neg hv]
                  by_cases h31 : c % 32 = 31
                  · rw [if_pos h31]
                    exact key _ (by omega) _ _ _ _ _ _
                  · rw [if_neg h31]
                    exact key7 _ (by omega) _ _ _ _ _
  | succ r ih =>
    intro m st c f hm hst hc hf
    by_cases h0 : c = 0
    · rw [show f = (f - 39) + 39 by omega, rp_0_h1, if_pos ((pu_eq0 hc).mpr h0)]
      simp only [pS, if_pos h0, pu_eq0 (show st < 2 ^ 31 by omega)]
      by_cases h1 : st = 0 <;> simp [h1, pb]
    · have h32 := pu_T (show c % 32 < 32 by omega) (by decide)
      have e32 := pu_cl (show c % 32 < 32 by omega) (by decide)
      have key : ∀ f8, 66 * (r + 2) + 26 ≤ f8 → ∀ a9 a10 s0 : Int32, a9 = pb (pIsC nc c) → a10 = pb (pIsW w c) → s0 = pb (pIsV v c) → mm_ex sr (rG d) 3 rp_0_l f8 rp_0_r8 [.ref 0, .int x1, .int (nI (m + (r + 1))), .int (pb w), .int (pb v), .int (nI (c / 32)), .int (nI st), .int (nI (m + 1)), .int (nI (c % 32)), .int a9, .int a10, .null] [.int s0] τ = some (pb (pS nc (τ.1 1) w v (r + 1) st c), 0, τ) := by
        intro f8 hf8 a9 a10 s0 e9 e10 e0
        subst e9 e10 e0
        have go : ∀ (q st' : Nat) (b9 b10 b0 : Int32), q ≤ 26 → st' = pNx (τ.1 1) nc c → (!decide (st = 2) && (pIsC nc c || (!decide (st = 0) && (pIsW w c || pIsV v c)))) = true → mm_ex sr (rG d) 3 rp_0_l (f8 - 26 + q) rp_0_r1 [.ref 0, .int x1, .int (nI (m + (r + 1))), .int (pb w), .int (pb v), .int (nI (c / 32)), .int (nI st'), .int (nI (m + 1)), .int (nI (c % 32)), .int b9, .int b10, .int b0] [] τ = some (pb (pS nc (τ.1 1) w v (r + 1) st c), 0, τ) := by
          intro q st' b9 b10 b0 hq hs hok
          refine mm_ref _ _ [.ref 0, .int x1, .int (nI (m + 1 + r)), .int (pb w), .int (pb v), .int (nI (c / 32)), .int (nI st'), .int (nI (m + 1)), .null, .null, .null, .null] _ _ _ (by simp [mm_rf, show m + 1 + r = m + (r + 1) by omega]) ?_
          rw [ih (m + 1) st' (c / 32) _ (by omega) (by rw [hs]; unfold pNx; split <;> split <;> omega) (by omega) (by omega)]
          simp only [pS, if_neg h0, hok, Bool.true_and, hs]
        have no : (!decide (st = 2) && (pIsC nc c || (!decide (st = 0) && (pIsW w c || pIsV v c)))) = false → (some ((0 : Int32), (0 : Int64), τ) : Option mm_R) = some (pb (pS nc (τ.1 1) w v (r + 1) st c), 0, τ) := by
          intro hok
          simp only [pS, if_neg h0, hok, Bool.false_and]
          rfl
        have n0 : (0 : Int32) = nI 0 := by decide
        have n1 : (1 : Int32) = nI 1 := by decide
        have n2 : (2 : Int32) = nI 2 := by decide
        have e2 : (nI st = 2) ↔ st = 2 := nI_eq (by omega) (by decide)
        have e29 : (nI (c % 32) = 29) ↔ c % 32 = 29 := nI_eq (by omega) (by decide)
        rw [show f8 = (f8 - 26) + 26 by omega, rp_0_h8, if_neg (nI_nlt (by omega) (by omega))]
        simp only [e2, e29, pu_eq0 (show st < 2 ^ 31 by omega), h32, if_true, e32, pb_if]
        by_cases h2 : st = 2
        · rw [if_pos h2]
          exact no (by simp [h2])
        · rw [if_neg h2]
          cases hC : pIsC nc c with
          | true =>
            simp only [if_true]
            by_cases hg : τ.1 1 (c % 32) = 0
            · rw [if_pos hg]
              rw [n2]
              exact go _ 2 _ _ _ (by omega) (by simp [pNx, hC, hg]) (by simp [h2, hC])
            · rw [if_neg hg]
              rw [n1]
              exact go _ 1 _ _ _ (by omega) (by simp [pNx, hC, hg]) (by simp [h2, hC])
          | false =>
            simp only [Bool.false_eq_true, if_false]
            by_cases h3 : st = 0
            · rw [if_pos h3]
              exact no (by simp [h3, hC])
            · rw [if_neg h3]
              cases hW : pIsW w c with
              | false =>
                simp only [Bool.false_eq_true, if_false]
                cases hV : pIsV v c with
                | false =>
                  simp only [Bool.false_eq_true, if_false]
                  exact no (by simp [hC, hW, hV])
                | true =>
                  simp only [if_true]
                  by_cases h9 : c % 32 = 29
                  · rw [if_pos h9]
                    exact go _ 0 _ _ _ (by omega) (by simp [pNx, hC, h9]) (by simp [h2, h3, hV])
                  · rw [if_neg h9]
                    exact go _ 2 _ _ _ (by omega) (by simp [pNx, hC, h9]) (by simp [h2, h3, hV])
              | true =>
                simp only [if_true]
                by_cases h9 : c % 32 = 29
                · rw [if_pos h9]
                  exact go _ 0 _ _ _ (by omega) (by simp [pNx, hC, h9]) (by simp [h2, h3, hW])
                · rw [if_neg h9]
                  exact go _ 2 _ _ _ (by omega) (by simp [pNx, hC, h9]) (by simp [h2, h3, hW])
      have key7 : ∀ f8, 66 * (r + 2) + 27 ≤ f8 → ∀ a9 a10 : Int32, a9 = pb (pIsC nc c) → a10 = pb (pIsW w c) → pIsV v c = false → mm_ex sr (rG d) 3 rp_0_l f8 rp_0_r7 [.ref 0, .int x1, .int (nI (m + (r + 1))), .int (pb w), .int (pb v), .int (nI (c / 32)), .int (nI st), .int (nI (m + 1)), .int (nI (c % 32)), .int a9, .int a10, .null] [] τ = some (pb (pS nc (τ.1 1) w v (r + 1) st c), 0, τ) := by
        intro f8 hf8 a9 a10 e9 e10 e0
        rw [show f8 = (f8 - 1) + 1 by omega, rp_0_h7]
        exact key _ (by omega) _ _ _ e9 e10 (pb_e0 e0)
      have l1 : (nI (c % 32) < 1) ↔ c % 32 < 1 := nI_ltI (b := 1) (by omega) (by decide)
      have l2 : (nI nc < nI (c % 32)) ↔ nc < c % 32 := nI_ltI (by omega) (by omega)
      have l3 : (nI (c % 32) = 29) ↔ c % 32 = 29 := nI_eq (b := 29) (by omega) (by decide)
      have l4 : (nI (c % 32) = 30) ↔ c % 32 = 30 := nI_eq (b := 30) (by omega) (by decide)
      have l5 : (nI (c % 32) = 31) ↔ c % 32 = 31 := nI_eq (b := 31) (by omega) (by decide)
      rw [show f = (f - 39) + 39 by omega, rp_0_h1, if_neg (fun q => h0 ((pu_eq0 hc).mp q)), pu_and5 hc, pu_shr5 hc, hK.1, nI_1]
      simp only [l1, l2, l3, l4, l5, pb_0]
      by_cases hc1 : c % 32 < 1
      · rw [if_pos hc1]
        by_cases hw : w = false
        · rw [if_pos hw]
          by_cases hv : v = false
          · rw [if_pos hv]
            exact key7 _ (by omega) _ _ (pb_e0 (by unfold pIsC; rw [decide_eq_false_iff_not]; omega)) (pb_e0 (by simp [pIsW, hw])) (by simp [pIsV, hv])
          · rw [if_neg hv]
            by_cases h31 : c % 32 = 31
            · rw [if_pos h31]
              exact key _ (by omega) _ _ _ (pb_e0 (by unfold pIsC; rw [decide_eq_false_iff_not]; omega)) (pb_e0 (by simp [pIsW, hw])) (pb_e1 (by simp [pIsV, hv, h31]))
            · rw [if_neg h31]
              exact key7 _ (by omega) _ _ (pb_e0 (by unfold pIsC; rw [decide_eq_false_iff_not]; omega)) (pb_e0 (by simp [pIsW, hw])) (by simp [pIsV, h31])
        · rw [if_neg hw]
          by_cases h29 : c % 32 = 29
          · rw [if_pos h29]
            by_cases hv : v = false
            · rw [if_pos hv]
              exact key7 _ (by omega) _ _ (pb_e0 (by unfold pIsC; rw [decide_eq_false_iff_not]; omega)) (pb_e1 (by simp [pIsW, hw, h29])) (by simp [pIsV, hv])
            · rw [if_neg hv]
              by_cases h31 : c % 32 = 31
              · rw [if_pos h31]
                exact key _ (by omega) _ _ _ (pb_e0 (by unfold pIsC; rw [decide_eq_false_iff_not]; omega)) (pb_e1 (by simp [pIsW, hw, h29])) (pb_e1 (by simp [pIsV, hv, h31]))
              · rw [if_neg h31]
                exact key7 _ (by omega) _ _ (pb_e0 (by unfold pIsC; rw [decide_eq_false_iff_not]; omega)) (pb_e1 (by simp [pIsW, hw, h29])) (by simp [pIsV, h31])
          · rw [if_neg h29]
            by_cases h30 : c % 32 = 30
            · rw [if_pos h30]
              by_cases hv : v = false
              · rw [if_pos hv]
                exact key7 _ (by omega) _ _ (pb_e0 (by unfold pIsC; rw [decide_eq_false_iff_not]; omega)) (pb_e1 (by simp [pIsW, hw, h30])) (by simp [pIsV, hv])
              · rw [if_neg hv]
                by_cases h31 : c % 32 = 31
                · rw [if_pos h31]
                  exact key _ (by omega) _ _ _ (pb_e0 (by unfold pIsC; rw [decide_eq_false_iff_not]; omega)) (pb_e1 (by simp [pIsW, hw, h30])) (pb_e1 (by simp [pIsV, hv, h31]))
                · rw [if_neg h31]
                  exact key7 _ (by omega) _ _ (pb_e0 (by unfold pIsC; rw [decide_eq_false_iff_not]; omega)) (pb_e1 (by simp [pIsW, hw, h30])) (by simp [pIsV, h31])
            · rw [if_neg h30]
              by_cases hv : v = false
              · rw [if_pos hv]
                exact key7 _ (by omega) _ _ (pb_e0 (by unfold pIsC; rw [decide_eq_false_iff_not]; omega)) (pb_e0 (by simp [pIsW, h29, h30])) (by simp [pIsV, hv])
              · rw [if_neg hv]
                by_cases h31 : c % 32 = 31
                · rw [if_pos h31]
                  exact key _ (by omega) _ _ _ (pb_e0 (by unfold pIsC; rw [decide_eq_false_iff_not]; omega)) (pb_e0 (by simp [pIsW, h29, h30])) (pb_e1 (by simp [pIsV, hv, h31]))
                · rw [if_neg h31]
                  exact key7 _ (by omega) _ _ (pb_e0 (by unfold pIsC; rw [decide_eq_false_iff_not]; omega)) (pb_e0 (by simp [pIsW, h29, h30])) (by simp [pIsV, h31])
      · rw [if_neg hc1]
        by_cases hc2 : nc < c % 32
        · rw [if_pos hc2]
          by_cases hw : w = false
          · rw [if_pos hw]
            by_cases hv : v = false
            · rw [if_pos hv]
              exact key7 _ (by omega) _ _ (pb_e0 (by unfold pIsC; rw [decide_eq_false_iff_not]; omega)) (pb_e0 (by simp [pIsW, hw])) (by simp [pIsV, hv])
            · rw [if_neg hv]
              by_cases h31 : c % 32 = 31
              · rw [if_pos h31]
                exact key _ (by omega) _ _ _ (pb_e0 (by unfold pIsC; rw [decide_eq_false_iff_not]; omega)) (pb_e0 (by simp [pIsW, hw])) (pb_e1 (by simp [pIsV, hv, h31]))
              · rw [if_neg h31]
                exact key7 _ (by omega) _ _ (pb_e0 (by unfold pIsC; rw [decide_eq_false_iff_not]; omega)) (pb_e0 (by simp [pIsW, hw])) (by simp [pIsV, h31])
          · rw [if_neg hw]
            by_cases h29 : c % 32 = 29
            · rw [if_pos h29]
              by_cases hv : v = false
              · rw [if_pos hv]
                exact key7 _ (by omega) _ _ (pb_e0 (by unfold pIsC; rw [decide_eq_false_iff_not]; omega)) (pb_e1 (by simp [pIsW, hw, h29])) (by simp [pIsV, hv])
              · rw [if_neg hv]
                by_cases h31 : c % 32 = 31
                · rw [if_pos h31]
                  exact key _ (by omega) _ _ _ (pb_e0 (by unfold pIsC; rw [decide_eq_false_iff_not]; omega)) (pb_e1 (by simp [pIsW, hw, h29])) (pb_e1 (by simp [pIsV, hv, h31]))
                · rw [if_neg h31]
                  exact key7 _ (by omega) _ _ (pb_e0 (by unfold pIsC; rw [decide_eq_false_iff_not]; omega)) (pb_e1 (by simp [pIsW, hw, h29])) (by simp [pIsV, h31])
            · rw [if_neg h29]
              by_cases h30 : c % 32 = 30
              · rw [if_pos h30]
                by_cases hv : v = false
                · rw [if_pos hv]
                  exact key7 _ (by omega) _ _ (pb_e0 (by unfold pIsC; rw [decide_eq_false_iff_not]; omega)) (pb_e1 (by simp [pIsW, hw, h30])) (by simp [pIsV, hv])
                · rw [if_neg hv]
                  by_cases h31 : c % 32 = 31
                  · rw [if_pos h31]
                    exact key _ (by omega) _ _ _ (pb_e0 (by unfold pIsC; rw [decide_eq_false_iff_not]; omega)) (pb_e1 (by simp [pIsW, hw, h30])) (pb_e1 (by simp [pIsV, hv, h31]))
                  · rw [if_neg h31]
                    exact key7 _ (by omega) _ _ (pb_e0 (by unfold pIsC; rw [decide_eq_false_iff_not]; omega)) (pb_e1 (by simp [pIsW, hw, h30])) (by simp [pIsV, h31])
              · rw [if_neg h30]
                by_cases hv : v = false
                · rw [if_pos hv]
                  exact key7 _ (by omega) _ _ (pb_e0 (by unfold pIsC; rw [decide_eq_false_iff_not]; omega)) (pb_e0 (by simp [pIsW, h29, h30])) (by simp [pIsV, hv])
                · rw [if_neg hv]
                  by_cases h31 : c % 32 = 31
                  · rw [if_pos h31]
                    exact key _ (by omega) _ _ _ (pb_e0 (by unfold pIsC; rw [decide_eq_false_iff_not]; omega)) (pb_e0 (by simp [pIsW, h29, h30])) (pb_e1 (by simp [pIsV, hv, h31]))
                  · rw [if_neg h31]
                    exact key7 _ (by omega) _ _ (pb_e0 (by unfold pIsC; rw [decide_eq_false_iff_not]; omega)) (pb_e0 (by simp [pIsW, h29, h30])) (by simp [pIsV, h31])
        · rw [if_neg hc2]
          by_cases hw : w = false
          · rw [if_pos hw]
            by_cases hv : v = false
            · rw [if_pos hv]
              exact key7 _ (by omega) _ _ (pb_e1 (by unfold pIsC; rw [decide_eq_true_iff]; omega)) (pb_e0 (by simp [pIsW, hw])) (by simp [pIsV, hv])
            · rw [if_neg hv]
              by_cases h31 : c % 32 = 31
              · rw [if_pos h31]
                exact key _ (by omega) _ _ _ (pb_e1 (by unfold pIsC; rw [decide_eq_true_iff]; omega)) (pb_e0 (by simp [pIsW, hw])) (pb_e1 (by simp [pIsV, hv, h31]))
              · rw [if_neg h31]
                exact key7 _ (by omega) _ _ (pb_e1 (by unfold pIsC; rw [decide_eq_true_iff]; omega)) (pb_e0 (by simp [pIsW, hw])) (by simp [pIsV, h31])
          · rw [if_neg hw]
            by_cases h29 : c % 32 = 29
            · rw [if_pos h29]
              by_cases hv : v = false
              · rw [if_pos hv]
                exact key7 _ (by omega) _ _ (pb_e1 (by unfold pIsC; rw [decide_eq_true_iff]; omega)) (pb_e1 (by simp [pIsW, hw, h29])) (by simp [pIsV, hv])
              · rw [if_neg hv]
                by_cases h31 : c % 32 = 31
                · rw [if_pos h31]
                  exact key _ (by omega) _ _ _ (pb_e1 (by unfold pIsC; rw [decide_eq_true_iff]; omega)) (pb_e1 (by simp [pIsW, hw, h29])) (pb_e1 (by simp [pIsV, hv, h31]))
                · rw [if_neg h31]
                  exact key7 _ (by omega) _ _ (pb_e1 (by unfold pIsC; rw [decide_eq_true_iff]; omega)) (pb_e1 (by simp [pIsW, hw, h29])) (by simp [pIsV, h31])
            · rw [if_neg h29]
              by_cases h30 : c % 32 = 30
              · rw [if_pos h30]
                by_cases hv : v = false
                · rw [if_pos hv]
                  exact key7 _ (by omega) _ _ (pb_e1 (by unfold pIsC; rw [decide_eq_true_iff]; omega)) (pb_e1 (by simp [pIsW, hw, h30])) (by simp [pIsV, hv])
                · rw [if_neg hv]
                  by_cases h31 : c % 32 = 31
                  · rw [if_pos h31]
                    exact key _ (by omega) _ _ _ (pb_e1 (by unfold pIsC; rw [decide_eq_true_iff]; omega)) (pb_e1 (by simp [pIsW, hw, h30])) (pb_e1 (by simp [pIsV, hv, h31]))
                  · rw [if_neg h31]
                    exact key7 _ (by omega) _ _ (pb_e1 (by unfold pIsC; rw [decide_eq_true_iff]; omega)) (pb_e1 (by simp [pIsW, hw, h30])) (by simp [pIsV, h31])
              · rw [if_neg h30]
                by_cases hv : v = false
                · rw [if_pos hv]
                  exact key7 _ (by omega) _ _ (pb_e1 (by unfold pIsC; rw [decide_eq_true_iff]; omega)) (pb_e0 (by simp [pIsW, h29, h30])) (by simp [pIsV, hv])
                · rw [if_neg hv]
                  by_cases h31 : c % 32 = 31
                  · rw [if_pos h31]
                    exact key _ (by omega) _ _ _ (pb_e1 (by unfold pIsC; rw [decide_eq_true_iff]; omega)) (pb_e0 (by simp [pIsW, h29, h30])) (pb_e1 (by simp [pIsV, hv, h31]))
                  · rw [if_neg h31]
                    exact key7 _ (by omega) _ _ (pb_e1 (by unfold pIsC; rw [decide_eq_true_iff]; omega)) (pb_e0 (by simp [pIsW, h29, h30])) (by simp [pIsV, h31])
/-- the two say the same -/
theorem pS_eq {nc : Nat} (hn : nc ≤ 13) (g : Nat → Int32) (w v : Bool) : ∀ r, (∀ c, pS nc g w v r 0 c = (pTA nc g w v r).1 c) ∧ (∀ c, pS nc g w v r 1 c = (decide (c = 0) || (pTA nc g w v r).2 c)) ∧ ∀ c, pS nc g w v r 2 c = decide (c = 0) := by
  intro r
  induction r with
  | zero =>
    refine ⟨fun c => by simp [pS, pTA], fun c => by simp [pS, pTA], fun c => by simp [pS]⟩
  | succ r ih =>
    obtain ⟨i0, i1, i2⟩ := ih
    have nx : ∀ c, pIsC nc c = true → pS nc g w v r (pNx g nc c) (c / 32) = (decide (c / 32 = 0) || (!decide (g (c % 32) = 0) && (pTA nc g w v r).2 (c / 32))) := by
      intro c hC
      unfold pNx
      rw [if_pos hC]
      by_cases hg : g (c % 32) = 0
      · rw [if_pos hg, i2]
        simp [hg]
      · rw [if_neg hg, i1]
        simp [hg]
    refine ⟨fun c => ?_, fun c => ?_, fun c => ?_⟩
    · by_cases h0 : c = 0
      · subst h0
        simp [pS, pTA]
      · simp only [pS, if_neg h0, pTA]
        cases hC : pIsC nc c with
        | true =>
          rw [nx c hC]
          have : decide (1 ≤ c % 32 ∧ c % 32 ≤ nc) = true := hC
          rw [this]
          simp
        | false =>
          have : decide (1 ≤ c % 32 ∧ c % 32 ≤ nc) = false := hC
          rw [this]
          simp
    · by_cases h0 : c = 0
      · subst h0
        simp [pS]
      · simp only [pS, if_neg h0, pTA]
        cases hC : pIsC nc c with
        | true =>
          rw [nx c hC]
          have h1 : decide (1 ≤ c % 32 ∧ c % 32 ≤ nc) = true := hC
          have h2 : 1 ≤ c % 32 ∧ c % 32 ≤ nc := of_decide_eq_true h1
          rw [if_neg (show ¬ c % 32 = 31 by omega), if_neg (show ¬ c % 32 = 30 by omega), if_neg (show ¬ c % 32 = 29 by omega), h1]
          simp [h0]
        | false =>
          have h1 : decide (1 ≤ c % 32 ∧ c % 32 ≤ nc) = false := hC
          unfold pNx
          rw [hC, h1]
          simp only [Bool.false_eq_true, if_false, pIsW, pIsV]
          by_cases h31 : c % 32 = 31
          · simp [h0, h31, i2]
            cases v <;> simp
            by_cases h9 : c = 31
            · simp [h9]
            · simp [h9]
              omega
          · by_cases h30 : c % 32 = 30
            · simp [h0, h30, i2]
              cases w <;> simp
              by_cases h9 : c = 30
              · simp [h9]
              · simp [h9]
                omega
            · by_cases h29 : c % 32 = 29
              · simp [h0, h29, i0]
              · simp [h0, h31, h30, h29]
    · by_cases h0 : c = 0 <;> simp [pS, h0]
theorem r_written {τ : mm_S} {nc : Nat} (hK : rK τ nc) (w v : Bool) {k : Nat} (hk : k ≤ 6) (x : Int32) (d : Nat) : rG (d + 1) 0 [.ref 0, .int x, .int (nI k), .int (pb w), .int (pb v)] τ = some (pb (pCode nc (τ.1 1) w v k x), 0, τ) := by
  rw [rp_0_g]
  by_cases h : x ≤ 0
  · rw [if_neg (by rw [Int32.not_lt]; exact h)]
    simp [pCode, h, pb]
  · rw [if_pos (by rw [← Int32.not_le]; exact h)]
    obtain ⟨c, hc, rfl⟩ := nI_of (x := x) (fun q => h (Int32.le_of_lt q))
    have := r_wr_loop hK w v (nI c) d k 0 0 c (99999990 + 2) (by omega) (by omega) hc (by omega)
    rw [nI_0, Nat.zero_add] at this
    rw [this, (pS_eq hK.2 (τ.1 1) w v k).1 c]
    simp [pCode, h, nI_clamp hc]
