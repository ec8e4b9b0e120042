/-! PURE: which numbers are codes: the class's recursion. pT k c: c is a type of at most k digits; pA k c: an argument -/
def pb (b : Bool) : Int32 := if b = true then 1 else 0
theorem pb_t : pb true = 1 := rfl
theorem pb_f : pb false = 0 := rfl
theorem pb_0 {b : Bool} : pb b = 0 ↔ b = false := by cases b <;> simp [pb]
theorem pb_01 (b : Bool) : pb b = 0 ∨ pb b = 1 := by cases b <;> simp [pb]
theorem pb_if {α : Type} {b : Bool} {x y : α} : (if pb b = 0 then x else y) = (if b = true then y else x) := by cases b <;> simp [pb]
def pTA (nc : Nat) (g : Nat → Int32) (w v : Bool) : Nat → (Nat → Bool) × (Nat → Bool)
  | 0 => (fun _ => false, fun _ => false)
  | k + 1 => (fun c => decide (1 ≤ c % 32 ∧ c % 32 ≤ nc) && (decide (c / 32 = 0) || (!decide (g (c % 32) = 0) && (pTA nc g w v k).2 (c / 32))),
    fun a => if a % 32 = 31 then v && decide (a = 31) else if a % 32 = 30 then w && decide (a = 30) else if a % 32 = 29 then w && (pTA nc g w v k).1 (a / 32)
      else decide (1 ≤ a % 32 ∧ a % 32 ≤ nc) && (decide (a / 32 = 0) || (!decide (g (a % 32) = 0) && (pTA nc g w v k).2 (a / 32))))
def cK (σ : mm_S) (nc : Nat) : Prop := σ.1 1 0 = nI nc ∧ nc ≤ 13
theorem pu_and5 {c : Nat} (h : c < 2 ^ 31) : nI c &&& 31 = nI (c % 32) := pk_andN (by omega) 5 (by decide)
theorem pu_shr5 {c : Nat} (h : c < 2 ^ 31) : nI c >>> ((5 : Int32) &&& 31) = nI (c / 32) := pk_shrN h _ 5 (by decide)
theorem pu_eq0 {c : Nat} (h : c < 2 ^ 31) : (nI c = 0) ↔ c = 0 := nI_eq h (by decide)
theorem c_isClass {σ : mm_S} {nc h : Nat} (hK : cK σ nc) (hh : h < 32) (d : Nat) : cG (d + 1) 25 [.ref 1, .int (nI h)] σ = some (pb (decide (1 ≤ h ∧ h ≤ nc)), 0, σ) := by
  have hn := hK.2
  rw [cp_25_g, hK.1]
  by_cases h1 : h < 1
  · rw [if_pos (show nI h < 1 from (nI_lt h1 (by decide) : nI h < nI 1))]
    simp [pb, show ¬ 1 ≤ h by omega]
  · rw [if_neg (show ¬ nI h < 1 from (nI_nlt (by omega) (by omega) : ¬ nI h < nI 1))]
    by_cases h2 : nc < h
    · rw [if_pos (nI_lt h2 (by omega))]
      simp [pb, show ¬ h ≤ nc by omega]
    · rw [if_neg (nI_nlt (by omega) (by omega))]
      simp [pb, show 1 ≤ h by omega, show h ≤ nc by omega]
theorem pu_n1 (k : Nat) : nI (k + 1) - 1 = nI k := nI_pred k
set_option maxHeartbeats 2000000 in
theorem c_codes {σ : mm_S} {nc : Nat} (hK : cK σ nc) (w v : Bool) : ∀ k, k ≤ 6 → (∀ c, c < 2 ^ 31 → ∀ d, cG (d + 2 * k + 1) 38 [.ref 1, .int (nI c), .int (nI k), .int (pb w), .int (pb v)] σ = some (pb ((pTA nc (σ.1 6) w v k).1 c), 0, σ)) ∧ (∀ c, c < 2 ^ 31 → ∀ d, cG (d + 2 * k + 2) 39 [.ref 1, .int (nI c), .int (nI k), .int (pb w), .int (pb v)] σ = some (pb ((pTA nc (σ.1 6) w v k).2 c), 0, σ)) := by
  intro k
  induction k with
  | zero =>
    intro _
    refine ⟨fun c hc d => ?_, fun c hc d => ?_⟩
    · rw [cp_38_g, nI_0, if_pos (show (0 : Int32) ≤ 0 by decide)]
      split <;> rfl
    · rw [cp_39_g, nI_0, if_neg (show ¬ (0 : Int32) < 0 by decide)]
      rfl
  | succ k ih =>
    intro hk
    obtain ⟨ih1, ih2⟩ := ih (by omega)
    have T : ∀ c, c < 2 ^ 31 → ∀ d, cG (d + 2 * (k + 1) + 1) 38 [.ref 1, .int (nI c), .int (nI (k + 1)), .int (pb w), .int (pb v)] σ = some (pb ((pTA nc (σ.1 6) w v (k + 1)).1 c), 0, σ) := by
      intro c hc d
      rw [show d + 2 * (k + 1) + 1 = (d + 2 * k + 2) + 1 by omega, cp_38_g]
      by_cases h0 : c = 0
      · subst h0
        rw [if_pos (show nI 0 ≤ 0 by decide)]
        simp [pTA, pb]
      · rw [if_neg (nI_nle (by omega) hc), if_neg (nI_nle (by omega) (by omega)), pu_and5 hc, pu_shr5 hc, show d + 2 * k + 2 = (d + 2 * k + 1) + 1 by omega, c_isClass hK (by omega)]
        have h32 := pu_T (show c % 32 < 32 by omega) (by decide)
        have e32 := pu_cl (show c % 32 < 32 by omega) (by decide)
        simp only [Option.bind_some, pb_if, pu_eq0 (show c / 32 < 2 ^ 31 by omega), h32, if_true, e32, pu_n1]
        rw [ih2 (c / 32) (by omega) d]
        simp only [Option.bind_some, pb_if, pTA]
        by_cases h1 : 1 ≤ c % 32 ∧ c % 32 ≤ nc
        · rw [if_pos (by simp [h1])]
          by_cases h2 : c / 32 = 0
          · rw [if_pos h2]
            simp [pb, h1, h2]
          · rw [if_neg h2]
            by_cases h3 : σ.1 6 (c % 32) = 0
            · rw [if_pos h3]
              simp [pb, h2, h3]
            · rw [if_neg h3]
              cases (pTA nc (σ.1 6) w v k).2 (c / 32) <;> simp [pb, h1, h2, h3]
        · rw [if_neg (by simpa using h1)]
          simp [pb, h1]
    refine ⟨T, fun c hc d => ?_⟩
    rw [show d + 2 * (k + 1) + 2 = (d + 2 * (k + 1) + 1) + 1 by omega, cp_39_g, if_pos (show 0 < nI (k + 1) from by
      have := nI_lt (show 0 < k + 1 by omega) (show k + 1 < 2 ^ 31 by omega)
      rw [nI_0] at this
      exact this), pu_and5 hc, nI_toInt (show c % 32 < 2 ^ 31 by omega)]
    have hm : c % 32 < 32 := Nat.mod_lt _ (by decide)
    by_cases h29 : c % 32 < 29
    · rw [if_pos (Or.inl (by omega)), T c hc d]
      simp only [Option.bind_some]
      rw [if_pos (pb_01 _)]
      simp only [pTA, if_neg (show ¬ c % 32 = 31 by omega), if_neg (show ¬ c % 32 = 30 by omega), if_neg (show ¬ c % 32 = 29 by omega)]
    · rw [if_neg (by omega)]
      rcases (show c % 32 = 29 ∨ c % 32 = 30 ∨ c % 32 = 31 by omega) with h | h | h
      · rw [h, show cp_39_l[9 + (((29 : Nat) : Int) - 29).toNat]? = some (cp_39_l[9]) from rfl, Option.bind_some, show (cp_39_l[9]).2 = cp_39_r9 from rfl, show (99999987 + 7 : Nat) = 99999978 + 16 from rfl, cp_39_w9]
        simp only [pTA, if_neg (show ¬ c % 32 = 31 by omega), if_neg (show ¬ c % 32 = 30 by omega), if_pos h, pb_if]
        cases w with
        | false => rfl
        | true =>
          rw [if_pos rfl, pu_shr5 hc, pu_n1, show d + 2 * (k + 1) + 1 = (d + 2) + 2 * k + 1 by omega]
          have := ih1 (c / 32) (by omega) (d + 2)
          rw [pb_t] at this
          rw [this]
          simp only [Option.bind_some, pb_if]
          cases (pTA nc (σ.1 6) true v k).1 (c / 32) <;> rfl
      · rw [h, show cp_39_l[9 + (((30 : Nat) : Int) - 29).toNat]? = some (cp_39_l[10]) from rfl, Option.bind_some, show (cp_39_l[10]).2 = cp_39_r10 from rfl, show (99999987 + 7 : Nat) = 99999986 + 8 from rfl, cp_39_w10]
        simp only [pTA, if_neg (show ¬ c % 32 = 31 by omega), if_pos h, pb_if]
        have e : (nI c = 30) ↔ c = 30 := nI_eq hc (by decide)
        simp only [e]
        cases w <;> by_cases h9 : c = 30 <;> simp [pb, h9]
      · rw [h, show cp_39_l[9 + (((31 : Nat) : Int) - 29).toNat]? = some (cp_39_l[11]) from rfl, Option.bind_some, show (cp_39_l[11]).2 = cp_39_r11 from rfl, show (99999987 + 7 : Nat) = 99999986 + 8 from rfl, cp_39_w11]
        simp only [pTA, if_pos h, pb_if]
        have e : (nI c = 31) ↔ c = 31 := nI_eq hc (by decide)
        simp only [e]
        cases v <;> by_cases h9 : c = 31 <;> simp [pb, h9]
/-- a code of at most k digits, of any number -/
def pCode (nc : Nat) (g : Nat → Int32) (w v : Bool) (k : Nat) (x : Int32) : Bool := !decide (x ≤ 0) && (pTA nc g w v k).1 x.toNatClampNeg
theorem c_isTypeCode {σ : mm_S} {nc : Nat} (hK : cK σ nc) (w v : Bool) {k : Nat} (hk : k ≤ 6) (x : Int32) (d : Nat) : cG (d + 2 * k + 1) 38 [.ref 1, .int x, .int (nI k), .int (pb w), .int (pb v)] σ = some (pb (pCode nc (σ.1 6) w v k x), 0, σ) := by
  by_cases h : x ≤ 0
  · rw [cp_38_g, if_pos h]
    simp [pCode, h, pb]
  · obtain ⟨c, hc, rfl⟩ := nI_of (x := x) (fun q => h (Int32.le_of_lt q))
    rw [(c_codes hK w v k hk).1 c hc d]
    simp [pCode, h, nI_clamp hc]
