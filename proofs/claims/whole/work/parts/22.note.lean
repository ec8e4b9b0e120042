/-! PURE: the supertypes' scratch rows: cS σ a n is the class's state σ with the row a and the count n; rS the reference's -/
def cS (σ : mm_S) (a : Nat → Int64) (n : Nat) : mm_S := (mm_w σ.1 1 8 (nI n), fun k => if k = 12 then a else σ.2 k)
def rS (τ : mm_S) (a : Nat → Int64) (n : Nat) : mm_S := (mm_w τ.1 0 20 (nI n), fun k => if k = 17 then a else τ.2 k)
theorem mm_ww {α : Type} {f : Nat → Nat → α} {k j : Nat} {v w : α} : mm_w (mm_w f k j v) k j w = mm_w f k j w := by
  funext k' j'
  unfold mm_w
  by_cases h : k' = k
  · simp only [if_pos h]
    by_cases h2 : j' = j <;> simp [h2]
  · simp only [if_neg h]
theorem mm_w_at {α : Type} {f : Nat → Nat → α} {k j : Nat} {v : α} : mm_w f k j v k j = v := by simp [mm_w]
theorem mm_w_at2 {α : Type} {f : Nat → Nat → α} {k j j' : Nat} {v : α} (h : j' ≠ j) : mm_w f k j v k j' = f k j' := by simp [mm_w, h]
theorem mm_w_off {α : Type} {f : Nat → Nat → α} {k j k' j' : Nat} {v : α} (h : k' ≠ k) : mm_w f k j v k' j' = f k' j' := by simp [mm_w, h]
def pUp (a : Nat → Int64) (n : Nat) (t : Int64) : Nat → Int64 := fun i => if i = n then t else a i
theorem cS_n (σ : mm_S) (a : Nat → Int64) (n : Nat) : (cS σ a n).1 1 8 = nI n := by simp [cS, mm_w]
theorem cS_a (σ : mm_S) (a : Nat → Int64) (n : Nat) : (cS σ a n).2 12 = a := by simp [cS]
theorem cS_o (σ : mm_S) (a : Nat → Int64) (n : Nat) {k : Nat} (h : k ≠ 1) : (cS σ a n).1 k = σ.1 k := mm_w_ne h
theorem rS_n (τ : mm_S) (a : Nat → Int64) (n : Nat) : (rS τ a n).1 0 20 = nI n := by simp [rS, mm_w]
theorem rS_a (τ : mm_S) (a : Nat → Int64) (n : Nat) : (rS τ a n).2 17 = a := by simp [rS]
theorem rS_o (τ : mm_S) (a : Nat → Int64) (n : Nat) {k : Nat} (h : k ≠ 0) : (rS τ a n).1 k = τ.1 k := mm_w_ne h
theorem cS_put (σ : mm_S) (a : Nat → Int64) (n m : Nat) (t : Int64) : ((mm_w (cS σ a n).1 1 8 (nI m), mm_w (cS σ a n).2 12 n t) : mm_S) = cS σ (pUp a n t) m := by
  refine Prod.ext ?_ ?_
  · exact mm_ww
  · funext k j
    unfold mm_w cS pUp
    by_cases h : k = 12
    · subst h; simp
    · simp [h]
theorem rS_put (τ : mm_S) (a : Nat → Int64) (n m : Nat) (t : Int64) : ((mm_w (rS τ a n).1 0 20 (nI m), mm_w (rS τ a n).2 17 n t) : mm_S) = rS τ (pUp a n t) m := by
  refine Prod.ext ?_ ?_
  · exact mm_ww
  · funext k j
    unfold mm_w rS pUp
    by_cases h : k = 17
    · subst h; simp
    · simp [h]
def pMemF (a : Nat → Int64) (t : Int64) : Nat → Nat → Bool
  | 0, _ => false
  | r + 1, k => decide (a k = t) || pMemF a t r (k + 1)
def pMem (a : Nat → Int64) (n : Nat) (t : Int64) : Bool := pMemF a t n 0
/-- a type is noted: a row and a count -/
def pNt (s : (Nat → Int64) × Nat) (t : Int64) : (Nat → Int64) × Nat := if pMem s.1 s.2 t = true then s else (pUp s.1 s.2 t, s.2 + 1)
theorem c_note_loop (σ : mm_S) (a : Nat → Int64) {n : Nat} (hn : n < 16) (t : Int64) (d : Nat) : ∀ (r k f : Nat), k + r = n → 21 * (r + 1) ≤ f → mm_ex sc (cG d) 0 cp_37_l f cp_37_r1 [.ref 1, .long t, .null, .int (nI k)] [] (cS σ a n) = some ((0 : Int32), (0 : Int64), if pMemF a t r k = true then cS σ a n else cS σ (pUp a n t) (n + 1)) := by
  intro r
  induction r with
  | zero =>
    intro k f hk hf
    have e : k = n := by omega
    subst e
    rw [show f = (f - 21) + 21 by omega, cp_37_h1, cS_n, if_pos (show nI k ≤ nI k from nI_le (Nat.le_refl _) (by omega)), if_neg (show ¬ (16 : Int32) ≤ nI k from (nI_ge hn (by decide) : ¬ nI 16 ≤ nI k)), if_pos (pu_in hn (by decide)), nI_1, pu_cl hn (by decide), cS_put]
    rfl
  | succ r ih =>
    intro k f hk hf
    rw [show f = (f - 21) + 21 by omega, cp_37_h1, cS_n, if_neg (nI_ge (show k < n by omega) (by omega)), if_pos (pu_in (show k < 16 by omega) (by decide)), pu_cl (show k < 16 by omega) (by decide), cS_a]
    simp only [pu_cmp, pMemF]
    by_cases h : a k = t
    · rw [if_pos h]
      simp [h]
    · rw [if_neg h, nI_1, ih (k + 1) _ (by omega) (by omega)]
      simp [h]
theorem c_note (σ : mm_S) (s : (Nat → Int64) × Nat) (hn : s.2 < 16) (t : Int64) (d : Nat) : cG (d + 1) 37 [.ref 1, .long t] (cS σ s.1 s.2) = some ((0 : Int32), (0 : Int64), cS σ (pNt s t).1 (pNt s t).2) := by
  have h := c_note_loop σ s.1 hn t d s.2 0 (99999998 + 0) (by omega) (by omega)
  rw [nI_0] at h
  rw [cp_37_g, h]
  unfold pNt pMem
  split <;> rfl
theorem r_note_loop (τ : mm_S) (a : Nat → Int64) {n : Nat} (hn : n < 16) (t : Int64) (d : Nat) : ∀ (r k f : Nat), k + r = n → 17 * (r + 1) ≤ f → mm_ex sr (rG d) 0 rp_13_l f rp_13_r1 [.ref 0, .long t, .null, .int (nI k)] [] (rS τ a n) = some ((0 : Int32), (0 : Int64), if pMemF a t r k = true then rS τ a n else rS τ (pUp a n t) (n + 1)) := by
  intro r
  induction r with
  | zero =>
    intro k f hk hf
    have e : k = n := by omega
    subst e
    rw [show f = (f - 17) + 17 by omega, rp_13_h1, rS_n, if_pos (show nI k ≤ nI k from nI_le (Nat.le_refl _) (by omega)), if_pos (pu_in hn (by decide)), nI_1, pu_cl hn (by decide), rS_put]
    rfl
  | succ r ih =>
    intro k f hk hf
    rw [show f = (f - 17) + 17 by omega, rp_13_h1, rS_n, if_neg (nI_ge (show k < n by omega) (by omega)), if_pos (pu_in (show k < 16 by omega) (by decide)), pu_cl (show k < 16 by omega) (by decide), rS_a]
    simp only [pu_cmp, pMemF]
    by_cases h : a k = t
    · rw [if_pos h]
      simp [h]
    · rw [if_neg h, nI_1, ih (k + 1) _ (by omega) (by omega)]
      simp [h]
theorem r_note (τ : mm_S) (s : (Nat → Int64) × Nat) (hn : s.2 < 16) (t : Int64) (d : Nat) : rG (d + 1) 13 [.ref 0, .long t] (rS τ s.1 s.2) = some ((0 : Int32), (0 : Int64), rS τ (pNt s t).1 (pNt s t).2) := by
  have h := r_note_loop τ s.1 hn t d s.2 0 (99999998 + 0) (by omega) (by omega)
  rw [nI_0] at h
  rw [rp_13_g, h]
  unfold pNt pMem
  split <;> rfl
