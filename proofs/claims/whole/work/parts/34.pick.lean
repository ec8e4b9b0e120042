/-! PURE: find and pick: the one bean that is left, or none, or more -/
def pIdx (q : Nat → Bool) : Nat → Nat
  | 0 => 0
  | n + 1 => if q n = true then n else pIdx q n
theorem pCt_ext {p q : Nat → Bool} : ∀ {n : Nat}, (∀ i, i < n → p i = q i) → pCt p n = pCt q n
  | 0, _ => rfl
  | n + 1, h => by rw [pCt, pCt, pCt_ext (n := n) (fun i hi => h i (by omega)), h n (by omega)]
theorem pIdx_ext {p q : Nat → Bool} : ∀ {n : Nat}, (∀ i, i < n → p i = q i) → pIdx p n = pIdx q n
  | 0, _ => rfl
  | n + 1, h => by rw [pIdx, pIdx, pIdx_ext (n := n) (fun i hi => h i (by omega)), h n (by omega)]
theorem pCt_cut {q : Nat → Bool} {n : Nat} : ∀ {k : Nat}, pCt (fun i => decide (i < n) && q i) (n + k) = pCt q n
  | 0 => pCt_ext (fun i hi => by simp at hi; simp [hi])
  | k + 1 => by
    rw [← Nat.add_assoc, pCt, pCt_cut (k := k)]
    simp [show ¬ n + k < n by omega]
theorem pCt_bits {q : Nat → Bool} {n : Nat} (hn : n ≤ 16) : pCt (pBits q n).testBit 16 = pCt q n := by
  have := pCt_cut (q := q) (n := n) (k := 16 - n)
  rw [show n + (16 - n) = 16 by omega] at this
  rw [← this]
  exact pCt_ext (fun i _ => pBits_bit q n i)
theorem pCt_zero {q : Nat → Bool} : ∀ {n : Nat}, pCt q n = 0 → pBits q n = 0
  | 0, _ => rfl
  | n + 1, h => by
    rw [pCt] at h
    have h1 : ¬ q n = true := by
      intro z
      rw [if_pos z] at h
      omega
    rw [if_neg h1] at h
    rw [pBits, if_neg h1, pCt_zero (n := n) (by omega)]
theorem pCt_one {q : Nat → Bool} : ∀ {n : Nat}, pCt q n = 1 → pBits q n = 2 ^ pIdx q n ∧ pIdx q n < n ∧ q (pIdx q n) = true
  | 0, h => by simp [pCt] at h
  | n + 1, h => by
    rw [pCt] at h
    rw [pBits, pIdx]
    by_cases h1 : q n = true
    · rw [if_pos h1] at h
      rw [if_pos h1, if_pos h1, pCt_zero (n := n) (by omega)]
      exact ⟨by omega, by omega, h1⟩
    · rw [if_neg h1] at h
      obtain ⟨a, b, c⟩ := pCt_one (q := q) (n := n) (by omega)
      rw [if_neg h1, if_neg h1]
      exact ⟨by omega, by omega, c⟩
theorem pBits_pow {q : Nat → Bool} {n b : Nat} (hb : b < n) (h : pBits q n = 2 ^ b) : pCt q n = 1 ∧ pIdx q n = b := by
  have e : ∀ i, i < n → q i = decide (i = b) := by
    intro i hi
    have := pBits_bit q n i
    rw [h, Nat.testBit_two_pow] at this
    simp [hi] at this
    rw [← this]
    simp [eq_comm]
  have c1 : ∀ n, b < n → pCt (fun i => decide (i = b)) n = 1 ∧ pIdx (fun i => decide (i = b)) n = b := by
    intro n
    induction n with
    | zero => intro h; omega
    | succ n ih =>
      intro h
      rw [pCt, pIdx]
      by_cases e : n = b
      · subst e
        have : pCt (fun i => decide (i = n)) n = pCt (fun _ => false) n := pCt_ext (fun i hi => by simp; omega)
        rw [this]
        have z : ∀ m, pCt (fun _ => false) m = 0 := by
          intro m
          induction m with
          | zero => rfl
          | succ m ih => rw [pCt, ih]; rfl
        rw [z]
        simp
      · obtain ⟨a1, a2⟩ := ih (by omega)
        rw [a1, a2]
        simp [e]
  rw [pCt_ext e, pIdx_ext e]
  exact c1 n hb
def pSel (q : Nat → Bool) (n : Nat) : Int32 := if pCt q n = 1 then nI (pIdx q n) else -5
def pFd (p : Nat → Bool) (rk : Nat → Int32) (n : Nat) : Int32 := if pBits p n = 0 then -4 else pSel (pNa p rk n) n
theorem pFd_or (p : Nat → Bool) (rk : Nat → Int32) (n : Nat) : pFd p rk n = -4 ∨ pFd p rk n = -5 ∨ ∃ j, j < n ∧ pFd p rk n = nI j ∧ p j = true := by
  unfold pFd
  split
  · exact Or.inl rfl
  · unfold pSel
    split
    · rename_i h
      obtain ⟨-, b, c⟩ := pCt_one h
      refine Or.inr (Or.inr ⟨_, b, rfl, ?_⟩)
      unfold pNa at c
      rw [Bool.and_eq_true] at c
      exact c.1
    · exact Or.inr (Or.inl rfl)
theorem pCt_full : ∀ i, i < 16 → pCt (2 ^ i - 1).testBit 16 = i := by decide +kernel
theorem pu_bz {p : Nat → Bool} {n : Nat} (hn : n ≤ 16) : (nI (pBits p n) = 0) ↔ pBits p n = 0 := by
  have := pBits_lt p n
  have h16 : 2 ^ n ≤ 2 ^ 16 := Nat.pow_le_pow_right (by decide) hn
  exact pu_eq0 (by omega)
theorem pCt_le (p : Nat → Bool) : ∀ n, pCt p n ≤ n
  | 0 => Nat.le_refl _
  | n + 1 => by
    have := pCt_le p n
    rw [pCt]
    split <;> omega
theorem c_find {σ : mm_S} {nc nb : Nat} {F1 F2 lv H : Nat → Nat} (hI : cI σ nc nb F1 F2 lv H) {R : Nat} (h31 : R < 2 ^ 31) (hv : (pTA nc (σ.1 6) true false 6).1 R = true) (w : Int32) (d : Nat) : cG (d + 38) 19 [.ref 2, .int (nI R), .int w] σ = some (pFd (pCd1 F1 F2 (σ.1 6) (σ.1 13) (σ.1 14) (σ.1 16) (σ.1 17) R w) (pRk (σ.1 16) (σ.1 17)) nb, 0, σ) := by
  have hB : cB σ nb := hI.2.2.1
  have hH : cHo σ nb := hI.2.2.2.2.2.2.2.2.2.1
  have hn := hB.2
  have h16 : 2 ^ nb ≤ 2 ^ 16 := Nat.pow_le_pow_right (by decide) hn
  rw [cp_19_g, c_candidateSet hI h31 hv w d]
  simp only [Option.bind_some, pu_bz hn]
  unfold pFd
  split
  · rfl
  · rw [show d + 37 = (d + 34) + 3 by omega, c_narrow hB hH]
    simp only [Option.bind_some]
    generalize pNa (pCd1 F1 F2 (σ.1 6) (σ.1 13) (σ.1 14) (σ.1 16) (σ.1 17) R w) (pRk (σ.1 16) (σ.1 17)) nb = q
    have hq := pBits_lt q nb
    rw [show d + 34 + 3 = (d + 36) + 1 by omega, c_bitCount (by omega), pCt_bits hn]
    simp only [Option.bind_some]
    have e1 : (nI (pCt q nb) = 1) ↔ pCt q nb = 1 := nI_eq (b := 1) (by have := pCt_le q nb; omega) (by decide)
    unfold pSel
    by_cases h : pCt q nb = 1
    · obtain ⟨a, b, c⟩ := pCt_one h
      have hp : 2 ^ pIdx q nb ≤ 2 ^ 15 := Nat.pow_le_pow_right (by decide) (by omega)
      have hp1 : 1 ≤ 2 ^ pIdx q nb := Nat.pow_pos (by decide)
      rw [if_pos (e1.mpr h), if_pos h, a, show (1 : Int32) = nI 1 by decide, pk_sub hp1, c_bitCount (by omega), pCt_full _ (by omega)]
      rfl
    · rw [if_neg (fun z => h (e1.mp z)), if_neg h]
theorem r_pick_loop {τ : mm_S} {n : Nat} (hB : rB τ n) (q : Nat → Bool) (x1 x2 x3 : Int32) (d : Nat) : ∀ (r k f : Nat), k + r = n → 11 * (r + 1) ≤ f → (∀ j, j < k → ¬ pBits q n = 2 ^ j) → mm_ex sr (rG d) 1 rp_22_l f rp_22_r2 [.ref 0, .int x1, .int x2, .int x3, .int (nI (pBits q n)), .int (nI k)] [] τ = some (pSel q n, 0, τ) := by
  have hn := hB.2
  have h16 : 2 ^ n ≤ 2 ^ 16 := Nat.pow_le_pow_right (by decide) hn
  have hq := pBits_lt q n
  intro r
  induction r with
  | zero =>
    intro k f hk hf hno
    have e : k = n := by omega
    subst e
    rw [show f = (f - 11) + 11 by omega, rp_22_h2, hB.1, if_pos (nI_le (Nat.le_refl _) (by omega))]
    unfold pSel
    rw [if_neg]
    intro h
    obtain ⟨a, b, -⟩ := pCt_one h
    exact hno _ b a
  | succ r ih =>
    intro k f hk hf hno
    rw [show f = (f - 11) + 11 by omega, rp_22_h2, hB.1, if_neg (nI_ge (show k < n by omega) (by omega)), pu_1shl (show k < 16 by omega)]
    have hp : 2 ^ k ≤ 2 ^ 15 := Nat.pow_le_pow_right (by decide) (by omega)
    have e1 : (nI (pBits q n) = nI (2 ^ k)) ↔ pBits q n = 2 ^ k := nI_eq (by omega) (by omega)
    simp only [e1]
    by_cases h : pBits q n = 2 ^ k
    · rw [if_pos h]
      obtain ⟨a, b⟩ := pBits_pow (show k < n by omega) h
      unfold pSel
      rw [if_pos a, b]
    · rw [if_neg h, nI_1]
      refine ih (k + 1) _ (by omega) (by omega) (fun j hj => ?_)
      by_cases e : j = k
      · rw [e]; exact h
      · exact hno j (by omega)
theorem r_pick {τ : mm_S} {nc nb : Nat} {F1 F2 lv : Nat → Nat} (hI : rI τ nc nb F1 F2 lv) {R : Nat} (h31 : R < 2 ^ 31) (hv : (pTA nc (τ.1 1) true false 6).1 R = true) (w : Int32) (d : Nat) : ∃ τ', rEq τ τ' ∧ rG (d + 5) 22 [.ref 0, .int (nI R), .int w] τ = some (pFd (pCd1 F1 F2 (τ.1 1) (τ.1 5) (τ.1 6) (τ.1 8) (τ.1 9) R w) (pRk (τ.1 8) (τ.1 9)) nb, 0, τ') := by
  obtain ⟨τ', q, h⟩ := r_seek hI h31 hv w d
  have hI' := rI_eq q hI
  have hn := hI'.2.2.1.2
  refine ⟨τ', q, ?_⟩
  rw [rp_22_g, h]
  simp only [Option.bind_some]
  rw [show d + 4 = (d + 2) + 2 by omega, r_narrow hI'.2.2.1 hI'.2.2.2.2.2.2.2.1, q.1 8 (by decide), q.1 9 (by decide)]
  simp only [Option.bind_some, pu_bz hn]
  unfold pFd
  split
  · rfl
  · have := r_pick_loop hI'.2.2.1 (pNa (pCd1 F1 F2 (τ.1 1) (τ.1 5) (τ.1 6) (τ.1 8) (τ.1 9) R w) (pRk (τ.1 8) (τ.1 9)) nb) (nI R) w (nI (pBits (pCd1 F1 F2 (τ.1 1) (τ.1 5) (τ.1 6) (τ.1 8) (τ.1 9) R w) nb)) (d + 2 + 2) nb 0 (99999987 + 0) (by omega) (by omega) (fun j hj => absurd hj (Nat.not_lt_zero _))
    rw [nI_0] at this
    exact this
