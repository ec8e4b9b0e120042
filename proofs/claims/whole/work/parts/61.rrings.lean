/-! the reference's rings -/
def w15 (τ τ' : mm_S) (n : Nat) (X : Nat → Nat) : Prop := (∀ c, c ≠ 15 → τ'.1 c = τ.1 c) ∧ ∀ i, i < n → τ'.1 15 i = nI (X i)
theorem r_rings_in {τ : mm_S} {n k : Nat} {T : Nat → Nat} (hB : rB τ n) (hk : k < n) (hl : ∀ b, b < n → T b < 2 ^ n) (d : Nat) : ∀ (r b f : Nat) (τ' : mm_S), b + r = n → 29 * (r + 1) ≤ f → w15 τ τ' n (wX T k b) → ∃ τ'' g, f ≤ g + 29 * (r + 1) ∧ w15 τ τ'' n (wq T k) ∧ ∀ res, mm_ex sr (rG (d + 1)) 3 rp_29_l g rp_29_r1 [.ref 0, .int (nI (k + 1)), .null] [] τ'' = some res → mm_ex sr (rG (d + 1)) 3 rp_29_l f rp_29_r2 [.ref 0, .int (nI k), .int (nI b)] [] τ' = some res := by
  have hn := hB.2
  have l16 : 2 ^ n ≤ 2 ^ 16 := Nat.pow_le_pow_right (by decide) hn
  intro r
  induction r with
  | zero =>
    intro b f τ' hb hf hw
    have e : b = n := by omega
    subst e
    refine ⟨τ', f - 29 + 23, by omega, ⟨hw.1, fun i hi => by rw [hw.2 i hi, wX, if_pos hi]⟩, fun res h => ?_⟩
    rw [show f = (f - 29) + 29 by omega, rp_29_h2, hw.1 0 (by decide), hB.1]
    rw [if_pos (nI_le (Nat.le_refl _) (by omega)), nI_1]
    exact mm_ref _ _ [.ref 0, .int (nI (k + 1)), .null] _ _ _ (by simp [mm_rf]) h
  | succ r ih =>
    intro b f τ' hb hf hw
    have hb' : b < n := by omega
    have hT := pu_T (show b < 16 by omega) (by decide)
    have hC := pu_cl (show b < 16 by omega) (by decide)
    have hTk := pu_T (show k < 16 by omega) (by decide)
    have hCk := pu_cl (show k < 16 by omega) (by decide)
    have e1 : τ'.1 15 b = nI (T b) := by rw [hw.2 b hb', wX, if_neg (by omega)]
    have e2 : τ'.1 15 k = nI (T k) := by rw [hw.2 k hk, wX_k]
    have lb := hl b hb'
    have lk := hl k hk
    have hh : mm_ex sr (rG (d + 1)) 3 rp_29_l f rp_29_r2 [.ref 0, .int (nI k), .int (nI b)] [] τ' = (if (T b).testBit k = true then (mm_ex sr (rG (d + 1)) 3 rp_29_l (f - 29 + 0) rp_29_r2 [.ref 0, .int (nI k), .int (nI (b + 1))] [] (mm_w τ'.1 15 b (nI (T b ||| T k)), τ'.2)) else (mm_ex sr (rG (d + 1)) 3 rp_29_l (f - 29 + 13) rp_29_r2 [.ref 0, .int (nI k), .int (nI (b + 1))] [] τ')) := by
      conv => lhs; rw [show f = (f - 29) + 29 by omega, rp_29_h2, hw.1 0 (by decide), hB.1]
      rw [if_neg (nI_ge hb' (by omega))]
      simp only [hT, hC, hTk, hCk, if_true, e1, e2, pu_bit (show T b < 2 ^ 31 by omega) (show k < 16 by omega), nI_1]
      rw [nI_or (by omega) (by omega)]
    by_cases q : (T b).testBit k = true
    · have hw1 : w15 τ (mm_w τ'.1 15 b (nI (T b ||| T k)), τ'.2) n (wX T k (b + 1)) := by
        refine ⟨fun c hc => ?_, fun i hi => ?_⟩
        · show mm_w τ'.1 15 b (nI (T b ||| T k)) c = τ.1 c
          rw [mm_w_ne hc]; exact hw.1 c hc
        · show mm_w τ'.1 15 b (nI (T b ||| T k)) 15 i = _
          rw [wX_s]
          by_cases e : i = b
          · subst e; rw [mm_w_at, if_pos rfl, wq, if_pos q]
          · rw [mm_w_at2 e, if_neg e]; exact hw.2 i hi
      obtain ⟨τ'', g, p1, p2, p3⟩ := ih (b + 1) (f - 29 + 0) _ (by omega) (by omega) hw1
      refine ⟨τ'', g, by omega, p2, fun res h => ?_⟩
      rw [hh, if_pos q]
      exact p3 res h
    · have hw1 : w15 τ τ' n (wX T k (b + 1)) := by
        refine ⟨hw.1, fun i hi => ?_⟩
        rw [wX_s]
        by_cases e : i = b
        · subst e; rw [if_pos rfl, wq, if_neg q]; exact e1
        · rw [if_neg e]; exact hw.2 i hi
      obtain ⟨τ'', g, p1, p2, p3⟩ := ih (b + 1) (f - 29 + 13) τ' (by omega) (by omega) hw1
      refine ⟨τ'', g, by omega, p2, fun res h => ?_⟩
      rw [hh, if_neg q]
      exact p3 res h
theorem r_rings_out {τ : mm_S} {n : Nat} {M : Nat → Nat} (hB : rB τ n) (hl : ∀ b, b < n → M b < 2 ^ n) (d : Nat) : ∀ (r k f : Nat) (τ' : mm_S), k + r = n → 600 * (r + 1) ≤ f → w15 τ τ' n (wW M k) → ∃ τ'' g, 600 ≤ g + 6 ∧ w15 τ τ'' n (wW M n) ∧ ∀ res, mm_ex sr (rG (d + 1)) 3 rp_29_l g rp_29_r6 [.ref 0, .int (nI 0), .null] [] τ'' = some res → mm_ex sr (rG (d + 1)) 3 rp_29_l f rp_29_r1 [.ref 0, .int (nI k), .null] [] τ' = some res := by
  have hn := hB.2
  intro r
  induction r with
  | zero =>
    intro k f τ' hk hf hw
    have e : k = n := by omega
    subst e
    refine ⟨τ', f - 6 + 0, by omega, hw, fun res h => ?_⟩
    rw [show f = (f - 6) + 6 by omega, rp_29_h1, hw.1 0 (by decide), hB.1]
    rw [if_pos (nI_le (Nat.le_refl _) (by omega))]
    exact h
  | succ r ih =>
    intro k f τ' hk hf hw
    have hw0 : w15 τ τ' n (wX (wW M k) k 0) := ⟨hw.1, fun i hi => by rw [wX, if_neg (by omega)]; exact hw.2 i hi⟩
    obtain ⟨τ1, g1, p1, p2, p3⟩ := r_rings_in hB (show k < n by omega) (wW_lt hl k (by omega)) d n 0 (f - 6 + 0) τ' (by omega) (by omega) hw0
    obtain ⟨τ'', g, q1, q2, q3⟩ := ih (k + 1) g1 τ1 (by omega) (by omega) p2
    refine ⟨τ'', g, q1, q2, fun res h => ?_⟩
    rw [show f = (f - 6) + 6 by omega, rp_29_h1, hw.1 0 (by decide), hB.1]
    rw [if_neg (nI_ge (show k < n by omega) (by omega))]
    exact p3 res (q3 res h)
theorem r_rings {τ : mm_S} {n : Nat} {M : Nat → Nat} (hB : rB τ n) (hl : ∀ b, b < n → M b < 2 ^ n) (h15 : ∀ i, i < n → τ.1 15 i = nI (M i)) (d : Nat) : ∃ τ', (∀ c, c ≠ 15 → τ'.1 c = τ.1 c) ∧ rG (d + 2) 29 [.ref 0] τ = some (pb (pRg (wW M n) n), 0, τ') := by
  have hn := hB.2
  have l16 : 2 ^ n ≤ 2 ^ 16 := Nat.pow_le_pow_right (by decide) hn
  obtain ⟨τ', g, q1, q2, q3⟩ := r_rings_out hB hl d n 0 (99999998 + 0) τ (by omega) (by omega) ⟨fun _ _ => rfl, h15⟩
  refine ⟨τ', q2.1, ?_⟩
  rw [show d + 2 = (d + 1) + 1 from rfl, rp_29_g]
  refine q3 _ ?_
  have key : ∀ (r b f : Nat), b + r = n → 16 * (r + 1) ≤ f → pRg (wW M n) b = false → mm_ex sr (rG (d + 1)) 3 rp_29_l f rp_29_r6 [.ref 0, .int (nI b), .null] [] τ' = some (pb (pRg (wW M n) n), 0, τ') := by
    intro r
    induction r with
    | zero =>
      intro b f hb hf hp
      have e : b = n := by omega
      subst e
      rw [show f = (f - 16) + 16 by omega, rp_29_h6, q2.1 0 (by decide), hB.1]
      rw [if_pos (nI_le (Nat.le_refl _) (by omega)), hp]
      rfl
    | succ r ih =>
      intro b f hb hf hp
      have hT := pu_T (show b < 16 by omega) (by decide)
      have hC := pu_cl (show b < 16 by omega) (by decide)
      have lb := wW_lt hl n (Nat.le_refl _) b (by omega)
      rw [show f = (f - 16) + 16 by omega, rp_29_h6, q2.1 0 (by decide), hB.1]
      rw [if_neg (nI_ge (show b < n by omega) (by omega))]
      simp only [hT, hC, if_true, q2.2 b (by omega), pu_bit (show wW M n b < 2 ^ 31 by omega) (show b < 16 by omega), nI_1]
      by_cases q : (wW M n b).testBit b = true
      · rw [if_pos q, pRg_y q n (by omega)]
        rfl
      · rw [if_neg q]
        exact ih (b + 1) _ (by omega) (by omega) (by rw [pRg, hp, Bool.false_or]; exact Bool.eq_false_iff.2 q)
  exact key n 0 g (by omega) (by omega) rfl
