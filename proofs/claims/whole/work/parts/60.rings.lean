/-! who needs itself: both programs close the needs in the same way; what follows if none does -/
theorem pu_bit {N i : Nat} (hN : N < 2 ^ 31) (hi : i < 16) : (((nI N >>> (nI i &&& 31)) &&& 1) = 1) ↔ N.testBit i = true := by
  have hs : ((nI i &&& 31).toBitVec.smod 32).toNat = i := by
    have : ∀ i, i < 16 → ((nI i &&& 31).toBitVec.smod 32).toNat = i := by decide +kernel
    exact this i (by omega)
  rw [pk_shrN (by omega) _ i hs, show (1 : Int32) = nI 1 by decide, show nI (N / 2 ^ i) &&& nI 1 = nI (N / 2 ^ i % 2) from pk_andN (by have : N / 2 ^ i ≤ N := Nat.div_le_self _ _; omega) 1 (by decide), nI_eq (by omega) (by decide), Nat.testBit_eq_decide_div_mod_eq]
  simp
def wq (T : Nat → Nat) (k b : Nat) : Nat := if (T b).testBit k = true then T b ||| T k else T b
def wW (M : Nat → Nat) : Nat → Nat → Nat
  | 0 => M
  | k + 1 => wq (wW M k) k
theorem wq_k {T : Nat → Nat} {k : Nat} : wq T k k = T k := by
  unfold wq
  split
  · exact Nat.or_self _
  · rfl
theorem wq_lt {T : Nat → Nat} {n k b : Nat} (h1 : T b < 2 ^ n) (h2 : T k < 2 ^ n) : wq T k b < 2 ^ n := by
  unfold wq
  split
  · exact Nat.or_lt_two_pow h1 h2
  · exact h1
theorem wW_lt {M : Nat → Nat} {n : Nat} (h : ∀ b, b < n → M b < 2 ^ n) : ∀ k, k ≤ n → ∀ b, b < n → wW M k b < 2 ^ n
  | 0, _, b, hb => h b hb
  | k + 1, hk, b, hb => wq_lt (wW_lt h k (by omega) b hb) (wW_lt h k (by omega) k (by omega))
def wX (T : Nat → Nat) (k b i : Nat) : Nat := if i < b then wq T k i else T i
theorem wX_s {T : Nat → Nat} {k b : Nat} : ∀ i, wX T k (b + 1) i = if i = b then wq T k b else wX T k b i := by
  intro i
  unfold wX
  by_cases e : i = b
  · subst e; rw [if_pos (by omega), if_pos rfl]
  · rw [if_neg e]
    by_cases h : i < b
    · rw [if_pos (by omega), if_pos h]
    · rw [if_neg (by omega), if_neg h]
theorem wX_k {T : Nat → Nat} {k b : Nat} : wX T k b k = T k := by
  unfold wX
  split
  · exact wq_k
  · rfl
def pRg (T : Nat → Nat) : Nat → Bool
  | 0 => false
  | n + 1 => pRg T n || (T n).testBit n
theorem pRg_y {T : Nat → Nat} {b : Nat} (h : (T b).testBit b = true) : ∀ n, b < n → pRg T n = true
  | 0, hn => by omega
  | n + 1, hn => by
    rw [pRg]
    by_cases e : b = n
    · subst e; rw [h, Bool.or_true]
    · rw [pRg_y h n (by omega), Bool.true_or]
theorem pRg_n {T : Nat → Nat} : ∀ {n : Nat}, pRg T n = false → ∀ b, b < n → (T b).testBit b = false
  | 0, _, b, hb => by omega
  | n + 1, h, b, hb => by
    rw [pRg, Bool.or_eq_false_iff] at h
    by_cases e : b = n
    · subst e; exact h.2
    · exact pRg_n h.1 b (by omega)
def w32 (σ σ' : mm_S) (n : Nat) (X : Nat → Nat) : Prop := (∀ c, c ≠ 32 → σ'.1 c = σ.1 c) ∧ ∀ i, i < n → σ'.1 32 i = nI (X i)
theorem c_rings_in {σ : mm_S} {n k : Nat} {T : Nat → Nat} (hB : cB σ n) (hk : k < n) (hl : ∀ b, b < n → T b < 2 ^ n) (d : Nat) : ∀ (r b f : Nat) (σ' : mm_S), b + r = n → 28 * (r + 1) ≤ f → w32 σ σ' n (wX T k b) → ∃ σ'' g, f ≤ g + 28 * (r + 1) ∧ w32 σ σ'' n (wq T k) ∧ ∀ res, mm_ex sc (cG (d + 1)) 3 cp_67_l g cp_67_r1 [.ref 3, .int (nI (k + 1)), .null] [] σ'' = some res → mm_ex sc (cG (d + 1)) 3 cp_67_l f cp_67_r2 [.ref 3, .int (nI k), .int (nI b)] [] σ' = some res := by
  have hn := hB.2
  have l16 : 2 ^ n ≤ 2 ^ 16 := Nat.pow_le_pow_right (by decide) hn
  intro r
  induction r with
  | zero =>
    intro b f σ' hb hf hw
    have e : b = n := by omega
    subst e
    refine ⟨σ', f - 28 + 21, by omega, ⟨hw.1, fun i hi => by rw [hw.2 i hi, wX, if_pos hi]⟩, fun res h => ?_⟩
    rw [show f = (f - 28) + 28 by omega, cp_67_h2, c_size, hw.1 2 (by decide), hB.1]
    simp only [pu_bind]
    rw [if_pos (nI_le (Nat.le_refl _) (by omega)), nI_1]
    exact mm_ref _ _ [.ref 3, .int (nI (k + 1)), .null] _ _ _ (by simp [mm_rf]) h
  | succ r ih =>
    intro b f σ' hb hf hw
    have hb' : b < n := by omega
    have hT := pu_T (show b < 16 by omega) (by decide)
    have hC := pu_cl (show b < 16 by omega) (by decide)
    have hTk := pu_T (show k < 16 by omega) (by decide)
    have hCk := pu_cl (show k < 16 by omega) (by decide)
    have e1 : σ'.1 32 b = nI (T b) := by rw [hw.2 b hb', wX, if_neg (by omega)]
    have e2 : σ'.1 32 k = nI (T k) := by rw [hw.2 k hk, wX_k]
    have lb := hl b hb'
    have lk := hl k hk
    have hh : mm_ex sc (cG (d + 1)) 3 cp_67_l f cp_67_r2 [.ref 3, .int (nI k), .int (nI b)] [] σ' = (if (T b).testBit k = true then (mm_ex sc (cG (d + 1)) 3 cp_67_l (f - 28 + 0) cp_67_r2 [.ref 3, .int (nI k), .int (nI (b + 1))] [] (mm_w σ'.1 32 b (nI (T b ||| T k)), σ'.2)) else (mm_ex sc (cG (d + 1)) 3 cp_67_l (f - 28 + 11) cp_67_r2 [.ref 3, .int (nI k), .int (nI (b + 1))] [] σ')) := by
      conv => lhs; rw [show f = (f - 28) + 28 by omega, cp_67_h2, c_size, hw.1 2 (by decide), hB.1]
      simp only [pu_bind]
      rw [if_neg (nI_ge hb' (by omega))]
      simp only [hT, hC, hTk, hCk, if_true, e1, e2, pu_bit (show T b < 2 ^ 31 by omega) (show k < 16 by omega), nI_1]
      rw [nI_or (by omega) (by omega)]
    by_cases q : (T b).testBit k = true
    · have hw1 : w32 σ (mm_w σ'.1 32 b (nI (T b ||| T k)), σ'.2) n (wX T k (b + 1)) := by
        refine ⟨fun c hc => ?_, fun i hi => ?_⟩
        · show mm_w σ'.1 32 b (nI (T b ||| T k)) c = σ.1 c
          rw [mm_w_ne hc]; exact hw.1 c hc
        · show mm_w σ'.1 32 b (nI (T b ||| T k)) 32 i = _
          rw [wX_s]
          by_cases e : i = b
          · subst e; rw [mm_w_at, if_pos rfl, wq, if_pos q]
          · rw [mm_w_at2 e, if_neg e]; exact hw.2 i hi
      obtain ⟨σ'', g, p1, p2, p3⟩ := ih (b + 1) (f - 28 + 0) _ (by omega) (by omega) hw1
      refine ⟨σ'', g, by omega, p2, fun res h => ?_⟩
      rw [hh, if_pos q]
      exact p3 res h
    · have hw1 : w32 σ σ' n (wX T k (b + 1)) := by
        refine ⟨hw.1, fun i hi => ?_⟩
        rw [wX_s]
        by_cases e : i = b
        · subst e; rw [if_pos rfl, wq, if_neg q]; exact e1
        · rw [if_neg e]; exact hw.2 i hi
      obtain ⟨σ'', g, p1, p2, p3⟩ := ih (b + 1) (f - 28 + 11) σ' (by omega) (by omega) hw1
      refine ⟨σ'', g, by omega, p2, fun res h => ?_⟩
      rw [hh, if_neg q]
      exact p3 res h
theorem c_rings_out {σ : mm_S} {n : Nat} {M : Nat → Nat} (hB : cB σ n) (hl : ∀ b, b < n → M b < 2 ^ n) (d : Nat) : ∀ (r k f : Nat) (σ' : mm_S), k + r = n → 600 * (r + 1) ≤ f → w32 σ σ' n (wW M k) → ∃ σ'' g, 600 ≤ g + 7 ∧ w32 σ σ'' n (wW M n) ∧ ∀ res, mm_ex sc (cG (d + 1)) 3 cp_67_l g cp_67_r6 [.ref 3, .int (nI 0), .null] [] σ'' = some res → mm_ex sc (cG (d + 1)) 3 cp_67_l f cp_67_r1 [.ref 3, .int (nI k), .null] [] σ' = some res := by
  have hn := hB.2
  intro r
  induction r with
  | zero =>
    intro k f σ' hk hf hw
    have e : k = n := by omega
    subst e
    refine ⟨σ', f - 7 + 0, by omega, hw, fun res h => ?_⟩
    rw [show f = (f - 7) + 7 by omega, cp_67_h1, c_size, hw.1 2 (by decide), hB.1]
    simp only [pu_bind]
    rw [if_pos (nI_le (Nat.le_refl _) (by omega))]
    exact h
  | succ r ih =>
    intro k f σ' hk hf hw
    have hw0 : w32 σ σ' n (wX (wW M k) k 0) := ⟨hw.1, fun i hi => by rw [wX, if_neg (by omega)]; exact hw.2 i hi⟩
    obtain ⟨σ1, g1, p1, p2, p3⟩ := c_rings_in hB (show k < n by omega) (wW_lt hl k (by omega)) d n 0 (f - 7 + 0) σ' (by omega) (by omega) hw0
    obtain ⟨σ'', g, q1, q2, q3⟩ := ih (k + 1) g1 σ1 (by omega) (by omega) p2
    refine ⟨σ'', g, q1, q2, fun res h => ?_⟩
    rw [show f = (f - 7) + 7 by omega, cp_67_h1, c_size, hw.1 2 (by decide), hB.1]
    simp only [pu_bind]
    rw [if_neg (nI_ge (show k < n by omega) (by omega))]
    exact p3 res (q3 res h)
theorem c_rings {σ : mm_S} {n : Nat} {M : Nat → Nat} (hB : cB σ n) (hl : ∀ b, b < n → M b < 2 ^ n) (h32 : ∀ i, i < n → σ.1 32 i = nI (M i)) (d : Nat) : ∃ σ', (∀ c, c ≠ 32 → σ'.1 c = σ.1 c) ∧ cG (d + 2) 67 [.ref 3] σ = some (pb (pRg (wW M n) n), 0, σ') := by
  have hn := hB.2
  have l16 : 2 ^ n ≤ 2 ^ 16 := Nat.pow_le_pow_right (by decide) hn
  obtain ⟨σ', g, q1, q2, q3⟩ := c_rings_out hB hl d n 0 (99999998 + 0) σ (by omega) (by omega) ⟨fun _ _ => rfl, h32⟩
  refine ⟨σ', q2.1, ?_⟩
  rw [show d + 2 = (d + 1) + 1 from rfl, cp_67_g]
  refine q3 _ ?_
  have key : ∀ (r b f : Nat), b + r = n → 17 * (r + 1) ≤ f → pRg (wW M n) b = false → mm_ex sc (cG (d + 1)) 3 cp_67_l f cp_67_r6 [.ref 3, .int (nI b), .null] [] σ' = some (pb (pRg (wW M n) n), 0, σ') := by
    intro r
    induction r with
    | zero =>
      intro b f hb hf hp
      have e : b = n := by omega
      subst e
      rw [show f = (f - 17) + 17 by omega, cp_67_h6, c_size, q2.1 2 (by decide), hB.1]
      simp only [pu_bind]
      rw [if_pos (nI_le (Nat.le_refl _) (by omega)), hp]
      rfl
    | succ r ih =>
      intro b f hb hf hp
      have hT := pu_T (show b < 16 by omega) (by decide)
      have hC := pu_cl (show b < 16 by omega) (by decide)
      have lb := wW_lt hl n (Nat.le_refl _) b (by omega)
      rw [show f = (f - 17) + 17 by omega, cp_67_h6, c_size, q2.1 2 (by decide), hB.1]
      simp only [pu_bind]
      rw [if_neg (nI_ge (show b < n by omega) (by omega))]
      simp only [hT, hC, if_true, q2.2 b (by omega), pu_bit (show wW M n b < 2 ^ 31 by omega) (show b < 16 by omega), nI_1]
      by_cases q : (wW M n b).testBit b = true
      · rw [if_pos q, pRg_y q n (by omega)]
        rfl
      · rw [if_neg q]
        exact ih (b + 1) _ (by omega) (by omega) (by rw [pRg, hp, Bool.false_or]; exact Bool.eq_false_iff.2 q)
  exact key n 0 g (by omega) (by omega) rfl
