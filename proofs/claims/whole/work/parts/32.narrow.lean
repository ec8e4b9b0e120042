/-! PURE: narrowing a set to those of the highest rank; the one that is left -/
def pMx (p : Nat → Bool) (rk : Nat → Int32) : Nat → Int32
  | 0 => 0
  | n + 1 => if p n = true ∧ pMx p rk n < rk n then rk n else pMx p rk n
theorem pMx_ge {p : Nat → Bool} {rk : Nat → Int32} : ∀ {n i : Nat}, i < n → p i = true → rk i ≤ pMx p rk n
  | 0, i, h, _ => by omega
  | n + 1, i, h, hp => by
    unfold pMx
    by_cases e : i = n
    · subst e
      by_cases h2 : pMx p rk i < rk i
      · rw [if_pos ⟨hp, h2⟩]; exact Int32.le_refl _
      · rw [if_neg (fun z => h2 z.2)]; exact Int32.not_lt.mp h2
    · have ih := pMx_ge (p := p) (rk := rk) (show i < n by omega) hp
      split
      · rename_i z
        exact Int32.le_of_lt (Int32.lt_of_le_of_lt ih z.2)
      · exact ih
def pNa (p : Nat → Bool) (rk : Nat → Int32) (n : Nat) : Nat → Bool := fun i => p i && decide (pMx p rk n ≤ rk i)
theorem pNa_eq {p : Nat → Bool} {rk : Nat → Int32} {n i : Nat} (hi : i < n) : pNa p rk n i = (p i && decide (rk i = pMx p rk n)) := by
  unfold pNa
  cases hp : p i with
  | false => rfl
  | true =>
    have h := pMx_ge (rk := rk) hi hp
    congr 1
    rw [decide_eq_decide]
    exact ⟨fun z => Int32.le_antisymm h z, fun z => by rw [z]; exact Int32.le_refl _⟩
theorem pRk_nn (ch ho : Nat → Int32) (j : Nat) : ¬ pRk ch ho j < 0 := by
  unfold pRk
  split
  · rename_i h
    exact fun q => Int32.lt_irrefl (Int32.lt_trans h q)
  · split
    · decide
    · split
      · rename_i h
        exact fun q => Int32.lt_irrefl (Int32.lt_trans h q)
      · decide
theorem pBits_one {i : Nat} : pBits (fun j => decide (j = i)) (i + 1) = 2 ^ i := by
  unfold pBits
  have : pBits (fun j => decide (j = i)) i = pBits (fun _ => false) i := pBits_ext (fun j hj => by simp; omega)
  rw [this]
  have z : ∀ n, pBits (fun _ => false) n = 0 := by
    intro n
    induction n with
    | zero => rfl
    | succ n ih => rw [pBits, ih]; rfl
  rw [z]
  simp
theorem pu_1shl {i : Nat} (hi : i < 16) : (1 : Int32) <<< (nI i &&& 31) = nI (2 ^ i) := by
  have h1 : ∀ i, i < 16 → (1 : Int32) <<< (nI i &&& 31) = nI (2 ^ i) := by decide +kernel
  exact h1 i hi
theorem pBits_no {p : Nat → Bool} {i : Nat} (h : ¬ p i = true) : pBits p (i + 1) = pBits p i := by rw [pBits, if_neg h, Nat.add_zero]
set_option maxHeartbeats 1000000 in
theorem c_narrow_loop {σ : mm_S} {n : Nat} (hB : cB σ n) (hH : cHo σ n) (p : Nat → Bool) (d : Nat) : ∀ (r k f : Nat), k + r = n → 33 * (r + 1) ≤ f → mm_ex sc (cG (d + 2)) 1 cp_21_l f cp_21_r1 [.ref 2, .int (nI (pBits p n)), .int (pMx p (pRk (σ.1 16) (σ.1 17)) k), .int (nI (pBits (pNa p (pRk (σ.1 16) (σ.1 17)) k) k)), .int (nI k), .null] [] σ = some (nI (pBits (pNa p (pRk (σ.1 16) (σ.1 17)) n) n), 0, σ) := by
  have hn := hB.2
  intro r
  induction r with
  | zero =>
    intro k f hk hf
    have e : k = n := by omega
    subst e
    rw [show f = (f - 33) + 33 by omega, cp_21_h1, hB.1, if_pos (nI_le (Nat.le_refl _) (by omega))]
  | succ r ih =>
    intro k f hk hf
    rw [show f = (f - 33) + 33 by omega, cp_21_h1, hB.1, if_neg (nI_ge (show k < n by omega) (by omega))]
    simp only [pu_get hn (show k < n by omega), pu_1shl (show k < 16 by omega)]
    by_cases hp : p k = true
    · rw [if_pos hp, c_rankOf hB hH (by omega)]
      simp only [Option.bind_some]
      by_cases h1 : pRk (σ.1 16) (σ.1 17) k ≤ pMx p (pRk (σ.1 16) (σ.1 17)) k
      · rw [if_pos h1]
        have em : pMx p (pRk (σ.1 16) (σ.1 17)) (k + 1) = pMx p (pRk (σ.1 16) (σ.1 17)) k := by
          rw [pMx, if_neg (fun z => Int32.not_lt.mpr h1 z.2)]
        by_cases h2 : pRk (σ.1 16) (σ.1 17) k = pMx p (pRk (σ.1 16) (σ.1 17)) k
        · rw [if_pos h2]
          refine mm_ref _ _ [.ref 2, .int (nI (pBits p n)), .int (pMx p (pRk (σ.1 16) (σ.1 17)) (k + 1)), .int (nI (pBits (pNa p (pRk (σ.1 16) (σ.1 17)) (k + 1)) (k + 1))), .int (nI (k + 1)), .null] _ _ _ ?_ (ih (k + 1) _ (by omega) (by omega))
          have : nI (pBits (pNa p (pRk (σ.1 16) (σ.1 17)) k) k) ||| nI (2 ^ k) = nI (pBits (pNa p (pRk (σ.1 16) (σ.1 17)) (k + 1)) (k + 1)) := by
            have e : pNa p (pRk (σ.1 16) (σ.1 17)) (k + 1) = pNa p (pRk (σ.1 16) (σ.1 17)) k := by
              unfold pNa; rw [em]
            rw [e, ← pu_set (show k < 16 by omega) (show pNa p (pRk (σ.1 16) (σ.1 17)) k k = true by unfold pNa; rw [hp, h2]; simp), pu_1shl (by omega)]
          simp [mm_rf, nI_1, em, this]
        · rw [if_neg h2]
          refine mm_ref _ _ [.ref 2, .int (nI (pBits p n)), .int (pMx p (pRk (σ.1 16) (σ.1 17)) (k + 1)), .int (nI (pBits (pNa p (pRk (σ.1 16) (σ.1 17)) (k + 1)) (k + 1))), .int (nI (k + 1)), .null] _ _ _ ?_ (ih (k + 1) _ (by omega) (by omega))
          have : pBits (pNa p (pRk (σ.1 16) (σ.1 17)) (k + 1)) (k + 1) = pBits (pNa p (pRk (σ.1 16) (σ.1 17)) k) k := by
            have e : pNa p (pRk (σ.1 16) (σ.1 17)) (k + 1) = pNa p (pRk (σ.1 16) (σ.1 17)) k := by
              unfold pNa; rw [em]
            rw [e, pBits_no]
            unfold pNa
            rw [hp]
            simp only [Bool.true_and, decide_eq_true_eq]
            intro z
            exact h2 (Int32.le_antisymm h1 z)
          simp [mm_rf, nI_1, em, this]
      · have h3 : pMx p (pRk (σ.1 16) (σ.1 17)) k < pRk (σ.1 16) (σ.1 17) k := Int32.not_le.mp h1
        rw [if_neg h1, if_pos trivial]
        have em : pMx p (pRk (σ.1 16) (σ.1 17)) (k + 1) = pRk (σ.1 16) (σ.1 17) k := by
          rw [pMx, if_pos ⟨hp, h3⟩]
        refine mm_ref _ _ [.ref 2, .int (nI (pBits p n)), .int (pMx p (pRk (σ.1 16) (σ.1 17)) (k + 1)), .int (nI (pBits (pNa p (pRk (σ.1 16) (σ.1 17)) (k + 1)) (k + 1))), .int (nI (k + 1)), .null] _ _ _ ?_ (ih (k + 1) _ (by omega) (by omega))
        have : pBits (pNa p (pRk (σ.1 16) (σ.1 17)) (k + 1)) (k + 1) = 2 ^ k := by
          rw [← pBits_one]
          refine pBits_ext (fun j hj => ?_)
          by_cases e : j = k
          · subst e
            unfold pNa
            rw [em, hp]
            simp
          · unfold pNa
            rw [em]
            cases hpj : p j with
            | false => simp [e]
            | true =>
              have := pMx_ge (rk := pRk (σ.1 16) (σ.1 17)) (show j < k by omega) hpj
              simp only [Bool.true_and, e, decide_false, decide_eq_false_iff_not]
              intro z
              exact Int32.lt_irrefl (Int32.lt_of_lt_of_le h3 (Int32.le_trans z this))
        simp [mm_rf, nI_1, em, this]
    · rw [if_neg hp]
      have em : pMx p (pRk (σ.1 16) (σ.1 17)) (k + 1) = pMx p (pRk (σ.1 16) (σ.1 17)) k := by
        rw [pMx, if_neg (fun z => hp z.1)]
      refine mm_ref _ _ [.ref 2, .int (nI (pBits p n)), .int (pMx p (pRk (σ.1 16) (σ.1 17)) (k + 1)), .int (nI (pBits (pNa p (pRk (σ.1 16) (σ.1 17)) (k + 1)) (k + 1))), .int (nI (k + 1)), .null] _ _ _ ?_ (ih (k + 1) _ (by omega) (by omega))
      have : pBits (pNa p (pRk (σ.1 16) (σ.1 17)) (k + 1)) (k + 1) = pBits (pNa p (pRk (σ.1 16) (σ.1 17)) k) k := by
        have e : pNa p (pRk (σ.1 16) (σ.1 17)) (k + 1) = pNa p (pRk (σ.1 16) (σ.1 17)) k := by
          unfold pNa; rw [em]
        rw [e, pBits_no]
        unfold pNa
        simp [hp]
      simp [mm_rf, nI_1, em, this]
theorem c_narrow {σ : mm_S} {n : Nat} (hB : cB σ n) (hH : cHo σ n) (p : Nat → Bool) (d : Nat) : cG (d + 3) 21 [.ref 2, .int (nI (pBits p n))] σ = some (nI (pBits (pNa p (pRk (σ.1 16) (σ.1 17)) n) n), 0, σ) := by
  have := c_narrow_loop hB hH p d n 0 (99999994 + 0) (by omega) (by have := hB.2; omega)
  rw [nI_0] at this
  rw [cp_21_g]
  exact this
/-! the reference -/
theorem pu_clr {p : Nat → Bool} {n k : Nat} (hn : n ≤ 16) (hk : k < n) : nI (pBits p n) &&& (((1 : Int32) <<< (nI k &&& 31)) ^^^ (-1 : Int32)) = nI (pBits (fun i => p i && !decide (i = k)) n) := by
  have hl := pBits_lt p n
  have hl2 := pBits_lt (fun i => p i && !decide (i = k)) n
  have h16 : 2 ^ n ≤ 2 ^ 16 := Nat.pow_le_pow_right (by decide) hn
  apply Int32.toBitVec_inj.mp
  apply BitVec.eq_of_getElem_eq
  intro i hi
  rw [Int32.toBitVec_and, BitVec.getElem_and]
  have g : ∀ N, N < 2 ^ 32 → (nI N).toBitVec[i] = N.testBit i := by
    intro N hN
    rw [← BitVec.getLsbD_eq_getElem, BitVec.getLsbD, pk_tn hN]
  rw [g _ (by omega), g _ (by omega), pBits_bit, pBits_bit]
  have m : ∀ k, k < 16 → ∀ i (h : i < 32), (((1 : Int32) <<< (nI k &&& 31)) ^^^ (-1 : Int32)).toBitVec[i] = !decide (i = k) := by decide +kernel
  rw [m k (by omega) i hi]
  simp [Bool.and_assoc]
theorem r_narrow2 {τ : mm_S} {n : Nat} (hB : rB τ n) (hH : rHo τ n) (p : Nat → Bool) (x1 : Int32) (m : Int32) (d : Nat) : ∀ (r k f : Nat), k + r = n → 19 * (r + 1) ≤ f → mm_ex sr (rG (d + 1)) 1 rp_21_l f rp_21_r4 [.ref 0, .int x1, .int m, .int (nI (pBits (fun i => p i && (decide (k ≤ i) || decide (m ≤ pRk (τ.1 8) (τ.1 9) i))) n)), .int (nI k)] [] τ = some (nI (pBits (fun i => p i && decide (m ≤ pRk (τ.1 8) (τ.1 9) i)) n), 0, τ) := by
  have hn := hB.2
  intro r
  induction r with
  | zero =>
    intro k f hk hf
    have e : k = n := by omega
    subst e
    rw [show f = (f - 19) + 19 by omega, rp_21_h4, hB.1, if_pos (nI_le (Nat.le_refl _) (by omega)), pBits_ext (q := fun i => p i && decide (m ≤ pRk (τ.1 8) (τ.1 9) i)) (fun i hi => by simp [show ¬ k ≤ i by omega])]
  | succ r ih =>
    intro k f hk hf
    rw [show f = (f - 19) + 19 by omega, rp_21_h4, hB.1, if_neg (nI_ge (show k < n by omega) (by omega)), r_rank hB hH (by omega)]
    simp only [Option.bind_some, nI_1]
    by_cases h : m ≤ pRk (τ.1 8) (τ.1 9) k
    · rw [if_pos h, ← ih (k + 1) (f - 19 + 8) (by omega) (by omega)]
      rw [pBits_ext (q := fun i => p i && (decide (k + 1 ≤ i) || decide (m ≤ pRk (τ.1 8) (τ.1 9) i)))]
      intro i hi
      by_cases e : i = k
      · subst e; simp [h]
      · simp [show (k ≤ i) ↔ (k + 1 ≤ i) by omega]
    · rw [if_neg h, pu_clr hn (by omega), ← ih (k + 1) (f - 19 + 0) (by omega) (by omega)]
      rw [pBits_ext (q := fun i => p i && (decide (k + 1 ≤ i) || decide (m ≤ pRk (τ.1 8) (τ.1 9) i)))]
      intro i hi
      by_cases e : i = k
      · subst e; simp [h]
      · simp [e, show (k ≤ i) ↔ (k + 1 ≤ i) by omega]
theorem r_narrow1 {τ : mm_S} {n : Nat} (hB : rB τ n) (hH : rHo τ n) (p : Nat → Bool) (d : Nat) : ∀ (r k f : Nat), k + r = n → 22 * (r + 1) + 1000 ≤ f → mm_ex sr (rG (d + 1)) 1 rp_21_l f rp_21_r1 [.ref 0, .int (nI (pBits p n)), .int (pMx p (pRk (τ.1 8) (τ.1 9)) k), .int (nI k), .null] [] τ = some (nI (pBits (pNa p (pRk (τ.1 8) (τ.1 9)) n) n), 0, τ) := by
  have hn := hB.2
  intro r
  induction r with
  | zero =>
    intro k f hk hf
    have e : k = n := by omega
    subst e
    rw [show f = (f - 22) + 22 by omega, rp_21_h1, hB.1, if_pos (nI_le (Nat.le_refl _) (by omega))]
    have := r_narrow2 hB hH p (nI (pBits p k)) (pMx p (pRk (τ.1 8) (τ.1 9)) k) d k 0 (f - 22 + 14) (by omega) (by omega)
    rw [nI_0] at this
    rw [pBits_ext (q := fun i => p i && (decide (0 ≤ i) || decide (pMx p (pRk (τ.1 8) (τ.1 9)) k ≤ pRk (τ.1 8) (τ.1 9) i))) (p := p) (fun i hi => by simp)] at this ⊢
    rw [this]
    rfl
  | succ r ih =>
    intro k f hk hf
    rw [show f = (f - 22) + 22 by omega, rp_21_h1, hB.1, if_neg (nI_ge (show k < n by omega) (by omega)), r_rank hB hH (by omega)]
    simp only [pu_get hn (show k < n by omega), Option.bind_some, nI_1]
    by_cases hp : p k = true
    · rw [if_pos hp]
      by_cases h1 : pRk (τ.1 8) (τ.1 9) k ≤ pMx p (pRk (τ.1 8) (τ.1 9)) k
      · rw [if_pos h1, ← ih (k + 1) (f - 22 + 4) (by omega) (by omega), pMx, if_neg (fun z => Int32.not_lt.mpr h1 z.2)]
      · rw [if_neg h1, r_rank hB hH (by omega)]
        simp only [Option.bind_some]
        rw [← ih (k + 1) (f - 22 + 0) (by omega) (by omega), pMx, if_pos ⟨hp, Int32.not_le.mp h1⟩]
    · rw [if_neg hp, ← ih (k + 1) (f - 22 + 9) (by omega) (by omega), pMx, if_neg (fun z => hp z.1)]
theorem r_narrow {τ : mm_S} {n : Nat} (hB : rB τ n) (hH : rHo τ n) (p : Nat → Bool) (d : Nat) : rG (d + 2) 21 [.ref 0, .int (nI (pBits p n))] τ = some (nI (pBits (pNa p (pRk (τ.1 8) (τ.1 9)) n) n), 0, τ) := by
  have := r_narrow1 hB hH p d n 0 (99999996 + 0) (by omega) (by have := hB.2; omega)
  rw [nI_0] at this
  rw [rp_21_g]
  exact this
