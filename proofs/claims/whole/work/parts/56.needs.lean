def nMf (v : Nat → Int32) (s : Nat → Int32) (ho : Int32) : Nat → Nat
  | 0 => if ho = -1 then 0 else 2 ^ ho.toNatClampNeg
  | p + 1 => if v p < 0 ∨ ¬ s (v p).toNatClampNeg = 0 then nMf v s ho p else nMf v s ho p ||| 2 ^ (v p).toNatClampNeg
theorem nMf_lt {v : Nat → Int32} {s : Nat → Int32} {ho : Int32} {n : Nat} (hn : n ≤ 16) (hh : ho = -1 ∨ ∃ k, k < n ∧ ho = nI k) : ∀ {p : Nat}, (∀ q, q < p → v q < 0 ∨ ∃ y, y < n ∧ v q = nI y) → nMf v s ho p < 2 ^ n
  | 0, _ => by
    rw [nMf]
    rcases hh with h | ⟨k, hk, h⟩
    · rw [if_pos h]; exact Nat.two_pow_pos n
    · rw [if_neg (by rw [h]; exact nI_m1 (by omega)), h, nI_clamp (by omega)]
      exact Nat.pow_lt_pow_right (by decide) hk
  | p + 1, hv => by
    have ih := nMf_lt (v := v) (s := s) hn hh (p := p) (fun q hq => hv q (by omega))
    rw [nMf]
    split
    · exact ih
    · next h =>
      rcases hv p (by omega) with q | ⟨y, hy, q⟩
      · exact absurd (Or.inl q) h
      · refine Nat.or_lt_two_pow ih ?_
        rw [q, nI_clamp (by omega)]
        exact Nat.pow_lt_pow_right (by decide) hy
theorem c_needs_loop {σ : mm_S} {nb b m : Nat} {v : Nat → Int32} (hB : cB σ nb) (hH : cHo σ nb) (hb : b < nb) (em : σ.1 19 b = nI m) (hm : m ≤ 3) (hv : ∀ p, p < m → σ.1 (29 + p) b = v p ∧ (v p < 0 ∨ ∃ y, y < nb ∧ v p = nI y)) (x2 : Int32) (d : Nat) : ∀ (r p f : Nat), p + r = m → 30 * (r + 1) ≤ f → mm_ex sc (cG (d + 2)) 0 cp_66_l f cp_66_r2 [.ref 3, .int (nI b), .int x2, .int (nI p), .null] [] (mm_w σ.1 32 b (nI (nMf v (σ.1 15) (σ.1 17 b) p)), σ.2) = some (0, 0, (mm_w σ.1 32 b (nI (nMf v (σ.1 15) (σ.1 17 b) m)), σ.2)) := by
  have hn := hB.2
  have hB' : ∀ x : Int32, cB ((mm_w σ.1 32 b x, σ.2) : mm_S) nb := fun x => hB
  have em' : ∀ x : Int32, mm_w σ.1 32 b x 19 b = nI m := fun x => by rw [mm_w_off (by decide)]; exact em
  intro r
  induction r with
  | zero =>
    intro p f hp hf
    have e : p = m := by omega
    subst e
    rw [show f = (f - 30) + 30 by omega, cp_66_h2, c_pointCount (hB' _) hb]
    simp only [pu_bind, em']
    rw [if_pos (nI_le (Nat.le_refl _) (by omega))]
  | succ r ih =>
    intro p f hp hf
    have hp3 : p < 3 := by omega
    have hT := pu_T (show b < 16 by omega) (by decide)
    have hC := pu_cl (show b < 16 by omega) (by decide)
    obtain ⟨e1, e2⟩ := hv p (by omega)
    have e1' : ∀ x : Int32, mm_w σ.1 32 b x (29 + p) b = v p := fun x => by rw [mm_w_off (by omega)]; exact e1
    have lt : nMf v (σ.1 15) (σ.1 17 b) p < 2 ^ nb := nMf_lt hn (hH b hb) (fun q hq => (hv q (by omega)).2)
    have l16 : 2 ^ nb ≤ 2 ^ 16 := Nat.pow_le_pow_right (by decide) hn
    rw [show f = (f - 30) + 30 by omega, cp_66_h2, c_pointCount (hB' _) hb]
    simp only [pu_bind, em', (c_grid28 hp3).1, (c_grid28 hp3).2, hT, hC, if_true, e1', nI_1]
    rw [if_neg (nI_ge (show p < m by omega) (by omega))]
    rcases e2 with e2 | ⟨y, hy, e2⟩
    · rw [c_isDependent_n (Or.inl e2)]
      simp only [pu_bind, if_true]
      have := ih (p + 1) (f - 30 + 10) (by omega) (by omega)
      rw [nMf, if_pos (Or.inl e2)] at this
      exact mm_ref _ _ [.ref 3, .int (nI b), .int x2, .int (nI (p + 1)), .null] _ _ _ (by simp [mm_rf]) this
    · rw [e2, c_isDependent (hB' _) hy]
      simp only [pu_bind]
      have e15 : ∀ x : Int32, mm_w σ.1 32 b x 15 = σ.1 15 := fun x => mm_w_ne (by decide)
      simp only [e15]
      by_cases hs : σ.1 15 y = 0
      · rw [if_pos hs, if_neg (by decide)]
        simp only [mm_w_at, mm_ww]
        have := ih (p + 1) (f - 30 + 0) (by omega) (by omega)
        rw [nMf, if_neg (by rw [e2, nI_clamp (by omega)]; exact fun q => q.elim (nI_pos (by omega)) (fun z => z hs))] at this
        rw [e2, nI_clamp (show y < 2 ^ 31 by omega)] at this
        rw [pu_1shl (show y < 16 by omega), nI_or (by omega) (by have : 2 ^ y ≤ 2 ^ 16 := Nat.pow_le_pow_right (by decide) (by omega); omega)]
        exact mm_ref _ _ [.ref 3, .int (nI b), .int x2, .int (nI (p + 1)), .null] _ _ _ (by simp [mm_rf]) this
      · rw [if_neg hs, if_pos rfl]
        have := ih (p + 1) (f - 30 + 10) (by omega) (by omega)
        rw [nMf, if_pos (by rw [e2, nI_clamp (by omega)]; exact Or.inr hs)] at this
        exact mm_ref _ _ [.ref 3, .int (nI b), .int x2, .int (nI (p + 1)), .null] _ _ _ (by simp [mm_rf]) this
theorem c_noteNeeds {σ : mm_S} {nb b m : Nat} {v : Nat → Int32} (hB : cB σ nb) (hH : cHo σ nb) (hb : b < nb) (em : σ.1 19 b = nI m) (hm : m ≤ 3) (hv : ∀ p, p < m → σ.1 (29 + p) b = v p ∧ (v p < 0 ∨ ∃ y, y < nb ∧ v p = nI y)) (h0 : σ.1 32 b = 0) (d : Nat) : cG (d + 3) 66 [.ref 3, .int (nI b)] σ = some (0, 0, (mm_w σ.1 32 b (nI (nMf v (σ.1 15) (σ.1 17 b) m)), σ.2)) := by
  have hn := hB.2
  have hT := pu_T (show b < 16 by omega) (by decide)
  have hC := pu_cl (show b < 16 by omega) (by decide)
  rw [show d + 3 = (d + 2) + 1 from rfl, cp_66_g, c_homeOf hB hb]
  simp only [pu_bind]
  rcases hH b hb with h | ⟨k, hk, h⟩
  · rw [h, show d + 2 = (d + 1) + 1 from rfl, c_exists_n (Or.inl (by decide))]
    simp only [pu_bind, if_true]
    rw [show 99999980 + 10 = 99999988 + 2 from rfl, cp_66_h1]
    have := c_needs_loop hB hH hb em hm hv (-1) d m 0 (99999988 + 0) (by omega) (by omega)
    rw [nMf, if_pos h, nI_0, mm_w_id h0] at this
    rw [h] at this
    exact this
  · have hp : 2 ^ k ≤ 2 ^ 16 := Nat.pow_le_pow_right (by decide) (by omega)
    rw [h, show d + 2 = (d + 1) + 1 from rfl, c_exists_y hB hk]
    simp only [pu_bind, pu_10, if_false, hT, hC, if_true, h0]
    rw [i_0or, pu_1shl (by omega), show 99999980 + 0 = 99999978 + 2 from rfl, cp_66_h1]
    have := c_needs_loop hB hH hb em hm hv (nI k) d m 0 (99999978 + 0) (by omega) (by omega)
    rw [nMf, h, if_neg (nI_m1 (by omega)), nI_clamp (show k < 2 ^ 31 by omega)] at this
    exact this
def pVr (x : Int32) : Bool := decide ((x >>> (5 : Int32)) &&& 31 = 31) || (decide ((x >>> (10 : Int32)) &&& 31 = 31) || decide ((x >>> (15 : Int32)) &&& 31 = 31))
theorem c_containsVar (σ : mm_S) (x : Int32) (d : Nat) : cG (d + 1) 65 [.int x] σ = some (pb (pVr x), 0, σ) := by
  rw [cp_65_g, show 99999998 + 0 = 99999984 + 14 from rfl, cp_65_h1, if_neg (by decide), show (1 : Int32) * 5 &&& 31 = 5 by decide]
  unfold pVr
  by_cases h1 : (x >>> (5 : Int32)) &&& 31 = 31
  · rw [if_pos h1]; simp [h1, pb]
  · rw [if_neg h1, show 99999984 + 0 = 99999970 + 14 from rfl, cp_65_h1, if_neg (by decide), show (1 + 1 : Int32) * 5 &&& 31 = 10 by decide]
    by_cases h2 : (x >>> (10 : Int32)) &&& 31 = 31
    · rw [if_pos h2]; simp [h2, pb]
    · rw [if_neg h2, show 99999970 + 0 = 99999956 + 14 from rfl, cp_65_h1, if_neg (by decide), show (1 + 1 + 1 : Int32) * 5 &&& 31 = 15 by decide]
      by_cases h3 : (x >>> (15 : Int32)) &&& 31 = 31
      · rw [if_pos h3]; simp [h3, pb]
      · rw [if_neg h3, show 99999956 + 0 = 99999942 + 14 from rfl, cp_65_h1, if_pos (by decide)]
        simp [h1, h2, h3, pb]
theorem r_hasVar {τ : mm_S} {n b T : Nat} (hB : rB τ n) (hb : b < n) (eT : τ.1 5 b = nI T) (hT31 : T < 2 ^ 31) (hd : ¬ T % 32 = 31) (d : Nat) : rG (d + 1) 27 [.ref 0, .int (nI b)] τ = some (pb (pVr (nI T)), 0, τ) := by
  have hn := hB.2
  have hT := pu_T (show b < 16 by omega) (by decide)
  have hC := pu_cl (show b < 16 by omega) (by decide)
  have z : ¬ (nI T >>> ((5 : Int32) * 0 &&& 31)) &&& 31 = 31 := by
    rw [pk_shrN hT31 _ 0 (by decide), Nat.pow_zero, Nat.div_one, pu_and5 hT31]
    intro q
    exact hd ((nI_eq (by omega) (by decide)).1 (q : nI (T % 32) = nI 31))
  rw [rp_27_g, show 99999998 + 0 = 99999981 + 17 from rfl, rp_27_h1, if_neg (by decide)]
  simp only [hT, hC, if_true, eT]
  rw [if_neg z, show 99999981 + 0 = 99999964 + 17 from rfl, rp_27_h1, if_neg (by decide)]
  simp only [hT, hC, if_true, eT]
  rw [show (5 : Int32) * (0 + 1) &&& 31 = 5 by decide]
  unfold pVr
  by_cases h1 : (nI T >>> (5 : Int32)) &&& 31 = 31
  · rw [if_pos h1]; simp [h1, pb]
  · rw [if_neg h1, show 99999964 + 0 = 99999947 + 17 from rfl, rp_27_h1, if_neg (by decide)]
    simp only [hT, hC, if_true, eT]
    rw [show (5 : Int32) * (0 + 1 + 1) &&& 31 = 10 by decide]
    by_cases h2 : (nI T >>> (10 : Int32)) &&& 31 = 31
    · rw [if_pos h2]; simp [h2, pb]
    · rw [if_neg h2, show 99999947 + 0 = 99999930 + 17 from rfl, rp_27_h1, if_neg (by decide)]
      simp only [hT, hC, if_true, eT]
      rw [show (5 : Int32) * (0 + 1 + 1 + 1) &&& 31 = 15 by decide]
      by_cases h3 : (nI T >>> (15 : Int32)) &&& 31 = 31
      · rw [if_pos h3]; simp [h3, pb]
      · rw [if_neg h3, show 99999930 + 0 = 99999913 + 17 from rfl, rp_27_h1, if_pos (by decide)]
        simp [h1, h2, h3, pb]
