/-! PURE: the reference's meeting of types: a stack of questions -/
def rM (τ : mm_S) (a : Nat → Int64) (n : Nat) (ar ab : Nat → Int64) (k : Nat) : mm_S := (mm_w (mm_w τ.1 0 20 (nI n)) 0 23 (nI k), fun c => if c = 17 then a else if c = 18 then ar else if c = 19 then ab else τ.2 c)
theorem rM_n (τ : mm_S) (a n ar ab k) : (rM τ a n ar ab k).1 0 20 = nI n := by simp [rM, mm_w]
theorem rM_k (τ : mm_S) (a n ar ab k) : (rM τ a n ar ab k).1 0 23 = nI k := by simp [rM, mm_w]
theorem rM_o (τ : mm_S) (a n ar ab k) {c : Nat} (h : c ≠ 0) : (rM τ a n ar ab k).1 c = τ.1 c := by
  show mm_w (mm_w τ.1 0 20 (nI n)) 0 23 (nI k) c = τ.1 c
  rw [mm_w_ne h, mm_w_ne h]
theorem rM_0 (τ : mm_S) (a n ar ab k) {j : Nat} (h : j ≠ 20) (h2 : j ≠ 23) : (rM τ a n ar ab k).1 0 j = τ.1 0 j := by simp [rM, mm_w, h, h2]
theorem rM_a (τ : mm_S) (a n ar ab k) : (rM τ a n ar ab k).2 17 = a := by simp [rM]
theorem rM_r (τ : mm_S) (a n ar ab k) : (rM τ a n ar ab k).2 18 = ar := by simp [rM]
theorem rM_b (τ : mm_S) (a n ar ab k) : (rM τ a n ar ab k).2 19 = ab := by simp [rM]
theorem mm_w_comm {α : Type} {f : Nat → Nat → α} {k j i : Nat} {v w : α} (h : i ≠ j) : mm_w (mm_w f k j v) k i w = mm_w (mm_w f k i w) k j v := by
  funext k' j'
  by_cases h1 : k' = k
  · by_cases h2 : j' = j
    · have h3 : ¬ j' = i := fun q => h (q.symm.trans h2)
      simp [mm_w, h1, h2, h3, Ne.symm h]
    · by_cases h3 : j' = i
      · simp [mm_w, h1, h3, h]
      · simp [mm_w, h1, h2, h3]
  · simp [mm_w, h1]
theorem rM_S (τ : mm_S) (a n ar ab k) (a' : Nat → Int64) (n' : Nat) : rS (rM τ a n ar ab k) a' n' = rM τ a' n' ar ab k := by
  refine Prod.ext ?_ ?_
  · show mm_w (mm_w (mm_w τ.1 0 20 (nI n)) 0 23 (nI k)) 0 20 (nI n') = mm_w (mm_w τ.1 0 20 (nI n')) 0 23 (nI k)
    rw [mm_w_comm (by decide), mm_ww]
  · funext c
    show (if c = 17 then a' else if c = 17 then a else if c = 18 then ar else if c = 19 then ab else τ.2 c) = _
    by_cases h : c = 17
    · simp [rM, h]
    · simp [rM, h]
theorem rM_pop (τ : mm_S) (a n ar ab k k') : ((mm_w (rM τ a n ar ab k).1 0 23 (nI k'), (rM τ a n ar ab k).2) : mm_S) = rM τ a n ar ab k' := by
  refine Prod.ext ?_ rfl
  show mm_w (mm_w (mm_w τ.1 0 20 (nI n)) 0 23 (nI k)) 0 23 (nI k') = _
  rw [mm_ww]
  rfl
theorem rM_ex (τ : mm_S) {m : Nat} (hm : τ.1 0 20 = nI m) : ((mm_w τ.1 0 23 (0 : Int32), τ.2) : mm_S) = rM τ (τ.2 17) m (τ.2 18) (τ.2 19) 0 := by
  refine Prod.ext ?_ ?_
  · show mm_w τ.1 0 23 (0 : Int32) = mm_w (mm_w τ.1 0 20 (nI m)) 0 23 (nI 0)
    have : mm_w τ.1 0 20 (nI m) = τ.1 := by
      funext k j
      unfold mm_w
      by_cases h1 : k = 0
      · by_cases h2 : j = 20
        · subst h1; subst h2; simp [hm]
        · simp [h1, h2]
      · simp [h1]
    rw [this]; rfl
  · funext c
    show τ.2 c = if c = 17 then τ.2 17 else if c = 18 then τ.2 18 else if c = 19 then τ.2 19 else τ.2 c
    by_cases h : c = 17
    · simp [h]
    · by_cases h2 : c = 18
      · simp [h2]
      · by_cases h3 : c = 19
        · simp [h3]
        · simp [h, h2, h3]
theorem r_ask (τ : mm_S) (a n ar ab) {k : Nat} (hk : k < 64) (y1 y3 : Int64) (d : Nat) : rG (d + 1) 16 [.ref 0, .long y1, .long y3] (rM τ a n ar ab k) = some (0, 0, rM τ a n (pUp ar k y1) (pUp ab k y3) (k + 1)) := by
  have h64 := pu_T hk (by decide)
  have e64 := pu_cl hk (by decide)
  rw [rp_16_g, rM_k]
  simp only [h64, if_true, e64, nI_1]
  congr 3
  refine Prod.ext ?_ ?_
  · show mm_w (mm_w (mm_w τ.1 0 20 (nI n)) 0 23 (nI k)) 0 23 (nI (k + 1)) = _
    rw [mm_ww]
    rfl
  · funext c i
    show mm_w (mm_w (rM τ a n ar ab k).2 18 k y1) 19 k y3 c i = (rM τ a n (pUp ar k y1) (pUp ab k y3) (k + 1)).2 c i
    unfold mm_w rM pUp
    by_cases h : c = 19
    · subst h; simp
    · by_cases h2 : c = 18
      · subst h2; simp
      · simp [h, h2]
def pAp {α : Type} (ar : Nat → α) (k0 : Nat) (v : Nat → α) (i : Nat) : Nat → α := fun j => if k0 ≤ j ∧ j < k0 + i then v (j - k0) else ar j
theorem pAp_0 {α : Type} (ar : Nat → α) (k0 : Nat) (v : Nat → α) : pAp ar k0 v 0 = ar := by
  funext j
  unfold pAp
  rw [if_neg (by omega)]
theorem pAp_S (ar : Nat → Int64) (k0 : Nat) (v : Nat → Int64) (i : Nat) : pUp (pAp ar k0 v i) (k0 + i) (v i) = pAp ar k0 v (i + 1) := by
  funext j
  show (if j = k0 + i then v i else if k0 ≤ j ∧ j < k0 + i then v (j - k0) else ar j) = (if k0 ≤ j ∧ j < k0 + (i + 1) then v (j - k0) else ar j)
  by_cases h : j = k0 + i
  · rw [if_pos h, if_pos (by omega), show j - k0 = i by omega]
  · rw [if_neg h]
    by_cases h2 : k0 ≤ j ∧ j < k0 + i
    · rw [if_pos h2, if_pos (by omega)]
    · rw [if_neg h2, if_neg (by omega)]
theorem r_push14 (τ : mm_S) (a : Nat → Int64) {n k0 : Nat} (hn : n ≤ 16) (hk : k0 + n ≤ 64) (ar ab : Nat → Int64) (y1 y3 : Int64) (x5 : Int32) (y6 y8 : Int64) (x10 x11 x12 : Int32) (d : Nat) : ∀ (r i f : Nat), i + r = n → 15 * (r + 1) ≤ f → ∃ g, f - 15 * (r + 1) ≤ g ∧ g ≤ f ∧
    mm_ex sr (rG (d + 1)) 3 rp_17_l f rp_17_r14 [.ref 0, .long y1, .null, .long y3, .null, .int x5, .long y6, .null, .long y8, .null, .int x10, .int x11, .int x12, .int (nI i)] [] (rM τ a n (pAp ar k0 (fun _ => y6 >>> (((5 : Int32)).toInt64 &&& 63)) i) (pAp ab k0 a i) (k0 + i)) = mm_ex sr (rG (d + 1)) 3 rp_17_l g rp_17_r3 [.ref 0, .long y1, .null, .long y3, .null, .int (x5 + 1), .long y6, .null, .long y8, .null, .int x10, .int x11, .int x12, .int (nI n)] [] (rM τ a n (pAp ar k0 (fun _ => y6 >>> (((5 : Int32)).toInt64 &&& 63)) n) (pAp ab k0 a n) (k0 + n)) := by
  intro r
  induction r with
  | zero =>
    intro i f hi hf
    have e : i = n := by omega
    subst e
    refine ⟨f - 15 + 8, by omega, by omega, ?_⟩
    rw [show f = (f - 15) + 15 by omega, rp_17_h14, rM_n, if_pos (nI_le (Nat.le_refl _) (by omega))]
    rfl
  | succ r ih =>
    intro i f hi hf
    obtain ⟨g, h1, h2, h3⟩ := ih (i + 1) (f - 15 + 0) (by omega) (by omega)
    refine ⟨g, by omega, by omega, ?_⟩
    rw [show f = (f - 15) + 15 by omega, rp_17_h14, rM_n, if_neg (nI_ge (show i < n by omega) (by omega)), if_pos (pu_in (show i < 16 by omega) (by decide)), pu_cl (show i < 16 by omega) (by decide), rM_a, r_ask _ _ _ _ _ (by omega), nI_1]
    simp only [Option.bind_some]
    rw [pAp_S ar k0 (fun _ => y6 >>> (((5 : Int32)).toInt64 &&& 63)) i, pAp_S ab k0 a i, show k0 + i + 1 = k0 + (i + 1) by omega, h3]
theorem r_push1 (τ : mm_S) (a : Nat → Int64) {n : Nat} (hn : n ≤ 16) (ar ab : Nat → Int64) (y1 y3 : Int64) (d : Nat) : ∀ (r i f : Nat), i + r = n → 13 * (r + 1) ≤ f → ∃ g, f - 13 * (r + 1) ≤ g ∧ g ≤ f ∧
    mm_ex sr (rG (d + 1)) 3 rp_17_l f rp_17_r1 [.ref 0, .long y1, .null, .long y3, .null, .int (nI i), .null, .null, .null, .null, .null, .null, .null, .null] [] (rM τ a n (pAp ar 0 (fun _ => y1) i) (pAp ab 0 a i) (0 + i)) = mm_ex sr (rG (d + 1)) 3 rp_17_l g rp_17_r3 [.ref 0, .long y1, .null, .long y3, .null, .int 0, .null, .null, .null, .null, .null, .null, .null, .null] [] (rM τ a n (pAp ar 0 (fun _ => y1) n) (pAp ab 0 a n) (0 + n)) := by
  intro r
  induction r with
  | zero =>
    intro i f hi hf
    have e : i = n := by omega
    subst e
    refine ⟨f - 13 + 7, by omega, by omega, ?_⟩
    rw [show f = (f - 13) + 13 by omega, rp_17_h1, rM_n, if_pos (nI_le (Nat.le_refl _) (by omega))]
    rfl
  | succ r ih =>
    intro i f hi hf
    obtain ⟨g, h1, h2, h3⟩ := ih (i + 1) (f - 13 + 0) (by omega) (by omega)
    refine ⟨g, by omega, by omega, ?_⟩
    rw [show f = (f - 13) + 13 by omega, rp_17_h1, rM_n, if_neg (nI_ge (show i < n by omega) (by omega)), if_pos (pu_in (show i < 16 by omega) (by decide)), pu_cl (show i < 16 by omega) (by decide), rM_a, r_ask _ _ _ _ _ (by omega), nI_1]
    simp only [Option.bind_some]
    rw [pAp_S ar 0 (fun _ => y1) i, pAp_S ab 0 a i, show 0 + i + 1 = 0 + (i + 1) by omega, h3]
/-- is the question answered at once? -/
abbrev pYes (r b : Int64) : Prop := (r = 0 ∧ (b = 0 ∨ b = 31 ∨ b = 1)) ∨ (b = 0 ∧ r = 1) ∨ (¬ r = 0 ∧ ¬ b = 0 ∧ (b = 31 ∨ r = 30))
theorem r_met11 (σ : mm_S) (d f : Nat) (hf : 20 ≤ f) (y1 y3 : Int64) (x5 : Int32) (y6 y8 : Int64) (x10 x11 xs0 : Int32) (h11 : (x11 = 0 ∧ ¬ ((y6 = 0 ∧ (y8 = 0 ∨ y8 = 31 ∨ y8 = 1)) ∨ (y8 = 0 ∧ y6 = 1))) ∨ (x11 = 1 ∧ ((y6 = 0 ∧ (y8 = 0 ∨ y8 = 31 ∨ y8 = 1)) ∨ (y8 = 0 ∧ y6 = 1)))) (hs : (xs0 = 0 ∧ (y6 = 0 ∨ y8 = 0)) ∨ (xs0 = 1 ∧ ¬ y6 = 0 ∧ ¬ y8 = 0)) :
    ∃ g, f - 20 ≤ g ∧ g ≤ f ∧ mm_ex sr (rG d) 3 rp_17_l f rp_17_r11 [.ref 0, .long y1, .null, .long y3, .null, .int x5, .long y6, .null, .long y8, .null, .int x10, .int x11, .null, .null] [.int xs0] σ = (if ¬ x10 = 0 ∧ pYes y6 y8 then some ((1 : Int32), 0, σ) else mm_ex sr (rG d) 3 rp_17_l g rp_17_r13 [.ref 0, .long y1, .null, .long y3, .null, .int x5, .long y6, .null, .long y8, .null, .int x10, .int x11, .int xs0, .null] [] σ) := by
  rw [show f = (f - 17) + 17 by omega, rp_17_h11]
  simp only [pu_cmp]
  by_cases h0 : x10 = 0
  · refine ⟨f - 17 + 14, by omega, by omega, ?_⟩
    rw [if_pos h0, if_neg (fun h => h.1 h0)]
  · rw [if_neg h0]
    rcases h11 with ⟨e, h⟩ | ⟨e, h⟩
    · rw [if_pos e]
      rcases hs with ⟨e2, h2⟩ | ⟨e2, h2, h3⟩
      · refine ⟨f - 17 + 10, by omega, by omega, ?_⟩
        rw [if_pos e2, if_neg]
        rintro ⟨-, h4 | h4 | h4⟩
        · exact h (Or.inl h4)
        · exact h (Or.inr h4)
        · exact h2.elim h4.1 h4.2.1
      · rw [if_neg (by rw [e2]; decide)]
        by_cases h5 : y8 = 31
        · exact ⟨f, by omega, by omega, by rw [if_pos h5, if_pos ⟨h0, Or.inr (Or.inr ⟨h2, h3, Or.inl h5⟩)⟩]⟩
        · rw [if_neg h5]
          by_cases h6 : y6 = 30
          · exact ⟨f, by omega, by omega, by rw [if_pos h6, if_pos ⟨h0, Or.inr (Or.inr ⟨h2, h3, Or.inr h6⟩)⟩]⟩
          · refine ⟨f - 17 + 2, by omega, by omega, ?_⟩
            rw [if_neg h6, if_neg]
            rintro ⟨-, h4 | h4 | h4⟩
            · exact h (Or.inl h4)
            · exact h (Or.inr h4)
            · exact h4.2.2.elim h5 h6
    · rw [if_neg (by rw [e]; decide)]
      exact ⟨f, by omega, by omega, by rw [if_pos ⟨h0, h.elim Or.inl (fun z => Or.inr (Or.inl z))⟩]⟩
