/-! declare -/
theorem nI_or {a b : Nat} (ha : a < 2 ^ 31) (hb : b < 2 ^ 31) : nI a ||| nI b = nI (a ||| b) := by
  apply Int32.toBitVec_inj.mp
  apply BitVec.eq_of_toNat_eq
  rw [Int32.toBitVec_or, BitVec.toNat_or]
  show (BitVec.ofNat 32 _).toNat ||| (BitVec.ofNat 32 _).toNat = (BitVec.ofNat 32 _).toNat
  have := Nat.or_lt_two_pow ha hb
  rw [BitVec.toNat_ofNat, BitVec.toNat_ofNat, BitVec.toNat_ofNat, Nat.mod_eq_of_lt (by omega), Nat.mod_eq_of_lt (by omega), Nat.mod_eq_of_lt (by omega)]
theorem pV_nc {nc : Nat} : ∀ {k T : Nat}, pV nc k T → pV (nc + 1) k T
  | 0, _, h => h.elim
  | k + 1, T, h => ⟨h.1, Nat.le_succ_of_le h.2.1, h.2.2.imp id (fun q => q.imp id pV_nc)⟩
theorem pTA_nc {nc : Nat} {g g' : Nat → Int32} {w v : Bool} (e : ∀ i, i ≤ nc → g' i = g i) : ∀ k, (∀ c, (pTA nc g w v k).1 c = true → (pTA (nc + 1) g' w v k).1 c = true) ∧ (∀ a, (pTA nc g w v k).2 a = true → (pTA (nc + 1) g' w v k).2 a = true)
  | 0 => ⟨fun c h => by simp [pTA] at h, fun a h => by simp [pTA] at h⟩
  | k + 1 => by
    have ih := pTA_nc (w := w) (v := v) e k
    have key : ∀ c, (decide (1 ≤ c % 32 ∧ c % 32 ≤ nc) && (decide (c / 32 = 0) || (!decide (g (c % 32) = 0) && (pTA nc g w v k).2 (c / 32)))) = true → (decide (1 ≤ c % 32 ∧ c % 32 ≤ nc + 1) && (decide (c / 32 = 0) || (!decide (g' (c % 32) = 0) && (pTA (nc + 1) g' w v k).2 (c / 32)))) = true := by
      intro c h
      simp only [Bool.and_eq_true, Bool.or_eq_true, decide_eq_true_eq, Bool.not_eq_true', decide_eq_false_iff_not] at h ⊢
      refine ⟨⟨h.1.1, by omega⟩, h.2.imp id (fun q => ⟨by rw [e _ h.1.2]; exact q.1, ih.2 _ q.2⟩)⟩
    refine ⟨fun c h => ?_, fun a h => ?_⟩
    · simp only [pTA] at h ⊢
      exact key c h
    · simp only [pTA] at h ⊢
      by_cases h31 : a % 32 = 31
      · rw [if_pos h31] at h ⊢; exact h
      · rw [if_neg h31] at h ⊢
        by_cases h30 : a % 32 = 30
        · rw [if_pos h30] at h ⊢; exact h
        · rw [if_neg h30] at h ⊢
          by_cases h29 : a % 32 = 29
          · rw [if_pos h29] at h ⊢
            rw [Bool.and_eq_true] at h ⊢
            exact ⟨h.1, ih.1 _ h.2⟩
          · rw [if_neg h29] at h ⊢
            exact key a h
theorem pTA_lt {nc : Nat} {g : Nat → Int32} {v : Bool} : ∀ k, (∀ c, (pTA nc g false v k).1 c = true → c < 32 ^ k) ∧ (∀ a, (pTA nc g false v k).2 a = true → a < 32 ^ k)
  | 0 => ⟨fun c h => by simp [pTA] at h, fun a h => by simp [pTA] at h⟩
  | k + 1 => by
    have ih := pTA_lt (nc := nc) (g := g) (v := v) k
    have hp : 0 < 32 ^ k := Nat.pow_pos (by decide)
    have h1 : ∀ c, (pTA nc g false v (k + 1)).1 c = true → c < 32 ^ (k + 1) := by
      intro c h
      obtain ⟨m, e, a1, a2, a3⟩ := pTA_ge1 h
      have : m = k := by omega
      subst this
      have h0 : c / 32 < 32 ^ m := by
        rcases a3 with a3 | ⟨-, a3⟩
        · omega
        · exact ih.2 _ a3
      rw [Nat.pow_succ]
      omega
    refine ⟨h1, fun a h => ?_⟩
    by_cases h31 : a % 32 = 31
    · simp only [pTA, if_pos h31, Bool.and_eq_true, decide_eq_true_eq] at h
      rw [Nat.pow_succ]
      omega
    · apply h1
      simp only [pTA, if_neg h31] at h ⊢
      by_cases h30 : a % 32 = 30
      · rw [if_pos h30] at h
        simp at h
      · rw [if_neg h30] at h
        by_cases h29 : a % 32 = 29
        · rw [if_pos h29] at h
          simp at h
        · rw [if_neg h29] at h
          exact h
theorem pPar_of {nc P : Nat} (hn : nc ≤ 13) (h : pV nc 3 P) (h' : P < 32 ^ 3) : pPar P := by
  have e : 32 ^ 3 = 32768 := by decide
  refine ⟨by omega, by have := h.2.1; omega, fun q => ?_⟩
  rcases h.2.2 with a | a | a
  · omega
  · omega
  · have := a.2.1
    omega
def pPok (nc : Nat) (ge cl : Nat → Int32) (v : Bool) (x : Int32) : Bool := decide (x = 0) || (pCode nc ge false v 3 x && (!decide ((x &&& 31) = 1) && decide (cl (x &&& 31).toNatClampNeg = 0)))
def pLv (lv : Nat → Nat) (P : Nat) : Nat := if P = 0 then 0 else lv (P % 32) + 1
theorem pPok_some {nc : Nat} {ge cl : Nat → Int32} {v : Bool} {x : Int32} (h : pPok nc ge cl v x = true) : ∃ P, x = nI P ∧ P < 32768 ∧ (P = 0 ∨ pV nc 3 P) := by
  unfold pPok at h
  rw [Bool.or_eq_true, decide_eq_true_eq, Bool.and_eq_true] at h
  rcases h with h | ⟨h, -⟩
  · exact ⟨0, h, by decide, Or.inl rfl⟩
  · obtain ⟨P, a, e, b⟩ := pCode_some h
    have := (pTA_lt 3).1 _ b
    have e3 : 32 ^ 3 = 32768 := by decide
    exact ⟨P, e, by omega, Or.inr ((pTA_V 3).1 _ b)⟩
theorem c_isParent {σ : mm_S} {nc : Nat} (hK : cK σ nc) (x : Int32) (v : Bool) (d : Nat) : cG (d + 8) 27 [.ref 1, .int x, .int (pb v)] σ = some (pb (pCode nc (σ.1 6) false v 3 x && (!decide ((x &&& 31) = 1) && decide (σ.1 7 (x &&& 31).toNatClampNeg = 0))), 0, σ) := by
  have h := c_isTypeCode hK false v (k := 3) (by decide) x d
  rw [show nI 3 = (3 : Int32) by decide, pb_f] at h
  rw [cp_27_g, h]
  simp only [pu_bind, pb_if]
  cases hc : pCode nc (σ.1 6) false v 3 x with
  | false => rfl
  | true =>
    obtain ⟨P, a, rfl, b⟩ := pCode_some hc
    rw [if_pos rfl, pu_and5 a]
    have hT := pu_T (show P % 32 < 32 by omega) (by decide)
    simp only [hT, if_true]
    by_cases h1 : nI (P % 32) = 1
    · rw [if_pos h1]; simp [h1, pb]
    · rw [if_neg h1]
      by_cases h2 : σ.1 7 (nI (P % 32)).toNatClampNeg = 0
      · rw [if_pos h2]; simp [h1, h2, pb]
      · rw [if_neg h2]; simp [h1, h2, pb]
theorem r_parental {τ : mm_S} {nc : Nat} (hK : rK τ nc) (x : Int32) (v : Bool) (d : Nat) : rG (d + 2) 4 [.ref 0, .int x, .int (pb v)] τ = some (pb (pPok nc (τ.1 1) (τ.1 2) v x), 0, τ) := by
  have h := r_written hK false v (k := 3) (by decide) x d
  rw [show nI 3 = (3 : Int32) by decide, pb_f] at h
  rw [rp_4_g, h]
  unfold pPok
  by_cases h0 : x = 0
  · rw [if_pos h0]; simp [h0, pb]
  · rw [if_neg h0]
    simp only [pu_bind, pb_if, h0, decide_false, Bool.false_or]
    cases hc : pCode nc (τ.1 1) false v 3 x with
    | false => rfl
    | true =>
      obtain ⟨P, a, rfl, b⟩ := pCode_some hc
      rw [if_pos rfl, pu_and5 a]
      have hT := pu_T (show P % 32 < 32 by omega) (by decide)
      simp only [hT, if_true]
      by_cases h2 : τ.1 2 (nI (P % 32)).toNatClampNeg = 0
      · rw [if_pos h2]
        by_cases h1 : nI (P % 32) = 1
        · rw [if_pos h1]; simp [h1, pb]
        · rw [if_neg h1]; simp [h1, h2, pb]
      · rw [if_neg h2]; simp [h2, pb]
theorem c_level {σ : mm_S} {lv : Nat → Nat} (h8 : ∀ h, h < 32 → σ.1 8 h = nI (lv h)) (hl : ∀ h, h < 32 → lv h ≤ 3) {P Q : Nat} (hP : P < 32768) (hQ : Q < 32768) (d : Nat) : cG (d + 1) 30 [.ref 1, .int (nI P), .int (nI Q)] σ = some (nI (max (pLv lv P) (pLv lv Q)), 0, σ) := by
  have tP := pu_T (show P % 32 < 32 by omega) (by decide)
  have cP := pu_cl (show P % 32 < 32 by omega) (by decide)
  have tQ := pu_T (show Q % 32 < 32 by omega) (by decide)
  have cQ := pu_cl (show Q % 32 < 32 by omega) (by decide)
  have lP := hl (P % 32) (by omega)
  have lQ := hl (Q % 32) (by omega)
  rw [cp_30_g, pu_and5 (show P < 2 ^ 31 by omega), pu_and5 (show Q < 2 ^ 31 by omega)]
  simp only [tP, cP, tQ, cQ, if_true, pu_eq0 (show P < 2 ^ 31 by omega), pu_eq0 (show Q < 2 ^ 31 by omega), h8 _ (show P % 32 < 32 by omega), h8 _ (show Q % 32 < 32 by omega), nI_1]
  unfold pLv
  by_cases h1 : P = 0
  · by_cases h2 : Q = 0
    · simp only [h1, h2, if_true]; rfl
    · simp only [h1, h2, if_true, if_false]
      rw [if_pos (show (0 : Int32) < nI (lv (Q % 32) + 1) from (nI_lt (by omega) (by omega) : nI 0 < nI _)), show max 0 (lv (Q % 32) + 1) = lv (Q % 32) + 1 by omega]
  · by_cases h2 : Q = 0
    · simp only [h1, h2, if_true, if_false]
      rw [if_neg (nI_pos (by omega)), show max (lv (P % 32) + 1) 0 = lv (P % 32) + 1 by omega]
    · simp only [h1, h2, if_false]
      by_cases h3 : lv (P % 32) + 1 < lv (Q % 32) + 1
      · rw [if_pos (nI_lt h3 (by omega)), show max (lv (P % 32) + 1) (lv (Q % 32) + 1) = lv (Q % 32) + 1 by omega]
      · rw [if_neg (nI_nlt (by omega) (by omega)), show max (lv (P % 32) + 1) (lv (Q % 32) + 1) = lv (P % 32) + 1 by omega]
def dC (σ : mm_S) (m P Q : Nat) (g c : Int32) (L K : Nat) : mm_S := (mm_w (mm_w (mm_w (mm_w (mm_w (mm_w (mm_w σ.1 1 0 (nI m)) 6 m g) 7 m c) 8 m (nI L)) 9 m (nI P)) 10 m (nI Q)) 11 m (nI K), σ.2)
def dR (τ : mm_S) (m P Q : Nat) (g c : Int32) (L : Nat) : mm_S := (mm_w (mm_w (mm_w (mm_w (mm_w (mm_w τ.1 0 0 (nI m)) 1 m g) 2 m c) 3 m (nI L)) 4 (2 * m) (nI P)) 4 (2 * m + 1) (nI Q), τ.2)
def pHn (H : Nat → Nat) (m P Q : Nat) : Nat := ((2 ^ m ||| 2) ||| H (P % 32)) ||| H (Q % 32)
set_option maxHeartbeats 2000000 in
theorem c_addC {σ : mm_S} {nc : Nat} (hK : cK σ nc) (hn : nc < 13) {lv H : Nat → Nat} (h8 : ∀ h, h < 32 → σ.1 8 h = nI (lv h)) (hl : ∀ h, h < 32 → lv h ≤ 3) (hH : cH σ H) {P Q : Nat} (hP : P < 32768) (hQ : Q < 32768) {g c : Int32} (hg : g = 0 ∨ g = 1) (hc : c = 0 ∨ c = 1) (d : Nat) : cG (d + 2) 31 [.ref 1, .int (nI P), .int (nI Q), .int g, .int c] σ = some (nI (nc + 1), 0, dC σ (nc + 1) P Q g c (max (pLv lv P) (pLv lv Q)) (pHn H (nc + 1) P Q)) := by
  have k1 := hK.1
  have hT := pu_T (show nc + 1 < 32 by omega) (by decide)
  have hC := pu_cl (show nc + 1 < 32 by omega) (by decide)
  have tP := pu_T (show P % 32 < 32 by omega) (by decide)
  have cP := pu_cl (show P % 32 < 32 by omega) (by decide)
  have tQ := pu_T (show Q % 32 < 32 by omega) (by decide)
  have cQ := pu_cl (show Q % 32 < 32 by omega) (by decide)
  have hp : 2 ^ (nc + 1) ≤ 2 ^ 13 := Nat.pow_le_pow_right (by decide) (by omega)
  have b1 : 2 ^ (nc + 1) ||| 2 < 2 ^ 31 := Nat.or_lt_two_pow (by omega) (by decide)
  have b2 := Nat.or_lt_two_pow b1 (hH (P % 32) (by omega)).2
  have lt13 : nI nc < (13 : Int32) := (nI_lt hn (by decide) : nI nc < nI 13)
  rw [cp_31_g, cp_24_g, k1, if_pos lt13, pu_and5 (show P < 2 ^ 31 by omega), pu_and5 (show Q < 2 ^ 31 by omega)]
  simp only [pu_bind, if_true, mm_w_at, k1, nI_1, hT, hC, hg, hc]
  simp (decide := true) only [mm_w_off, mm_w_at, hT, hC, if_true]
  rw [c_level (lv := lv) (σ := (mm_w (mm_w (mm_w σ.1 1 0 (nI (nc + 1))) 6 (nc + 1) g) 7 (nc + 1) c, σ.2)) (fun h hh => h8 h hh) hl hP hQ]
  simp (decide := true) only [pu_bind, mm_w_off, mm_w_at, hT, hC, tP, cP, tQ, cQ, if_true, (hH (P % 32) (by omega)).1, (hH (Q % 32) (by omega)).1]
  rw [pu_1shl (by omega), show (2 : Int32) = nI 2 by decide, nI_or (by omega) (by decide), nI_or b1 (hH (P % 32) (by omega)).2, nI_or b2 (hH (Q % 32) (by omega)).2]
  rfl
theorem r_declTail {τ : mm_S} {nc : Nat} (hK : rK τ nc) (hn : nc < 13) {lv : Nat → Nat} (h8 : ∀ h, h < 32 → τ.1 3 h = nI (lv h)) (hl : ∀ h, h < 32 → lv h ≤ 3) {P Q : Nat} (hP : P < 32768) (hQ : Q < 32768) {g c : Int32} (hg : g = 0 ∨ g = 1) (hc : c = 0 ∨ c = 1) (d n : Nat) (z : Int32) : mm_ex sr (rG d) 1 rp_5_l (n + 71) rp_5_r6 [.ref 0, .int (nI P), .int (nI Q), .int g, .int c, .int z] [.int (nI (pLv lv P))] τ = (if max (pLv lv P) (pLv lv Q) ≤ 3 then some (nI (nc + 1), 0, dR τ (nc + 1) P Q g c (max (pLv lv P) (pLv lv Q))) else some (-1, 0, τ)) := by
  have k1 := hK.1
  have hT := pu_T (show nc + 1 < 32 by omega) (by decide)
  have hC := pu_cl (show nc + 1 < 32 by omega) (by decide)
  have hT2 := pu_T (show 2 * (nc + 1) < 64 by omega) (by decide)
  have hC2 := pu_cl (show 2 * (nc + 1) < 64 by omega) (by decide)
  have hT3 := pu_T (show 2 * (nc + 1) + 1 < 64 by omega) (by decide)
  have hC3 := pu_cl (show 2 * (nc + 1) + 1 < 64 by omega) (by decide)
  have tQ := pu_T (show Q % 32 < 32 by omega) (by decide)
  have cQ := pu_cl (show Q % 32 < 32 by omega) (by decide)
  have lP : pLv lv P ≤ 4 := by
    have := hl (P % 32) (by omega)
    unfold pLv
    split <;> omega
  have lQ := hl (Q % 32) (by omega)
  have e2 : (2 : Int32) * nI (nc + 1) = nI (2 * (nc + 1)) := by rw [show (2 : Int32) = nI 2 by decide, pk_mul]
  rw [rp_5_h6, pu_and5 (show Q < 2 ^ 31 by omega)]
  simp (decide := true) only [tQ, cQ, if_true, pu_eq0 (show Q < 2 ^ 31 by omega), h8 _ (show Q % 32 < 32 by omega), k1, nI_1, mm_w_at, mm_w_off, hT, hC, hg, hc, e2, hT2, hC2, hT3, hC3]
  have c3 : ∀ a, a ≤ 4 → ((nI a ≤ (3 : Int32)) ↔ a ≤ 3) := fun a ha => (nI_leI (show a < 2 ^ 31 by omega) (by decide) : nI a ≤ nI 3 ↔ a ≤ 3)
  by_cases h0 : Q = 0
  · have e0 : max (pLv lv P) (pLv lv Q) = pLv lv P := by
      have : pLv lv Q = 0 := by unfold pLv; rw [if_pos h0]
      omega
    rw [if_pos h0, e0]
    simp only [c3 _ lP]
    rfl
  · have e0 : pLv lv Q = lv (Q % 32) + 1 := by unfold pLv; rw [if_neg h0]
    rw [if_neg h0, e0]
    by_cases h1 : lv (Q % 32) + 1 ≤ pLv lv P
    · rw [if_pos (nI_le h1 (by omega)), show max (pLv lv P) (lv (Q % 32) + 1) = pLv lv P by omega]
      simp only [c3 _ lP]
      rfl
    · rw [if_neg (nI_ge (by omega) (by omega)), show max (pLv lv P) (lv (Q % 32) + 1) = lv (Q % 32) + 1 by omega]
      simp only [c3 _ (show lv (Q % 32) + 1 ≤ 4 by omega)]
      rfl
def uqN (f : Nat → Nat) (j v : Nat) : Nat → Nat := fun i => if i = j then v else f i
