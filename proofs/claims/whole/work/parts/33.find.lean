/-! PURE: what is known of the rows (cI), what both programs share (sT), what of the reference is scratch (rEq) -/
def cI (σ : mm_S) (nc nb : Nat) (F1 F2 lv H : Nat → Nat) : Prop :=
  cK σ nc ∧ 1 ≤ nc ∧ cB σ nb ∧ pRow F1 F2 lv ∧ lv 1 = 0 ∧ cR σ F1 F2 ∧ pTop nc F1 F2 H ∧ cH σ H ∧ σ.1 6 1 = 0 ∧ cHo σ nb ∧ (∀ j, j < nb → ∃ T, σ.1 13 j = nI T ∧ pV nc 4 T)
def sT (σ τ : mm_S) : Prop :=
  σ.1 1 0 = τ.1 0 0 ∧ σ.1 2 1 = τ.1 0 5 ∧ σ.1 6 = τ.1 1 ∧ σ.1 7 = τ.1 2 ∧ σ.1 8 = τ.1 3 ∧ (∀ h, σ.1 9 h = τ.1 4 (2 * h) ∧ σ.1 10 h = τ.1 4 (2 * h + 1)) ∧ σ.1 13 = τ.1 5 ∧ σ.1 14 = τ.1 6 ∧ σ.1 15 = τ.1 7 ∧ σ.1 16 = τ.1 8 ∧ σ.1 17 = τ.1 9 ∧ σ.1 18 = τ.1 10 ∧ σ.1 19 = τ.1 11 ∧ (∀ b p, p < 3 → σ.1 (21 + p) b = τ.1 12 (3 * b + p) ∧ σ.1 (25 + p) b = τ.1 13 (3 * b + p))
def rEq (τ τ' : mm_S) : Prop := (∀ c, c ≠ 0 → τ'.1 c = τ.1 c) ∧ (∀ j, j ≠ 20 → j ≠ 23 → τ'.1 0 j = τ.1 0 j)
theorem rEq_refl (τ : mm_S) : rEq τ τ := ⟨fun _ _ => rfl, fun _ _ _ => rfl⟩
theorem rEq_trans {τ τ' τ'' : mm_S} (h : rEq τ τ') (h' : rEq τ' τ'') : rEq τ τ'' := ⟨fun c hc => (h'.1 c hc).trans (h.1 c hc), fun j h1 h2 => (h'.2 j h1 h2).trans (h.2 j h1 h2)⟩
theorem rEq_M (τ : mm_S) (a n ar ab k) : rEq τ (rM τ a n ar ab k) := ⟨fun _ h => rM_o _ _ _ _ _ _ h, fun _ h1 h2 => rM_0 _ _ _ _ _ _ h1 h2⟩
theorem rEq_S (τ : mm_S) (a n) : rEq τ (rS τ a n) := ⟨fun _ h => rS_o _ _ _ h, fun j h1 _ => by simp [rS, mm_w, h1]⟩
/-- the reference's facts of a state -/
def rI (τ : mm_S) (nc nb : Nat) (F1 F2 lv : Nat → Nat) : Prop := τ.1 0 0 = nI nc ∧ nc ≤ 13 ∧ rB τ nb ∧ pRow F1 F2 lv ∧ lv 1 = 0 ∧ rR τ F1 F2 ∧ τ.1 1 1 = 0 ∧ rHo τ nb ∧ (∀ j, j < nb → ∃ T, τ.1 5 j = nI T ∧ pV nc 4 T)
theorem rI_eq {τ τ' : mm_S} {nc nb : Nat} {F1 F2 lv : Nat → Nat} (h : rEq τ τ') (hI : rI τ nc nb F1 F2 lv) : rI τ' nc nb F1 F2 lv := by
  obtain ⟨h1, h2⟩ := h
  obtain ⟨i1, i2, i3, i4, i5, i6, i7, i8, i9⟩ := hI
  refine ⟨by rw [h2 0 (by decide) (by decide)]; exact i1, i2, ⟨by rw [h2 5 (by decide) (by decide)]; exact i3.1, i3.2⟩, i4, i5, ?_, by rw [h1 1 (by decide)]; exact i7, ?_, ?_⟩
  · intro h hh; rw [h1 4 (by decide)]; exact i6 h hh
  · intro j hj; rw [h1 9 (by decide)]; exact i8 j hj
  · intro j hj; rw [h1 5 (by decide)]; exact i9 j hj
theorem rI_of {σ τ : mm_S} {nc nb : Nat} {F1 F2 lv H : Nat → Nat} (hI : cI σ nc nb F1 F2 lv H) (hS : sT σ τ) : rI τ nc nb F1 F2 lv := by
  obtain ⟨i1, i2, i3, i4, i5, i6, i7, i8, i9, i10, i11⟩ := hI
  obtain ⟨s1, s2, s3, s4, s5, s6, s7, s8, s9, s10, s11, s12, s13, s14⟩ := hS
  refine ⟨by rw [← s1]; exact i1.1, i1.2, ⟨by rw [← s2]; exact i3.1, i3.2⟩, i4, i5, ?_, by rw [← s3]; exact i9, ?_, ?_⟩
  · intro h hh; rw [← (s6 h).1, ← (s6 h).2]; exact i6 h hh
  · intro j hj; rw [← s11]; exact i10 j hj
  · intro j hj; rw [← s7]; exact i11 j hj
/-- is bean j a candidate? -/
def pCd1 (F1 F2 : Nat → Nat) (ge ty mk ch ho : Nat → Int32) (R : Nat) (w : Int32) (j : Nat) : Bool := pE ch ho j && (pCar (mk j) w && pSm F1 F2 ge 6 R (ty j).toInt64)
theorem pu_or0 {b : Bool} : (if b = true then (1 : Int32) else 0) = pb b := rfl
theorem c_metb {σ : mm_S} {nc nb : Nat} {F1 F2 lv H : Nat → Nat} (hI : cI σ nc nb F1 F2 lv H) {R : Nat} (h31 : R < 2 ^ 31) (hv : (pTA nc (σ.1 6) true false 6).1 R = true) {j : Nat} (hj : j < nb) (d : Nat) : cG (d + 36) 34 [.ref 1, .long (nI R).toInt64, .long (σ.1 13 j).toInt64, .int 0] σ = some (pb (pSm F1 F2 (σ.1 6) 6 R (σ.1 13 j).toInt64), 0, σ) := by
  obtain ⟨i1, i2, i3, i4, i5, i6, i7, i8, i9, i10, i11⟩ := hI
  obtain ⟨T, e, hV⟩ := i11 j hj
  have hT := pV_60 hV (by omega)
  have hT25 := pV_lt hV
  have e25 : 32 ^ (4 + 1) = 2 ^ 25 := by decide
  have ht : (σ.1 13 j).toInt64 = lN T := by rw [e, nI_l (by omega)]
  rw [ht, nI_l h31]
  have hd := pHd_eq (lN T)
  have := ((c_met i1.2 i4 i6 i7 i8 i9) 6 (by omega)).2 3 R (lN T) 0 d (by omega) h31 hv (i4 _ hd.2).2.2.1 ⟨T, rfl, pV_le hV (by decide)⟩ (by omega)
  rw [nI_0] at this
  exact this
set_option maxHeartbeats 1000000 in
theorem c_cand_loop {σ : mm_S} {nc nb : Nat} {F1 F2 lv H : Nat → Nat} (hI : cI σ nc nb F1 F2 lv H) {R : Nat} (h31 : R < 2 ^ 31) (hv : (pTA nc (σ.1 6) true false 6).1 R = true) (w : Int32) (d : Nat) : ∀ (r k f : Nat), k + r = nb → 33 * (r + 1) ≤ f → mm_ex sc (cG (d + 36)) 1 cp_20_l f cp_20_r1 [.ref 2, .int (nI R), .int w, .int (nI (pBits (pCd1 F1 F2 (σ.1 6) (σ.1 13) (σ.1 14) (σ.1 16) (σ.1 17) R w) k)), .int (nI k)] [] σ = some (nI (pBits (pCd1 F1 F2 (σ.1 6) (σ.1 13) (σ.1 14) (σ.1 16) (σ.1 17) R w) nb), 0, σ) := by
  have hB : cB σ nb := hI.2.2.1
  have hH : cHo σ nb := hI.2.2.2.2.2.2.2.2.2.1
  have hn := hB.2
  intro r
  induction r with
  | zero =>
    intro k f hk hf
    have e : k = nb := by omega
    subst e
    rw [show f = (f - 33) + 33 by omega, cp_20_h1, hB.1, if_pos (nI_le (Nat.le_refl _) (by omega))]
  | succ r ih =>
    intro k f hk hf
    have hk2 : k < nb := by omega
    have h16 := pu_T (show k < 16 by omega) (by decide)
    have e16 := pu_cl (show k < 16 by omega) (by decide)
    rw [show f = (f - 33) + 33 by omega, cp_20_h1, hB.1, if_neg (nI_ge hk2 (by omega)), show d + 36 = (d + 34) + 2 by omega, c_isEnabled hB hH hk2]
    simp only [Option.bind_some, pu_or0, pb_if]
    have no : ∀ c, pCd1 F1 F2 (σ.1 6) (σ.1 13) (σ.1 14) (σ.1 16) (σ.1 17) R w k = false → c ≤ 33 → mm_ex sc (cG (d + 36)) 1 cp_20_l (f - 33 + c) cp_20_r1 [.ref 2, .int (nI R), .int w, .int (nI (pBits (pCd1 F1 F2 (σ.1 6) (σ.1 13) (σ.1 14) (σ.1 16) (σ.1 17) R w) k)), .int (nI k + 1)] [] σ = some (nI (pBits (pCd1 F1 F2 (σ.1 6) (σ.1 13) (σ.1 14) (σ.1 16) (σ.1 17) R w) nb), 0, σ) := by
      intro c hf2 hc
      have := ih (k + 1) (f - 33 + c) (by omega) (by omega)
      rw [pBits_no (by rw [hf2]; decide)] at this
      rw [nI_1]
      exact this
    cases h1 : pE (σ.1 16) (σ.1 17) k with
    | false =>
      rw [if_neg (by decide)]
      exact no _ (by simp [pCd1, h1]) (by omega)
    | true =>
      rw [if_pos rfl, c_carries hB hk2]
      simp only [Option.bind_some, pu_or0, pb_if]
      cases h2 : pCar (σ.1 14 k) w with
      | false =>
        rw [if_neg (by decide)]
        exact no _ (by simp [pCd1, h2]) (by omega)
      | true =>
        rw [if_pos rfl]
        simp only [h16, if_true, e16]
        rw [show d + 34 + 2 = d + 36 by omega, c_metb hI h31 hv hk2]
        simp only [Option.bind_some, pb_if]
        cases h3 : pSm F1 F2 (σ.1 6) 6 R (σ.1 13 k).toInt64 with
        | false =>
          rw [if_neg (by decide)]
          exact no _ (by simp [pCd1, h3]) (by omega)
        | true =>
          rw [if_pos rfl, nI_1, pu_set (by omega) (by simp [pCd1, h1, h2, h3])]
          exact ih (k + 1) _ (by omega) (by omega)
theorem c_candidateSet {σ : mm_S} {nc nb : Nat} {F1 F2 lv H : Nat → Nat} (hI : cI σ nc nb F1 F2 lv H) {R : Nat} (h31 : R < 2 ^ 31) (hv : (pTA nc (σ.1 6) true false 6).1 R = true) (w : Int32) (d : Nat) : cG (d + 37) 20 [.ref 2, .int (nI R), .int w] σ = some (nI (pBits (pCd1 F1 F2 (σ.1 6) (σ.1 13) (σ.1 14) (σ.1 16) (σ.1 17) R w) nb), 0, σ) := by
  have := c_cand_loop hI h31 hv w d nb 0 (99999996 + 0) (by omega) (by have := hI.2.2.1.2; omega)
  rw [nI_0] at this
  rw [cp_20_g]
  exact this
set_option maxHeartbeats 1000000 in
theorem r_seek_loop {nc nb : Nat} {F1 F2 lv : Nat → Nat} {R : Nat} (h31 : R < 2 ^ 31) (w : Int32) (d : Nat) (ge ty mk ch ho : Nat → Int32) (hv : (pTA nc ge true false 6).1 R = true) : ∀ (r k f : Nat) (τ : mm_S), rI τ nc nb F1 F2 lv → τ.1 1 = ge → τ.1 5 = ty → τ.1 6 = mk → τ.1 8 = ch → τ.1 9 = ho → k + r = nb → 31 * (r + 1) ≤ f → ∃ τ', rEq τ τ' ∧ mm_ex sr (rG (d + 3)) 1 rp_19_l f rp_19_r1 [.ref 0, .int (nI R), .int w, .int (nI (pBits (pCd1 F1 F2 ge ty mk ch ho R w) k)), .int (nI k)] [] τ = some (nI (pBits (pCd1 F1 F2 ge ty mk ch ho R w) nb), 0, τ') := by
  intro r
  induction r with
  | zero =>
    intro k f τ hI _ _ _ _ _ hk hf
    obtain ⟨i1, i2, i3, i4, i5, i6, i7, i8, i9⟩ := hI
    have hn := i3.2
    have e : k = nb := by omega
    subst e
    refine ⟨τ, rEq_refl τ, ?_⟩
    rw [show f = (f - 31) + 31 by omega, rp_19_h1, i3.1, if_pos (nI_le (Nat.le_refl _) (by omega))]
  | succ r ih =>
    intro k f τ hI e1 e5 e6 e8 e9 hk hf
    have hI' := hI
    obtain ⟨i1, i2, i3, i4, i5, i6, i7, i8, i9⟩ := hI
    have hn := i3.2
    have hk2 : k < nb := by omega
    have h16 := pu_T (show k < 16 by omega) (by decide)
    have e16 := pu_cl (show k < 16 by omega) (by decide)
    rw [show f = (f - 31) + 31 by omega, rp_19_h1, i3.1, if_neg (nI_ge hk2 (by omega)), show d + 3 = (d + 2) + 1 by omega, r_enabled i3 i8 hk2, e8, e9]
    simp only [Option.bind_some, pu_or0, pb_if]
    have no : ∀ (c : Nat) (τ1 : mm_S), rEq τ τ1 → pCd1 F1 F2 ge ty mk ch ho R w k = false → c ≤ 31 → ∃ τ', rEq τ τ' ∧ mm_ex sr (rG (d + 3)) 1 rp_19_l (f - 31 + c) rp_19_r1 [.ref 0, .int (nI R), .int w, .int (nI (pBits (pCd1 F1 F2 ge ty mk ch ho R w) k)), .int (nI k + 1)] [] τ1 = some (nI (pBits (pCd1 F1 F2 ge ty mk ch ho R w) nb), 0, τ') := by
      intro c τ1 q hf2 hc
      obtain ⟨τ', q2, h⟩ := ih (k + 1) (f - 31 + c) τ1 (rI_eq q hI') (by rw [q.1 1 (by decide), e1]) (by rw [q.1 5 (by decide), e5]) (by rw [q.1 6 (by decide), e6]) (by rw [q.1 8 (by decide), e8]) (by rw [q.1 9 (by decide), e9]) (by omega) (by omega)
      rw [pBits_no (by rw [hf2]; decide)] at h
      refine ⟨τ', rEq_trans q q2, ?_⟩
      rw [nI_1]
      exact h
    cases h1 : pE ch ho k with
    | false =>
      rw [if_neg (by decide)]
      exact no _ τ (rEq_refl τ) (by simp [pCd1, h1]) (by omega)
    | true =>
      rw [if_pos rfl, r_carries i3 hk2, e6]
      simp only [Option.bind_some, pu_or0, pb_if]
      cases h2 : pCar (mk k) w with
      | false =>
        rw [if_neg (by decide)]
        exact no _ τ (rEq_refl τ) (by simp [pCd1, h2]) (by omega)
      | true =>
        rw [if_pos rfl]
        simp only [h16, if_true, e16]
        have hm := r_met (τ := τ) (nc := nc) i2 i4 i5 i6 h31 (by rw [e1]; exact hv) (τ.1 5 k).toInt64 d
        obtain ⟨a, n, ar, ab, kk, hm⟩ := hm
        rw [show d + 2 + 1 = d + 3 by omega, nI_l h31, hm, e1, e5]
        simp only [Option.bind_some, pb_if]
        have q := rEq_M τ a n ar ab kk
        cases h3 : pSm F1 F2 ge 6 R (ty k).toInt64 with
        | false =>
          rw [if_neg (by decide)]
          exact no _ _ q (by simp [pCd1, h3]) (by omega)
        | true =>
          rw [if_pos rfl, nI_1, pu_set (by omega) (by simp [pCd1, h1, h2, h3])]
          obtain ⟨τ', q2, h⟩ := ih (k + 1) (f - 31 + 0) (rM τ a n ar ab kk) (rI_eq q hI') (by rw [q.1 1 (by decide), e1]) (by rw [q.1 5 (by decide), e5]) (by rw [q.1 6 (by decide), e6]) (by rw [q.1 8 (by decide), e8]) (by rw [q.1 9 (by decide), e9]) (by omega) (by omega)
          exact ⟨τ', rEq_trans q q2, h⟩
theorem r_seek {τ : mm_S} {nc nb : Nat} {F1 F2 lv : Nat → Nat} (hI : rI τ nc nb F1 F2 lv) {R : Nat} (h31 : R < 2 ^ 31) (hv : (pTA nc (τ.1 1) true false 6).1 R = true) (w : Int32) (d : Nat) : ∃ τ', rEq τ τ' ∧ rG (d + 4) 19 [.ref 0, .int (nI R), .int w] τ = some (nI (pBits (pCd1 F1 F2 (τ.1 1) (τ.1 5) (τ.1 6) (τ.1 8) (τ.1 9) R w) nb), 0, τ') := by
  obtain ⟨τ', q, h⟩ := r_seek_loop h31 w d (τ.1 1) (τ.1 5) (τ.1 6) (τ.1 8) (τ.1 9) hv nb 0 (99999996 + 0) τ hI rfl rfl rfl rfl rfl (by omega) (by have := hI.2.2.1.2; omega)
  refine ⟨τ', q, ?_⟩
  rw [nI_0] at h
  rw [rp_19_g]
  exact h
