/-! PURE: which types are met: pTr (some type of the tree of supertypes), pMt n R t (R of n digits is met by t itself) -/
def pTr (F1 F2 : Nat → Nat) (ge : Nat → Int32) (q : Int64 → Bool) : Nat → Int64 → Bool
  | 0, _ => false
  | l + 1, t => q t || ((!decide (F1 (pHd t) = 0) && pTr F1 F2 ge q l (pBec ge (F1 (pHd t)) t)) || (!decide (F2 (pHd t) = 0) && pTr F1 F2 ge q l (pBec ge (F2 (pHd t)) t)))
def pStep (S M : Nat → Int64 → Bool) (R : Nat) (t : Int64) : Bool :=
  decide (R % 32 = pHd t) && (if R / 32 = 0 then decide (pArg t = 0 ∨ pArg t = 31 ∨ pArg t = 1) else if pArg t = 0 then decide (R / 32 = 1) else if pArg t = 31 ∨ R / 32 = 30 then true else if R / 32 % 32 = 29 then S (R / 1024) (pArg t) else M (R / 32) (pArg t))
def pMt (F1 F2 : Nat → Nat) (ge : Nat → Int32) : Nat → Nat → Int64 → Bool
  | 0, _, _ => false
  | 1, R, t => pStep (fun _ _ => false) (fun _ _ => false) R t
  | n + 2, R, t => pStep (fun R1 s => pTr F1 F2 ge (fun u => pMt F1 F2 ge n R1 u) 4 s || pMt F1 F2 ge n R1 1) (fun R1 s => pMt F1 F2 ge (n + 1) R1 s) R t
def pSm (F1 F2 : Nat → Nat) (ge : Nat → Int32) (n R : Nat) (t : Int64) : Bool := pTr F1 F2 ge (pMt F1 F2 ge n R) 4 t || pMt F1 F2 ge n R 1
theorem pStep_hd {S M : Nat → Int64 → Bool} {R : Nat} {t : Int64} (h : pStep S M R t = true) : R % 32 = pHd t := by
  unfold pStep at h
  rw [Bool.and_eq_true] at h
  exact of_decide_eq_true h.1
theorem pMt_hd {F1 F2 : Nat → Nat} {ge : Nat → Int32} : ∀ {n R : Nat} {t : Int64}, pMt F1 F2 ge n R t = true → R % 32 = pHd t
  | 0, _, _, h => by simp [pMt] at h
  | 1, _, _, h => pStep_hd (by rw [pMt] at h; exact h)
  | n + 2, _, _, h => pStep_hd (by rw [pMt] at h; exact h)
/-- a type with valid digits, of at most k of them (31 may stand behind) -/
def pV (nc : Nat) : Nat → Nat → Prop
  | 0, _ => False
  | k + 1, T => 1 ≤ T % 32 ∧ T % 32 ≤ nc ∧ (T / 32 = 0 ∨ T / 32 = 31 ∨ pV nc k (T / 32))
theorem pV_lt {nc : Nat} : ∀ {k T : Nat}, pV nc k T → T < 32 ^ (k + 1)
  | 0, _, h => h.elim
  | k + 1, T, h => by
    have h1 : 0 < 32 ^ k := Nat.pow_pos (by decide)
    have h2 : T / 32 < 32 ^ (k + 1) := by
      rcases h.2.2 with h | h | h
      · rw [h, Nat.pow_succ]; omega
      · rw [h, Nat.pow_succ]; omega
      · exact pV_lt h
    rw [Nat.pow_succ]
    omega
theorem pV_mono {nc : Nat} : ∀ {k T : Nat}, pV nc k T → pV nc (k + 1) T
  | 0, _, h => h.elim
  | k + 1, T, h => ⟨h.1, h.2.1, by
    rcases h.2.2 with h | h | h
    · exact Or.inl h
    · exact Or.inr (Or.inl h)
    · exact Or.inr (Or.inr (pV_mono h))⟩
theorem pV_le {nc k k' T : Nat} (h : pV nc k T) (hk : k ≤ k') : pV nc k' T := by
  induction hk with
  | refl => exact h
  | step _ ih => exact pV_mono ih
def pVt (nc k : Nat) (t : Int64) : Prop := ∃ T, t = lN T ∧ pV nc k T
theorem pV_60 {nc k T : Nat} (h : pV nc k T) (hk : k ≤ 11) : T < 2 ^ 60 := by
  have := pV_lt (pV_le h hk)
  have e : 32 ^ (11 + 1) = 2 ^ 60 := by decide
  omega
theorem pArg_lN {T : Nat} (h : T < 2 ^ 60) : pArg (lN T) = lN (T / 32) := pf_shr (d := 5) (by decide) (by omega)
theorem pVt_hd {nc k : Nat} {t : Int64} (h : pVt nc k t) (hk : k ≤ 11) : 1 ≤ pHd t ∧ pHd t ≤ nc := by
  obtain ⟨T, rfl, hv⟩ := h
  have := pV_60 hv hk
  rw [pHd_lN (by omega)]
  cases k with
  | zero => exact hv.elim
  | succ k => exact ⟨hv.1, hv.2.1⟩
theorem pVt_arg {nc k : Nat} {t : Int64} (h : pVt nc (k + 1) t) (hk : k + 1 ≤ 11) : pArg t = 0 ∨ pArg t = 31 ∨ pVt nc k (pArg t) := by
  obtain ⟨T, rfl, hv⟩ := h
  rw [pArg_lN (pV_60 hv hk)]
  rcases hv.2.2 with h | h | h
  · exact Or.inl (by rw [h]; rfl)
  · exact Or.inr (Or.inl (by rw [h]; rfl))
  · exact Or.inr (Or.inr ⟨_, rfl, h⟩)
theorem pVt_bec {nc k P : Nat} {t : Int64} {ge : Nat → Int32} (h : pVt nc k t) (h2 : 2 ≤ k) (hk : k ≤ 10) (hP : pV nc 3 P) (hp : pPar P) : pVt nc (k + 1) (pBec ge P t) := by
  obtain ⟨T, rfl, hv⟩ := h
  cases k with
  | zero => exact hv.elim
  | succ k =>
    have hT := pV_60 hv (by omega)
    have hT2 := pV_lt (pV_le hv (show k + 1 ≤ 10 by omega))
    have e55 : 32 ^ (10 + 1) = 2 ^ 55 := by decide
    rw [e55] at hT2
    unfold pBec
    rw [pArg_lN hT]
    have hPh : 1 ≤ P % 32 ∧ P % 32 ≤ nc := ⟨hP.1, hP.2.1⟩
    split
    · refine ⟨P % 32, rfl, ?_⟩
      exact ⟨by omega, by omega, Or.inl (by omega)⟩
    · split
      · rename_i h31
        refine ⟨P % 32 + 32 * (T / 32), ?_, ?_⟩
        · rw [pu_lshl (s := 5) (by decide) (by decide) (by omega), lN_add, Nat.mul_comm]
        · refine ⟨by omega, by omega, ?_⟩
          rw [show (P % 32 + 32 * (T / 32)) / 32 = T / 32 by omega]
          rcases hv.2.2 with h | h | h
          · exact Or.inl h
          · exact Or.inr (Or.inl h)
          · exact Or.inr (Or.inr (pV_mono h))
      · split
        · rename_i h31 h32
          refine ⟨P % 1024 + 1024 * (T / 32), ?_, ?_⟩
          · rw [pu_lshl (s := 10) (by decide) (by decide) (by omega), lN_add, Nat.mul_comm]
          · refine ⟨by omega, by omega, ?_⟩
            rw [show (P % 1024 + 1024 * (T / 32)) / 32 = P / 32 % 32 + 32 * (T / 32) by omega]
            have hP2 : pV nc 2 (P / 32) := by
              rcases hP.2.2 with h | h | h
              · omega
              · omega
              · exact h
            have hQ : 1 ≤ P / 32 % 32 ∧ P / 32 % 32 ≤ nc := ⟨hP2.1, hP2.2.1⟩
            refine Or.inr (Or.inr ⟨by omega, by omega, ?_⟩)
            rw [show (P / 32 % 32 + 32 * (T / 32)) / 32 = T / 32 by omega]
            exact hv.2.2
        · exact ⟨P, rfl, pV_le hP (by omega)⟩
theorem pVt_le {nc k k' : Nat} {t : Int64} (h : pVt nc k t) (hk : k ≤ k') : pVt nc k' t := by
  obtain ⟨T, e, hv⟩ := h
  exact ⟨T, e, pV_le hv hk⟩
theorem pu_tb {N i : Nat} (hN : N < 2 ^ 31) (hi : i < 32) : (((nI N >>> (nI i &&& 31)) &&& 1) = 0) ↔ N.testBit i = false := by
  have hs : ((nI i &&& 31).toBitVec.smod 32).toNat = i := by
    have : ∀ i, i < 32 → ((nI i &&& 31).toBitVec.smod 32).toNat = i := by decide +kernel
    exact this i (by omega)
  rw [pk_shrN (by omega) _ i hs, show (1 : Int32) = nI 1 by decide, show nI (N / 2 ^ i) &&& nI 1 = nI (N / 2 ^ i % 2) from pk_andN (by have : N / 2 ^ i ≤ N := Nat.div_le_self _ _; omega) 1 (by decide), pu_eq0 (by omega), Nat.testBit_eq_decide_div_mod_eq]
  simp
/-- the classes' rows: parents are valid types, heads above are bits -/
def pTop (nc : Nat) (F1 F2 H : Nat → Nat) : Prop := ∀ h, 1 ≤ h → h ≤ nc → (F1 h = 0 ∨ pV nc 3 (F1 h)) ∧ (F2 h = 0 ∨ pV nc 3 (F2 h)) ∧ (H h).testBit h = true ∧ (H h).testBit 1 = true ∧ (¬ F1 h = 0 → ∀ i, (H (F1 h % 32)).testBit i = true → (H h).testBit i = true) ∧ (¬ F2 h = 0 → ∀ i, (H (F2 h % 32)).testBit i = true → (H h).testBit i = true)
def cH (σ : mm_S) (H : Nat → Nat) : Prop := ∀ h, h < 32 → σ.1 11 h = nI (H h) ∧ H h < 2 ^ 31
theorem pTr_no {nc : Nat} {F1 F2 H lv : Nat → Nat} {ge : Nat → Int32} (hT : pTop nc F1 F2 H) (hn : nc < 32) (hR : pRow F1 F2 lv) {q : Int64 → Bool} {r : Nat} (hq : ∀ t, q t = true → r = pHd t) : ∀ (l : Nat) (t : Int64), 1 ≤ pHd t → pHd t ≤ nc → (H (pHd t)).testBit r = false → pTr F1 F2 ge q l t = false
  | 0, _, _, _, _ => rfl
  | l + 1, t, h1, h2, hb => by
    obtain ⟨v1, v2, b0, b1, u1, u2⟩ := hT (pHd t) h1 h2
    obtain ⟨p1, p2, -⟩ := hR (pHd t) (by omega)
    have e0 : q t = false := by
      rw [Bool.eq_false_iff]
      intro h
      rw [hq t h, b0] at hb
      cases hb
    have par : ∀ P, pPar P → pV nc 3 P → (∀ i, (H (P % 32)).testBit i = true → (H (pHd t)).testBit i = true) → pTr F1 F2 ge q l (pBec ge P t) = false := by
      intro P hP hv hu
      refine pTr_no hT hn hR hq l _ ?_ ?_ ?_
      · rw [pHd_bec hP.1]; exact hv.1
      · rw [pHd_bec hP.1]; exact hv.2.1
      · rw [pHd_bec hP.1, Bool.eq_false_iff]
        intro h
        rw [hu _ h] at hb
        cases hb
    have e1 : (!decide (F1 (pHd t) = 0) && pTr F1 F2 ge q l (pBec ge (F1 (pHd t)) t)) = false := by
      by_cases z : F1 (pHd t) = 0
      · simp [z]
      · rw [par _ p1 (v1.resolve_left z) (u1 z), Bool.and_false]
    have e2 : (!decide (F2 (pHd t) = 0) && pTr F1 F2 ge q l (pBec ge (F2 (pHd t)) t)) = false := by
      by_cases z : F2 (pHd t) = 0
      · simp [z]
      · rw [par _ p2 (v2.resolve_left z) (u2 z), Bool.and_false]
    rw [pTr, e0, e1, e2]
    rfl
set_option maxHeartbeats 1000000 in
theorem c_isMet_st {σ : mm_S} {R T dep : Nat} (hR : R < 2 ^ 31) (hT : T < 2 ^ 60) (hd : dep ≤ 40) {S M : Nat → Int64 → Bool} (d : Nat)
    (hS : ¬ R / 32 = 0 → ¬ pArg (lN T) = 0 → ¬ pArg (lN T) = 31 → R / 32 % 32 = 29 → cG d 34 [.ref 1, .long (lN (R / 1024)), .long (pArg (lN T)), .int (nI (dep + 1))] σ = some (pb (S (R / 1024) (pArg (lN T))), 0, σ))
    (hM : ¬ R / 32 = 0 → ¬ pArg (lN T) = 0 → ¬ pArg (lN T) = 31 → ¬ R / 32 = 30 → ¬ R / 32 % 32 = 29 → cG d 35 [.ref 1, .long (lN (R / 32)), .long (pArg (lN T)), .int (nI (dep + 1))] σ = some (pb (M (R / 32) (pArg (lN T))), 0, σ)) :
    cG (d + 1) 35 [.ref 1, .long (lN R), .long (lN T), .int (nI dep)] σ = some (pb (pStep S M R (lN T)), 0, σ) := by
  have e1 : lN R >>> (((5 : Int32)).toInt64 &&& 63) = lN (R / 32) := pf_shr (d := 5) (by decide) (by omega)
  have e2 : lN (R / 32) >>> (((5 : Int32)).toInt64 &&& 63) = lN (R / 1024) := by
    rw [pf_shr (d := 5) (by decide) (by omega), show R / 32 / 2 ^ 5 = R / 1024 by omega]
  have e3 : lN T >>> (((5 : Int32)).toInt64 &&& 63) = pArg (lN T) := rfl
  have q1 : (lN (R % 32) = lN (T % 32)) ↔ R % 32 = pHd (lN T) := by
    rw [pHd_lN (by omega)]
    exact pk_lEQ (by omega) (by omega)
  have q2 : (lN (R / 32) = 0) ↔ R / 32 = 0 := pk_lEQ (b := 0) (by omega) (by decide)
  have q3 : (lN (R / 32) = 1) ↔ R / 32 = 1 := pk_lEQ (b := 1) (by omega) (by decide)
  have q4 : (lN (R / 32) = 30) ↔ R / 32 = 30 := pk_lEQ (b := 30) (by omega) (by decide)
  have q5 : (lN (R / 32 % 32) = 29) ↔ R / 32 % 32 = 29 := pk_lEQ (b := 29) (by omega) (by decide)
  rw [cp_35_g, if_neg (show ¬ (40 : Int32) < nI dep from (nI_nlt (by omega) (by decide) : ¬ nI 40 < nI dep)), e1, e2, e3, pu_land5 (show R < 2 ^ 64 by omega), pu_land5 (show T < 2 ^ 64 by omega), pu_land5 (show R / 32 < 2 ^ 64 by omega), nI_1]
  simp only [pu_cmp, q1, q2, q3, q4, q5]
  unfold pStep
  by_cases h1 : R % 32 = pHd (lN T)
  · rw [if_pos h1]
    simp only [h1, decide_true, Bool.true_and]
    by_cases h2 : R / 32 = 0
    · rw [if_pos h2, if_pos h2]
      by_cases a0 : pArg (lN T) = 0
      · simp [a0, pb]
      · by_cases a1 : pArg (lN T) = 31
        · simp [a1, pb]
        · by_cases a2 : pArg (lN T) = 1
          · simp [a2, pb]
          · simp [a0, a1, a2, pb]
    · rw [if_neg h2, if_neg h2]
      by_cases a0 : pArg (lN T) = 0
      · rw [if_pos a0, if_pos a0]
        by_cases h3 : R / 32 = 1 <;> simp [h3, pb]
      · rw [if_neg a0, if_neg a0]
        by_cases a1 : pArg (lN T) = 31
        · rw [if_pos a1, if_pos (Or.inl a1)]
          rfl
        · rw [if_neg a1]
          by_cases h4 : R / 32 = 30
          · rw [if_pos h4, if_pos (Or.inr h4)]
            rfl
          · rw [if_neg h4, if_neg (show ¬ (pArg (lN T) = 31 ∨ R / 32 = 30) from fun h => h.elim a1 h4)]
            by_cases h5 : R / 32 % 32 = 29
            · rw [if_pos h5, if_pos h5, hS h2 a0 a1 h5]
              simp only [Option.bind_some]
              rw [if_pos (pb_01 _)]
            · rw [if_neg h5, if_neg h5, hM h2 a0 a1 h4 h5]
              simp only [Option.bind_some]
              rw [if_pos (pb_01 _)]
  · rw [if_neg h1]
    simp [h1, pb]
/-- how long a type may be, where n digits are asked for -/
def pBd (n : Nat) : Nat := 13 - n - 2 * (n % 2)
theorem pBd6 : ∀ n, n ≤ 6 → 6 ≤ pBd n := by decide
theorem pTA_ge1 {nc : Nat} {ge : Nat → Int32} {w v : Bool} : ∀ {n R : Nat}, (pTA nc ge w v n).1 R = true → ∃ m, n = m + 1 ∧ 1 ≤ R % 32 ∧ R % 32 ≤ nc ∧ (R / 32 = 0 ∨ (¬ ge (R % 32) = 0 ∧ (pTA nc ge w v m).2 (R / 32) = true))
  | 0, _, h => by simp [pTA] at h
  | m + 1, R, h => by
    simp only [pTA, Bool.and_eq_true, Bool.or_eq_true, decide_eq_true_eq, Bool.not_eq_true', decide_eq_false_iff_not] at h
    exact ⟨m, rfl, h.1.1, h.1.2, h.2⟩
theorem pTA_arg {nc : Nat} {ge : Nat → Int32} {m r : Nat} (hn : nc < 29) (h : (pTA nc ge true false m).2 r = true) : ∃ j, m = j + 1 ∧ (r = 30 ∨ (r % 32 = 29 ∧ (pTA nc ge true false j).1 (r / 32) = true) ∨ (¬ r % 32 = 29 ∧ (pTA nc ge true false m).1 r = true)) := by
  cases m with
  | zero => simp [pTA] at h
  | succ j =>
    refine ⟨j, rfl, ?_⟩
    simp only [pTA] at h
    by_cases h31 : r % 32 = 31
    · rw [if_pos h31] at h
      simp at h
    · rw [if_neg h31] at h
      by_cases h30 : r % 32 = 30
      · rw [if_pos h30] at h
        simp at h
        exact Or.inl h
      · rw [if_neg h30] at h
        by_cases h29 : r % 32 = 29
        · rw [if_pos h29] at h
          simp at h
          exact Or.inr (Or.inl ⟨h29, h⟩)
        · rw [if_neg h29] at h
          exact Or.inr (Or.inr ⟨h29, by simp only [pTA]; exact h⟩)
/-- class 1 (ROOT) is the only valid type that begins with it -/
theorem pTA_root {nc : Nat} {ge : Nat → Int32} {w v : Bool} {n R : Nat} (hg : ge 1 = 0) (h : (pTA nc ge w v n).1 R = true) (h1 : R % 32 = 1) : R = 1 := by
  obtain ⟨m, -, -, -, h2⟩ := pTA_ge1 h
  rw [h1] at h2
  rcases h2 with h2 | h2
  · omega
  · exact absurd hg h2.1
theorem pMt_root {F1 F2 : Nat → Nat} {ge : Nat → Int32} : ∀ {n : Nat}, 1 ≤ n → pMt F1 F2 ge n 1 1 = true
  | 0, h => by omega
  | 1, _ => by rw [pMt]; decide
  | n + 2, _ => by
    rw [pMt, pStep]
    simp only [show (1 : Nat) / 32 = 0 by decide, if_true, show pHd 1 = 1 by decide, show pArg 1 = 0 by decide]
    decide
set_option maxHeartbeats 4000000 in
theorem c_met {σ : mm_S} {nc : Nat} {F1 F2 H lv : Nat → Nat} (hn : nc ≤ 13) (hR : pRow F1 F2 lv) (hC : cR σ F1 F2) (hT : pTop nc F1 F2 H) (hH : cH σ H) (hg : σ.1 6 1 = 0) : ∀ n, n ≤ 6 →
    (∀ R t dep d, R < 2 ^ 31 → (pTA nc (σ.1 6) true false n).1 R = true → pVt nc (pBd n) t → dep + 5 * n ≤ 40 → cG (d + 5 * n + 1) 35 [.ref 1, .long (lN R), .long t, .int (nI dep)] σ = some (pb (pMt F1 F2 (σ.1 6) n R t), 0, σ)) ∧
    (∀ l R t dep d, l ≤ 3 → R < 2 ^ 31 → (pTA nc (σ.1 6) true false n).1 R = true → lv (pHd t) ≤ l → pVt nc (pBd n - l) t → dep + 5 * n + l + 1 ≤ 40 → cG (d + 5 * n + l + 3) 34 [.ref 1, .long (lN R), .long t, .int (nI dep)] σ = some (pb (pTr F1 F2 (σ.1 6) (pMt F1 F2 (σ.1 6) n R) (l + 1) t || pMt F1 F2 (σ.1 6) n R 1), 0, σ)) := by
  intro n
  induction n using Nat.strongRecOn with
  | ind n ih =>
    intro hn6
    have A : ∀ R t dep d, R < 2 ^ 31 → (pTA nc (σ.1 6) true false n).1 R = true → pVt nc (pBd n) t → dep + 5 * n ≤ 40 → cG (d + 5 * n + 1) 35 [.ref 1, .long (lN R), .long t, .int (nI dep)] σ = some (pb (pMt F1 F2 (σ.1 6) n R t), 0, σ) := by
      intro R t dep d hR31 hv ht hdep
      obtain ⟨m, rfl, r1, r2, r3⟩ := pTA_ge1 hv
      have hB : pBd (m + 1) ≤ 11 := by unfold pBd; omega
      have hB1 : 1 ≤ pBd (m + 1) := by unfold pBd; omega
      obtain ⟨T, rfl, hV⟩ := ht
      have hT60 := pV_60 hV hB
      have hdep40 : dep ≤ 40 := by omega
      cases m with
      | zero =>
        have r0 : R / 32 = 0 := by
          rcases r3 with h | h
          · exact h
          · have := h.2
            simp [pTA] at this
        rw [pMt]
        exact c_isMet_st hR31 hT60 hdep40 _ (fun h => absurd r0 h) (fun h => absurd r0 h)
      | succ m =>
        rw [pMt]
        refine c_isMet_st hR31 hT60 hdep40 _ (fun h0 a0 a1 h29 => ?_) (fun h0 a0 a1 h30 h29 => ?_)
        · obtain ⟨j, hj, h⟩ := pTA_arg (by omega) (r3.resolve_left h0).2
          have hj2 : m = j := by omega
          subst hj2
          have h' := (h.resolve_left (by omega)).resolve_right (fun z => z.1 h29)
          have hj1 : 1 ≤ m := by
            obtain ⟨q, hq, -⟩ := pTA_ge1 h'.2
            omega
          have va : pVt nc (pBd (m + 1 + 1) - 1) (pArg (lN T)) := by
            have := pVt_arg (k := pBd (m + 1 + 1) - 1) (t := lN T) ⟨T, rfl, by rw [show pBd (m + 1 + 1) - 1 + 1 = pBd (m + 1 + 1) by omega]; exact hV⟩ (by omega)
            exact (this.resolve_left a0).resolve_left a1
          have hd := pVt_hd va (by omega)
          have := (ih m (by omega) (by omega)).2 3 (R / 32 / 32) (pArg (lN T)) (dep + 1) (d + 4) (by omega) (by omega) h'.2 (hR _ (by omega)).2.2.1 (pVt_le va (by unfold pBd; omega)) (by omega)
          rw [show R / 32 / 32 = R / 1024 by omega, show d + 4 + 5 * m + 3 + 3 = d + 5 * (m + 1 + 1) by omega] at this
          exact this
        · obtain ⟨j, hj, h⟩ := pTA_arg (by omega) (r3.resolve_left h0).2
          have h' := (h.resolve_left h30).resolve_left (fun z => h29 z.1)
          have va : pVt nc (pBd (m + 1 + 1) - 1) (pArg (lN T)) := by
            have := pVt_arg (k := pBd (m + 1 + 1) - 1) (t := lN T) ⟨T, rfl, by rw [show pBd (m + 1 + 1) - 1 + 1 = pBd (m + 1 + 1) by omega]; exact hV⟩ (by omega)
            exact (this.resolve_left a0).resolve_left a1
          have := (ih (m + 1) (by omega) (by omega)).1 (R / 32) (pArg (lN T)) (dep + 1) (d + 4) (by omega) h'.2 (pVt_le va (by unfold pBd; omega)) (by omega)
          rw [show d + 4 + 5 * (m + 1) + 1 = d + 5 * (m + 1 + 1) by omega] at this
          exact this
    have B : ∀ l R t dep d, l ≤ 3 → R < 2 ^ 31 → (pTA nc (σ.1 6) true false n).1 R = true → lv (pHd t) ≤ l → pVt nc (pBd n - l) t → dep + 5 * n + l + 1 ≤ 40 →
        (∀ P, pPar P → pV nc 3 P → lv (P % 32) < lv (pHd t) → cG (d + 5 * n + l + 2) 34 [.ref 1, .long (lN R), .long (pBec (σ.1 6) P t), .int (nI (dep + 1))] σ = some (pb (pTr F1 F2 (σ.1 6) (pMt F1 F2 (σ.1 6) n R) l (pBec (σ.1 6) P t) || pMt F1 F2 (σ.1 6) n R 1), 0, σ)) →
        cG (d + 5 * n + l + 3) 34 [.ref 1, .long (lN R), .long t, .int (nI dep)] σ = some (pb (pTr F1 F2 (σ.1 6) (pMt F1 F2 (σ.1 6) n R) (l + 1) t || pMt F1 F2 (σ.1 6) n R 1), 0, σ) := by
      intro l R t dep d hl hR31 hv hlv ht hdep hrec
      obtain ⟨m, hm, r1, r2, -⟩ := pTA_ge1 hv
      have hB11 : pBd n ≤ 11 := by unfold pBd; omega
      have hd := pHd_eq t
      have hc := pVt_hd ht (by omega)
      have h32 := pu_T hd.2 (by decide)
      have e32 := pu_cl hd.2 (by decide)
      have eR : (lN R &&& 31).toInt32 = nI (R % 32) := by rw [pu_land5 (by omega), lN_i]
      obtain ⟨c1, c2⟩ := hC (pHd t) hd.2
      obtain ⟨p1, p2, l3, q1, q2⟩ := hR (pHd t) hd.2
      obtain ⟨v1, v2, b0, b1, u1, u2⟩ := hT (pHd t) hc.1 hc.2
      have f1 : (nI (F1 (pHd t)) = 0) ↔ F1 (pHd t) = 0 := pu_eq0 (by have := p1.1; omega)
      have f2 : (nI (F2 (pHd t)) = 0) ↔ F2 (pHd t) = 0 := pu_eq0 (by have := p2.1; omega)
      have g1 : (nI (R % 32) = 1) ↔ R % 32 = 1 := nI_eq (b := 1) (by omega) (by decide)
      rw [show d + 5 * n + l + 3 = (d + 5 * n + l + 2) + 1 by omega, cp_34_g, if_neg (show ¬ (40 : Int32) < nI dep from (nI_nlt (by omega) (by decide) : ¬ nI 40 < nI dep)), eR, hd.1, nI_1]
      simp only [h32, if_true, e32, (hH _ hd.2).1, pu_tb (hH _ hd.2).2 (show R % 32 < 32 by omega), c1, f1, g1]
      have hq : ∀ s, pMt F1 F2 (σ.1 6) n R s = true → R % 32 = pHd s := fun s h => pMt_hd h
      by_cases hb : (H (pHd t)).testBit (R % 32) = false
      · rw [if_pos hb, pTr_no hT (by omega) hR hq (l + 1) t hc.1 hc.2 hb]
        have : pMt F1 F2 (σ.1 6) n R 1 = false := by
          rw [Bool.eq_false_iff]
          intro h
          rw [hq _ h, show pHd 1 = 1 by decide, b1] at hb
          cases hb
        rw [this]
        rfl
      · rw [if_neg hb]
        by_cases h1 : R % 32 = 1
        · rw [if_pos h1]
          have hR1 := pTA_root hg hv h1
          subst hR1
          rw [pMt_root (by omega), Bool.or_true]
          rfl
        · rw [if_neg h1, show d + 5 * n + l + 2 = (d + l + 1) + 5 * n + 1 by omega, A R t (dep + 1) (d + l + 1) hR31 hv (pVt_le ht (by omega)) (by omega)]
          have n1 : pMt F1 F2 (σ.1 6) n R 1 = false := by
            rw [Bool.eq_false_iff]
            intro h
            exact h1 ((hq _ h).trans (by decide))
          have rec1 := hrec (F1 (pHd t)) p1
          have rec2 := hrec (F2 (pHd t)) p2
          rw [show d + 5 * n + l + 2 = (d + l + 1) + 5 * n + 1 by omega, n1, Bool.or_false] at rec1 rec2
          rw [n1, Bool.or_false]
          simp only [Option.bind_some, pb_if, pTr, c1, f1]
          cases hM : pMt F1 F2 (σ.1 6) n R t with
          | true => simp [pb]
          | false =>
            simp only [Bool.false_or, Bool.false_eq_true, if_false]
            have two : ∀ c, mm_ex sc (cG (d + l + 1 + 5 * n + 1)) 3 cp_34_l (99999940 + c + 2) cp_34_r5 [.ref 1, .long (lN R), .null, .long t, .null, .int (nI dep), .int (nI (pHd t)), .int (nI (R % 32))] [] σ = some (pb (!decide (F2 (pHd t) = 0) && pTr F1 F2 (σ.1 6) (pMt F1 F2 (σ.1 6) n R) l (pBec (σ.1 6) (F2 (pHd t)) t)), 0, σ) := by
              intro c
              rw [show 99999940 + c + 2 = (99999920 + c) + 22 by omega, cp_34_h5, nI_1]
              simp only [h32, if_true, e32, c2, f2]
              by_cases z : F2 (pHd t) = 0
              · rw [if_pos z]
                simp [z, pb]
              · rw [if_neg z, c_become p2]
                simp only [Option.bind_some]
                rw [rec2 (v2.resolve_left z) (q2.resolve_left z)]
                simp only [Option.bind_some, pb_if]
                cases pTr F1 F2 (σ.1 6) (pMt F1 F2 (σ.1 6) n R) l (pBec (σ.1 6) (F2 (pHd t)) t) <;> simp [z, pb]
            by_cases z : F1 (pHd t) = 0
            · rw [if_pos z, show 99999946 + 16 = 99999940 + 20 + 2 from rfl, two]
              simp [z]
            · rw [if_neg z, c_become p1]
              simp only [Option.bind_some]
              rw [rec1 (v1.resolve_left z) (q1.resolve_left z)]
              simp only [Option.bind_some, pb_if]
              cases pTr F1 F2 (σ.1 6) (pMt F1 F2 (σ.1 6) n R) l (pBec (σ.1 6) (F1 (pHd t)) t) with
              | true => simp [z, pb]
              | false =>
                rw [if_neg (by decide), show 99999946 + 2 = 99999940 + 6 + 2 from rfl, two]
                simp
    refine ⟨A, ?_⟩
    intro l
    induction l with
    | zero =>
      intro R t dep d hl hR31 hv hlv ht hdep
      exact B 0 R t dep d hl hR31 hv hlv ht hdep (fun P _ _ h => by omega)
    | succ l ihl =>
      intro R t dep d hl hR31 hv hlv ht hdep
      refine B (l + 1) R t dep d hl hR31 hv hlv ht hdep (fun P hp hv3 h => ?_)
      obtain ⟨m, hm, -⟩ := pTA_ge1 hv
      have hB : pBd n ≤ 11 := by unfold pBd; omega
      have hB6 : 6 ≤ pBd n := pBd6 n hn6
      have := ihl R (pBec (σ.1 6) P t) (dep + 1) d (by omega) hR31 hv (by rw [pHd_bec hp.1]; omega) (by
        have := pVt_bec (ge := σ.1 6) ht (by omega) (by omega) hv3 hp
        rw [show pBd n - (l + 1) + 1 = pBd n - l by omega] at this
        exact this) (by omega)
      rw [show d + 5 * n + (l + 1) + 2 = d + 5 * n + l + 3 by omega]
      exact this
