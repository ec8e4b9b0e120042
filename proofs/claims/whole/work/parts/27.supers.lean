/-! PURE: the row of all supertypes holds just the tree and the ROOT -/
def pIs (s : (Nat → Int64) × Nat) (x : Int64) : Prop := ∃ i, i < s.2 ∧ s.1 i = x
theorem pMemF_iff {a : Nat → Int64} {t : Int64} : ∀ {r k : Nat}, pMemF a t r k = true ↔ ∃ i, k ≤ i ∧ i < k + r ∧ a i = t
  | 0, k => by
    simp only [pMemF, Bool.false_eq_true, false_iff]
    rintro ⟨i, h1, h2, -⟩
    omega
  | r + 1, k => by
    simp only [pMemF, Bool.or_eq_true, decide_eq_true_eq, pMemF_iff (r := r) (k := k + 1)]
    constructor
    · rintro (h | ⟨i, h1, h2, h3⟩)
      · exact ⟨k, by omega, by omega, h⟩
      · exact ⟨i, by omega, by omega, h3⟩
    · rintro ⟨i, h1, h2, h3⟩
      by_cases h : i = k
      · subst h; exact Or.inl h3
      · exact Or.inr ⟨i, by omega, by omega, h3⟩
theorem pNt_is {s : (Nat → Int64) × Nat} {t x : Int64} : pIs (pNt s t) x ↔ pIs s x ∨ x = t := by
  unfold pNt
  split
  · rename_i h
    constructor
    · exact Or.inl
    · rintro (h1 | h1)
      · exact h1
      · obtain ⟨i, -, h2, h3⟩ := pMemF_iff.mp h
        exact ⟨i, by omega, h3.trans h1.symm⟩
  · constructor
    · rintro ⟨i, hi, h⟩
      have hi2 : i < s.2 + 1 := hi
      by_cases e : i = s.2
      · right
        rw [← h]
        show pUp s.1 s.2 t i = t
        unfold pUp
        rw [if_pos e]
      · left
        refine ⟨i, by omega, ?_⟩
        rw [← h]
        show s.1 i = pUp s.1 s.2 t i
        unfold pUp
        rw [if_neg e]
    · rintro (⟨i, hi, h⟩ | h)
      · refine ⟨i, Nat.lt_succ_of_lt hi, ?_⟩
        show pUp s.1 s.2 t i = x
        unfold pUp
        rw [if_neg (by omega), h]
      · refine ⟨s.2, Nat.lt_succ_self _, ?_⟩
        show pUp s.1 s.2 t s.2 = x
        unfold pUp
        rw [if_pos rfl, h]
theorem pNt_keep {s : (Nat → Int64) × Nat} {t : Int64} : s.2 ≤ (pNt s t).2 ∧ ∀ i, i < s.2 → (pNt s t).1 i = s.1 i := by
  unfold pNt
  split
  · exact ⟨Nat.le_refl _, fun _ _ => rfl⟩
  · refine ⟨Nat.le_succ _, fun i hi => ?_⟩
    show pUp s.1 s.2 t i = s.1 i
    unfold pUp
    rw [if_neg (by omega)]
theorem pSt_is {F1 F2 : Nat → Nat} {ge : Nat → Int32} {s : (Nat → Int64) × Nat} {t x : Int64} : pIs (pSt F1 F2 ge t s) x ↔ pIs s x ∨ (¬ F1 (pHd t) = 0 ∧ x = pBec ge (F1 (pHd t)) t) ∨ (¬ F2 (pHd t) = 0 ∧ x = pBec ge (F2 (pHd t)) t) := by
  unfold pSt
  by_cases h1 : F1 (pHd t) = 0 <;> by_cases h2 : F2 (pHd t) = 0
  · simp [h1, h2]
  · simp [h1, h2, pNt_is]
  · simp [h1, h2, pNt_is]
  · simp [h1, h2, pNt_is, or_assoc]
theorem pSt_keep {F1 F2 : Nat → Nat} {ge : Nat → Int32} {s : (Nat → Int64) × Nat} {t : Int64} : s.2 ≤ (pSt F1 F2 ge t s).2 ∧ ∀ i, i < s.2 → (pSt F1 F2 ge t s).1 i = s.1 i := by
  have a := pNt_keep (s := s) (t := pBec ge (F1 (pHd t)) t)
  unfold pSt
  by_cases h1 : F1 (pHd t) = 0 <;> by_cases h2 : F2 (pHd t) = 0
  · simp [h1, h2]
  · rw [if_neg h2, if_pos h1]; exact pNt_keep
  · rw [if_pos h2, if_neg h1]; exact a
  · rw [if_neg h2, if_neg h1]
    have b := pNt_keep (s := pNt s (pBec ge (F1 (pHd t)) t)) (t := pBec ge (F2 (pHd t)) t)
    exact ⟨Nat.le_trans a.1 b.1, fun i hi => (b.2 i (by have := a.1; omega)).trans (a.2 i hi)⟩
/-- a row that holds the parents of those before k -/
def pCd (F1 F2 : Nat → Nat) (ge : Nat → Int32) (s : (Nat → Int64) × Nat) (k : Nat) : Prop := ∀ i, i < k → i < s.2 → (¬ F1 (pHd (s.1 i)) = 0 → pIs s (pBec ge (F1 (pHd (s.1 i))) (s.1 i))) ∧ (¬ F2 (pHd (s.1 i)) = 0 → pIs s (pBec ge (F2 (pHd (s.1 i))) (s.1 i)))
theorem pCl_fin {F1 F2 lv : Nat → Nat} {ge : Nat → Int32} (hR : pRow F1 F2 lv) (Q : Int64 → Prop) (hQ : ∀ x, Q x → (¬ F1 (pHd x) = 0 → Q (pBec ge (F1 (pHd x)) x)) ∧ (¬ F2 (pHd x) = 0 → Q (pBec ge (F2 (pHd x)) x))) : ∀ (r k : Nat) (s : (Nat → Int64) × Nat), 16 ≤ k + r → pIn lv s k 16 → pCd F1 F2 ge s k → (∀ x, pIs s x → Q x) →
    pCd F1 F2 ge (pCl F1 F2 ge r k s) (pCl F1 F2 ge r k s).2 ∧ (∀ x, pIs s x → pIs (pCl F1 F2 ge r k s) x) ∧ (∀ x, pIs (pCl F1 F2 ge r k s) x → Q x) ∧ (pCl F1 F2 ge r k s).2 ≤ 16
  | 0, k, s, hk, hI, hc, hq => by
    have h1 := hI.1
    have h2 := hI.2
    rw [pCl]
    exact ⟨fun i hi => hc i (by omega), fun _ h => h, hq, by omega⟩
  | r + 1, k, s, hk, hI, hc, hq => by
    have h2 := hI.2
    rw [pCl]
    split
    · exact ⟨fun i hi => hc i (by omega), fun _ h => h, hq, by omega⟩
    · rename_i hle
      obtain ⟨g0, g1, -, -⟩ := pIn_st hR (ge := ge) (show k < s.2 by omega) hI
      obtain ⟨z1, z2⟩ := pSt_keep (F1 := F1) (F2 := F2) (ge := ge) (s := s) (t := s.1 k)
      have up : ∀ x, pIs s x → pIs (pSt F1 F2 ge (s.1 k) s) x := fun x h => pSt_is.mpr (Or.inl h)
      obtain ⟨r1, r2, r3, r4⟩ := pCl_fin hR Q hQ r (k + 1) (pSt F1 F2 ge (s.1 k) s) (by omega) g1 (by
        intro i hi hi2
        have hik : i < s.2 := by omega
        rw [z2 i hik]
        by_cases e : i = k
        · subst e
          exact ⟨fun h => pSt_is.mpr (Or.inr (Or.inl ⟨h, rfl⟩)), fun h => pSt_is.mpr (Or.inr (Or.inr ⟨h, rfl⟩))⟩
        · have := hc i (by omega) hik
          exact ⟨fun h => up _ (this.1 h), fun h => up _ (this.2 h)⟩) (by
        intro x hx
        have hk2 := hQ _ (hq (s.1 k) ⟨k, by omega, rfl⟩)
        rcases pSt_is.mp hx with h | h | h
        · exact hq x h
        · rw [h.2]; exact hk2.1 h.1
        · rw [h.2]; exact hk2.2 h.1)
      exact ⟨r1, fun x h => r2 x (up x h), r3, r4⟩
theorem pTr_stab {F1 F2 lv : Nat → Nat} {ge : Nat → Int32} (hR : pRow F1 F2 lv) {q : Int64 → Bool} : ∀ (l : Nat) (t : Int64), lv (pHd t) < l → pTr F1 F2 ge q (l + 1) t = pTr F1 F2 ge q l t
  | 0, _, h => by omega
  | l + 1, t, h => by
    obtain ⟨p1, p2, -, q1, q2⟩ := hR (pHd t) (pHd_eq t).2
    have par : ∀ P, pPar P → lv (P % 32) < lv (pHd t) → pTr F1 F2 ge q (l + 1) (pBec ge P t) = pTr F1 F2 ge q l (pBec ge P t) := fun P hP hl => pTr_stab hR l _ (by rw [pHd_bec hP.1]; omega)
    have e1 : (!decide (F1 (pHd t) = 0) && pTr F1 F2 ge q (l + 1) (pBec ge (F1 (pHd t)) t)) = (!decide (F1 (pHd t) = 0) && pTr F1 F2 ge q l (pBec ge (F1 (pHd t)) t)) := by
      by_cases z : F1 (pHd t) = 0
      · simp [z]
      · rw [par _ p1 (q1.resolve_left z)]
    have e2 : (!decide (F2 (pHd t) = 0) && pTr F1 F2 ge q (l + 1) (pBec ge (F2 (pHd t)) t)) = (!decide (F2 (pHd t) = 0) && pTr F1 F2 ge q l (pBec ge (F2 (pHd t)) t)) := by
      by_cases z : F2 (pHd t) = 0
      · simp [z]
      · rw [par _ p2 (q2.resolve_left z)]
    rw [pTr, e1, e2, pTr]
theorem pSup_any {F1 F2 lv : Nat → Nat} {ge : Nat → Int32} (hR : pRow F1 F2 lv) (h1 : lv 1 = 0) (a : Nat → Int64) (t : Int64) (q : Int64 → Bool) : ((∃ i, i < (pSup F1 F2 ge a t).2 ∧ q ((pSup F1 F2 ge a t).1 i) = true) ↔ (pTr F1 F2 ge q 4 t || q 1) = true) ∧ (pSup F1 F2 ge a t).2 ≤ 16 := by
  obtain ⟨f1, f2⟩ := pIn_first hR h1 a t
  have hQ : ∀ x, (pTr F1 F2 ge q 4 x = true → (pTr F1 F2 ge q 4 t || q 1) = true) → (¬ F1 (pHd x) = 0 → (pTr F1 F2 ge q 4 (pBec ge (F1 (pHd x)) x) = true → (pTr F1 F2 ge q 4 t || q 1) = true)) ∧ (¬ F2 (pHd x) = 0 → (pTr F1 F2 ge q 4 (pBec ge (F2 (pHd x)) x) = true → (pTr F1 F2 ge q 4 t || q 1) = true)) := by
    intro x hx
    obtain ⟨p1, p2, l3, q1, q2⟩ := hR (pHd x) (pHd_eq x).2
    have st : ∀ P, pPar P → lv (P % 32) < lv (pHd x) → pTr F1 F2 ge q 4 (pBec ge P x) = pTr F1 F2 ge q 3 (pBec ge P x) := fun P hP hl => pTr_stab hR 3 _ (by rw [pHd_bec hP.1]; omega)
    refine ⟨fun z hz => hx ?_, fun z hz => hx ?_⟩
    · rw [st _ p1 (q1.resolve_left z)] at hz
      rw [pTr, hz]
      simp [z]
    · rw [st _ p2 (q2.resolve_left z)] at hz
      rw [pTr, hz]
      simp [z]
  have i0 : ∀ x, pIs (pNt (pNt (a, 0) t) 1) x ↔ x = t ∨ x = 1 := by
    intro x
    rw [pNt_is, pNt_is]
    constructor
    · rintro ((⟨i, hi, -⟩ | h) | h)
      · exact absurd hi (Nat.not_lt_zero _)
      · exact Or.inl h
      · exact Or.inr h
    · rintro (h | h)
      · exact Or.inl (Or.inr h)
      · exact Or.inr h
  obtain ⟨r1, r2, r3, r4⟩ := pCl_fin (ge := ge) hR (fun x => pTr F1 F2 ge q 4 x = true → (pTr F1 F2 ge q 4 t || q 1) = true) hQ 16 0 (pNt (pNt (a, 0) t) 1) (by omega) f2 (fun i hi => absurd hi (Nat.not_lt_zero _)) (by
    intro x hx hz
    rcases (i0 x).mp hx with h | h
    · rw [← h, hz]; rfl
    · subst h
      obtain ⟨p1, p2, -, q1, q2⟩ := hR 1 (by decide)
      have z1 : F1 (pHd 1) = 0 := by
        rw [show pHd 1 = 1 by decide]
        exact q1.resolve_right (by omega)
      have z2 : F2 (pHd 1) = 0 := by
        rw [show pHd 1 = 1 by decide]
        exact q2.resolve_right (by omega)
      rw [pTr] at hz
      simp only [z1, z2, decide_true, Bool.not_true, Bool.false_and, Bool.or_false] at hz
      rw [hz, Bool.or_true])
  refine ⟨⟨?_, ?_⟩, r4⟩
  · rintro ⟨i, hi, h⟩
    refine r3 _ ⟨i, hi, rfl⟩ ?_
    rw [pTr]
    have h' : q ((pCl F1 F2 ge 16 0 (pNt (pNt (a, 0) t) 1)).1 i) = true := h
    rw [h']
    rfl
  · have clo : ∀ l x, pIs (pSup F1 F2 ge a t) x → pTr F1 F2 ge q l x = true → ∃ i, i < (pSup F1 F2 ge a t).2 ∧ q ((pSup F1 F2 ge a t).1 i) = true := by
      intro l
      induction l with
      | zero => intro x _ h; simp [pTr] at h
      | succ l ih =>
        rintro x ⟨i, hi, rfl⟩ h
        have hp := r1 i hi hi
        rw [pTr] at h
        simp only [Bool.or_eq_true, Bool.and_eq_true, Bool.not_eq_true', decide_eq_false_iff_not] at h
        rcases h with h | h | h
        · exact ⟨i, hi, h⟩
        · exact ih _ (hp.1 h.1) h.2
        · exact ih _ (hp.2 h.1) h.2
    intro h
    rw [Bool.or_eq_true] at h
    rcases h with h | h
    · exact clo 4 t (r2 t ((i0 t).mpr (Or.inl rfl))) h
    · obtain ⟨i, hi, e⟩ := r2 1 ((i0 1).mpr (Or.inr rfl))
      exact ⟨i, hi, by rw [show (pSup F1 F2 ge a t).1 i = 1 from e]; exact h⟩
