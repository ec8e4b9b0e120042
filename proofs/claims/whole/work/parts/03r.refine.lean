/-! more known locals change no answer: a loop is proved with its own locals known, and met with more -/
def mm_rf : List Value → List Value → Prop
  | [], [] => True
  | v :: vs, w :: ws => (v = .null ∨ v = w) ∧ mm_rf vs ws
  | _, _ => False
theorem mm_rf_iff : ∀ {L L' : List Value}, mm_rf L L' ↔ (L.length = L'.length ∧ ∀ (i : Nat) (v : Value), L[i]? = some v → v = .null ∨ L'[i]? = some v)
  | [], [] => by simp [mm_rf]
  | [], w :: ws => by simp [mm_rf]
  | v :: vs, [] => by simp [mm_rf]
  | v :: vs, w :: ws => by
    simp only [mm_rf, mm_rf_iff (L := vs) (L' := ws), List.length_cons]
    constructor
    · rintro ⟨h1, h2, h3⟩
      refine ⟨by omega, fun i u hi => ?_⟩
      cases i with
      | zero =>
        simp at hi
        subst hi
        rcases h1 with h | h
        · exact Or.inl h
        · exact Or.inr (by simp [h])
      | succ i => simp at hi; simpa using h3 i u hi
    · rintro ⟨h1, h2⟩
      refine ⟨?_, by omega, fun i u hi => ?_⟩
      · rcases h2 0 v (by simp) with h | h
        · exact Or.inl h
        · exact Or.inr (by simpa using h.symm)
      · simpa using h2 (i + 1) u (by simpa using hi)
theorem mm_rf_at {L L' : List Value} (h : mm_rf L L') {i : Nat} {v : Value} (hv : L[i]? = some v) (hn : v ≠ .null) : L'[i]? = some v := ((mm_rf_iff.mp h).2 i v hv).resolve_left hn
theorem mm_rf_set {L L' : List Value} (h : mm_rf L L') (i : Nat) (v : Value) : mm_rf (L.set i v) (L'.set i v) := by
  obtain ⟨h1, h2⟩ := mm_rf_iff.mp h
  refine mm_rf_iff.mpr ⟨by simp [h1], fun j u hj => ?_⟩
  by_cases hij : j = i
  · subst hij
    have hl : j < L.length := by have := (List.getElem?_eq_some_iff.mp hj).1; simpa using this
    rw [List.getElem?_set_self hl] at hj
    rw [List.getElem?_set_self (by omega)]
    exact Or.inr hj
  · rw [List.getElem?_set_ne (Ne.symm hij)] at hj ⊢
    exact h2 j u hj
theorem mm_rf_kill {L L' : List Value} (h : mm_rf L L') (i : Nat) : mm_rf (mm_kill L i) (mm_kill L' i) := by
  obtain ⟨h1, h2⟩ := mm_rf_iff.mp h
  cases i with
  | zero => exact h
  | succ j =>
    simp only [mm_kill]
    cases hL : L[j]? with
    | none =>
      have : L'[j]? = none := by
        have := List.getElem?_eq_none_iff.mp hL
        exact List.getElem?_eq_none_iff.mpr (by omega)
      rw [this]
      exact h
    | some v =>
      rcases h2 j v hL with hv | hv
      · subst hv
        have hj : j < L'.length := by have := (List.getElem?_eq_some_iff.mp hL).1; omega
        obtain ⟨w, hw⟩ : ∃ w, L'[j]? = some w := ⟨_, List.getElem?_eq_getElem hj⟩
        rw [hw]
        dsimp only
        rw [if_neg (show ¬ Value.null.category = 2 by decide)]
        split
        · refine mm_rf_iff.mpr ⟨by simp [h1], fun k u hk => ?_⟩
          by_cases hkj : k = j
          · subst hkj
            cases hL.symm.trans hk
            exact Or.inl rfl
          · rw [List.getElem?_set_ne (Ne.symm hkj)]
            exact h2 k u hk
        · exact h
      · rw [hv]
        dsimp only
        split
        · exact mm_rf_set h j .null
        · exact h
theorem mm_rf_st1 {L L' L1 : List Value} (h : mm_rf L L') {i : Nat} {v : Value} (hs : mm_st1 L i v = some L1) : ∃ L2, mm_st1 L' i v = some L2 ∧ mm_rf L1 L2 := by
  obtain ⟨h1, rfl⟩ := mm_st1_inv hs
  refine ⟨(mm_kill L' i).set i v, ?_, mm_rf_set (mm_rf_kill h i) i v⟩
  unfold mm_st1
  rw [if_pos (by rw [← (mm_rf_iff.mp h).1]; exact h1)]
theorem mm_rf_st2 {L L' L1 : List Value} (h : mm_rf L L') {i : Nat} {v : Value} (hs : mm_st2 L i v = some L1) : ∃ L2, mm_st2 L' i v = some L2 ∧ mm_rf L1 L2 := by
  obtain ⟨h1, rfl⟩ := mm_st2_inv hs
  refine ⟨((mm_kill L' i).set i v).set (i + 1) .null, ?_, mm_rf_set (mm_rf_set (mm_rf_kill h i) i v) (i + 1) .null⟩
  unfold mm_st2
  rw [if_pos (by rw [← (mm_rf_iff.mp h).1]; exact h1)]
theorem mm_rf_ldi {L L' : List Value} (h : mm_rf L L') {k : Nat} {x : Int32} (hx : mm_ldi L k = some x) : mm_ldi L' k = some x := by
  have := mm_rf_at h (mm_ldi_inv hx) (by intro q; cases q)
  unfold mm_ldi
  rw [this]
theorem mm_rf_ldl {L L' : List Value} (h : mm_rf L L') {k : Nat} {x : Int64} (hx : mm_ldl L k = some x) : mm_ldl L' k = some x := by
  have := mm_rf_at h (mm_ldl_inv hx) (by intro q; cases q)
  unfold mm_ldl
  rw [this]
theorem mm_rf_lda {L L' : List Value} (h : mm_rf L L') {k : Nat} {x : Nat} (hx : mm_lda L k = some x) : mm_lda L' k = some x := by
  have := mm_rf_at h (mm_lda_inv hx) (by intro q; cases q)
  unfold mm_lda
  rw [this]
set_option maxHeartbeats 4000000 in
set_option maxRecDepth 100000 in
theorem mm_ref {sh : List mm_Sh} {call : Nat → List Value → mm_S → Option mm_R} {rk : Nat} {labs : List (Nat × List mm_Row)} {res : mm_R} : ∀ (n : Nat) (rows : List mm_Row) (L L' st : List Value) (σ : mm_S), mm_rf L L' → mm_ex sh call rk labs n rows L st σ = some res → mm_ex sh call rk labs n rows L' st σ = some res := by
  intro n
  induction n with
  | zero => intro rows L L' st σ hr h; cases h
  | succ n ih =>
    intro rows L L' st σ hr h
    match rows, h with
    | [], h => cases h
    | (i, r1, r2, v, w) :: rs, h =>
    cases i with
    | iconst k =>
      simp only [mm_ex] at h ⊢
      exact ih _ _ _ _ _ hr h
    | bipush k =>
      simp only [mm_ex] at h ⊢
      exact ih _ _ _ _ _ hr h
    | sipush k =>
      simp only [mm_ex] at h ⊢
      exact ih _ _ _ _ _ hr h
    | lconst k =>
      simp only [mm_ex] at h ⊢
      exact ih _ _ _ _ _ hr h
    | ldc k =>
      simp only [mm_ex] at h ⊢
      exact ih _ _ _ _ _ hr h
    | ldc_w k =>
      simp only [mm_ex] at h ⊢
      exact ih _ _ _ _ _ hr h
    | ldc2_w k =>
      simp only [mm_ex] at h ⊢
      exact ih _ _ _ _ _ hr h
    | iload k =>
      simp only [mm_ex] at h ⊢
      obtain ⟨x, hx1, h⟩ := mm_bind h
      rw [mm_rf_ldi hr hx1]
      exact ih _ _ _ _ _ hr h
    | iload_n k =>
      simp only [mm_ex] at h ⊢
      obtain ⟨x, hx1, h⟩ := mm_bind h
      rw [mm_rf_ldi hr hx1]
      exact ih _ _ _ _ _ hr h
    | lload k =>
      simp only [mm_ex] at h ⊢
      obtain ⟨x, hx1, h⟩ := mm_bind h
      rw [mm_rf_ldl hr hx1]
      exact ih _ _ _ _ _ hr h
    | lload_n k =>
      simp only [mm_ex] at h ⊢
      obtain ⟨x, hx1, h⟩ := mm_bind h
      rw [mm_rf_ldl hr hx1]
      exact ih _ _ _ _ _ hr h
    | aload k =>
      simp only [mm_ex] at h ⊢
      obtain ⟨x, hx1, h⟩ := mm_bind h
      rw [mm_rf_lda hr hx1]
      exact ih _ _ _ _ _ hr h
    | aload_n k =>
      simp only [mm_ex] at h ⊢
      obtain ⟨x, hx1, h⟩ := mm_bind h
      rw [mm_rf_lda hr hx1]
      exact ih _ _ _ _ _ hr h
    | istore k =>
      simp only [mm_ex] at h ⊢
      obtain ⟨x, s', hst, h7⟩ := mm_i1_inv h
      clear h
      subst hst
      have h := h7
      clear h7
      obtain ⟨L1, hx1, h⟩ := mm_bind h
      obtain ⟨L2, hx2, hr2⟩ := mm_rf_st1 hr hx1
      show (Option.bind _ _) = _
      rw [hx2]
      exact ih _ _ _ _ _ hr2 h
    | istore_n k =>
      simp only [mm_ex] at h ⊢
      obtain ⟨x, s', hst, h7⟩ := mm_i1_inv h
      clear h
      subst hst
      have h := h7
      clear h7
      obtain ⟨L1, hx1, h⟩ := mm_bind h
      obtain ⟨L2, hx2, hr2⟩ := mm_rf_st1 hr hx1
      show (Option.bind _ _) = _
      rw [hx2]
      exact ih _ _ _ _ _ hr2 h
    | lstore k =>
      simp only [mm_ex] at h ⊢
      obtain ⟨x, s', hst, h7⟩ := mm_l1_inv h
      clear h
      subst hst
      have h := h7
      clear h7
      obtain ⟨L1, hx1, h⟩ := mm_bind h
      obtain ⟨L2, hx2, hr2⟩ := mm_rf_st2 hr hx1
      show (Option.bind _ _) = _
      rw [hx2]
      exact ih _ _ _ _ _ hr2 h
    | lstore_n k =>
      simp only [mm_ex] at h ⊢
      obtain ⟨x, s', hst, h7⟩ := mm_l1_inv h
      clear h
      subst hst
      have h := h7
      clear h7
      obtain ⟨L1, hx1, h⟩ := mm_bind h
      obtain ⟨L2, hx2, hr2⟩ := mm_rf_st2 hr hx1
      show (Option.bind _ _) = _
      rw [hx2]
      exact ih _ _ _ _ _ hr2 h
    | iinc k c =>
      simp only [mm_ex] at h ⊢
      obtain ⟨x, hx1, h⟩ := mm_bind h
      obtain ⟨L1, hx2, h⟩ := mm_bind h
      obtain ⟨L2, hx3, hr2⟩ := mm_rf_st1 hr hx2
      rw [mm_rf_ldi hr hx1, Option.bind_some, hx3]
      exact ih _ _ _ _ _ hr2 h
    | iadd =>
      simp only [mm_ex] at h ⊢
      obtain ⟨x, y, s', hst, h7⟩ := mm_i2_inv h
      clear h
      subst hst
      have h := h7
      clear h7
      exact ih _ _ _ _ _ hr h
    | isub =>
      simp only [mm_ex] at h ⊢
      obtain ⟨x, y, s', hst, h7⟩ := mm_i2_inv h
      clear h
      subst hst
      have h := h7
      clear h7
      exact ih _ _ _ _ _ hr h
    | imul =>
      simp only [mm_ex] at h ⊢
      obtain ⟨x, y, s', hst, h7⟩ := mm_i2_inv h
      clear h
      subst hst
      have h := h7
      clear h7
      exact ih _ _ _ _ _ hr h
    | iand =>
      simp only [mm_ex] at h ⊢
      obtain ⟨x, y, s', hst, h7⟩ := mm_i2_inv h
      clear h
      subst hst
      have h := h7
      clear h7
      exact ih _ _ _ _ _ hr h
    | ior =>
      simp only [mm_ex] at h ⊢
      obtain ⟨x, y, s', hst, h7⟩ := mm_i2_inv h
      clear h
      subst hst
      have h := h7
      clear h7
      exact ih _ _ _ _ _ hr h
    | ixor =>
      simp only [mm_ex] at h ⊢
      obtain ⟨x, y, s', hst, h7⟩ := mm_i2_inv h
      clear h
      subst hst
      have h := h7
      clear h7
      exact ih _ _ _ _ _ hr h
    | ishl =>
      simp only [mm_ex] at h ⊢
      obtain ⟨x, y, s', hst, h7⟩ := mm_i2_inv h
      clear h
      subst hst
      have h := h7
      clear h7
      exact ih _ _ _ _ _ hr h
    | ishr =>
      simp only [mm_ex] at h ⊢
      obtain ⟨x, y, s', hst, h7⟩ := mm_i2_inv h
      clear h
      subst hst
      have h := h7
      clear h7
      exact ih _ _ _ _ _ hr h
    | iushr =>
      simp only [mm_ex] at h ⊢
      obtain ⟨x, y, s', hst, h7⟩ := mm_i2_inv h
      clear h
      subst hst
      have h := h7
      clear h7
      exact ih _ _ _ _ _ hr h
    | ladd =>
      simp only [mm_ex] at h ⊢
      obtain ⟨x, y, s', hst, h7⟩ := mm_l2_inv h
      clear h
      subst hst
      have h := h7
      clear h7
      exact ih _ _ _ _ _ hr h
    | land =>
      simp only [mm_ex] at h ⊢
      obtain ⟨x, y, s', hst, h7⟩ := mm_l2_inv h
      clear h
      subst hst
      have h := h7
      clear h7
      exact ih _ _ _ _ _ hr h
    | lor =>
      simp only [mm_ex] at h ⊢
      obtain ⟨x, y, s', hst, h7⟩ := mm_l2_inv h
      clear h
      subst hst
      have h := h7
      clear h7
      exact ih _ _ _ _ _ hr h
    | lcmp =>
      simp only [mm_ex] at h ⊢
      obtain ⟨x, y, s', hst, h7⟩ := mm_l2_inv h
      clear h
      subst hst
      have h := h7
      clear h7
      exact ih _ _ _ _ _ hr h
    | lshl =>
      simp only [mm_ex] at h ⊢
      obtain ⟨x, y, s', hst, h7⟩ := mm_li_inv h
      clear h
      subst hst
      have h := h7
      clear h7
      exact ih _ _ _ _ _ hr h
    | lshr =>
      simp only [mm_ex] at h ⊢
      obtain ⟨x, y, s', hst, h7⟩ := mm_li_inv h
      clear h
      subst hst
      have h := h7
      clear h7
      exact ih _ _ _ _ _ hr h
    | i2l =>
      simp only [mm_ex] at h ⊢
      obtain ⟨x, s', hst, h7⟩ := mm_i1_inv h
      clear h
      subst hst
      have h := h7
      clear h7
      exact ih _ _ _ _ _ hr h
    | l2i =>
      simp only [mm_ex] at h ⊢
      obtain ⟨x, s', hst, h7⟩ := mm_l1_inv h
      clear h
      subst hst
      have h := h7
      clear h7
      exact ih _ _ _ _ _ hr h
    | dup =>
      simp only [mm_ex] at h ⊢
      obtain ⟨k, s', hst, h7⟩ := mm_a1_inv h
      clear h
      subst hst
      have h := h7
      clear h7
      exact ih _ _ _ _ _ hr h
    | dup2 =>
      simp only [mm_ex] at h ⊢
      obtain ⟨k, i9, s', hst, h7⟩ := mm_ai_inv h
      clear h
      subst hst
      have h := h7
      clear h7
      exact ih _ _ _ _ _ hr h
    | pop =>
      simp only [mm_ex] at h ⊢
      obtain ⟨x, s', hst, h7⟩ := mm_i1_inv h
      clear h
      subst hst
      have h := h7
      clear h7
      exact ih _ _ _ _ _ hr h
    | ifCond cnd off =>
      cases cnd with
      | eq =>
        simp only [mm_ex] at h ⊢
        obtain ⟨x, s', hst, h7⟩ := mm_i1_inv h
        clear h
        subst hst
        have h := h7
        clear h7
        show (if _ then _ else _) = _
        split at h
        · rename_i hc
          rw [if_pos hc]
          obtain ⟨q, hq, h⟩ := mm_bind h
          rw [hq]
          exact ih _ _ _ _ _ hr h
        · rename_i hc
          rw [if_neg hc]
          exact ih _ _ _ _ _ hr h
      | ne =>
        simp only [mm_ex] at h ⊢
        obtain ⟨x, s', hst, h7⟩ := mm_i1_inv h
        clear h
        subst hst
        have h := h7
        clear h7
        show (if _ then _ else _) = _
        split at h
        · rename_i hc
          rw [if_pos hc]
          exact ih _ _ _ _ _ hr h
        · rename_i hc
          rw [if_neg hc]
          obtain ⟨q, hq, h⟩ := mm_bind h
          rw [hq]
          exact ih _ _ _ _ _ hr h
      | lt =>
        simp only [mm_ex] at h ⊢
        obtain ⟨x, s', hst, h7⟩ := mm_i1_inv h
        clear h
        subst hst
        have h := h7
        clear h7
        show (if _ then _ else _) = _
        split at h
        · rename_i hc
          rw [if_pos hc]
          obtain ⟨q, hq, h⟩ := mm_bind h
          rw [hq]
          exact ih _ _ _ _ _ hr h
        · rename_i hc
          rw [if_neg hc]
          exact ih _ _ _ _ _ hr h
      | ge =>
        simp only [mm_ex] at h ⊢
        obtain ⟨x, s', hst, h7⟩ := mm_i1_inv h
        clear h
        subst hst
        have h := h7
        clear h7
        show (if _ then _ else _) = _
        split at h
        · rename_i hc
          rw [if_pos hc]
          obtain ⟨q, hq, h⟩ := mm_bind h
          rw [hq]
          exact ih _ _ _ _ _ hr h
        · rename_i hc
          rw [if_neg hc]
          exact ih _ _ _ _ _ hr h
      | gt =>
        simp only [mm_ex] at h ⊢
        obtain ⟨x, s', hst, h7⟩ := mm_i1_inv h
        clear h
        subst hst
        have h := h7
        clear h7
        show (if _ then _ else _) = _
        split at h
        · rename_i hc
          rw [if_pos hc]
          obtain ⟨q, hq, h⟩ := mm_bind h
          rw [hq]
          exact ih _ _ _ _ _ hr h
        · rename_i hc
          rw [if_neg hc]
          exact ih _ _ _ _ _ hr h
      | le =>
        simp only [mm_ex] at h ⊢
        obtain ⟨x, s', hst, h7⟩ := mm_i1_inv h
        clear h
        subst hst
        have h := h7
        clear h7
        show (if _ then _ else _) = _
        split at h
        · rename_i hc
          rw [if_pos hc]
          obtain ⟨q, hq, h⟩ := mm_bind h
          rw [hq]
          exact ih _ _ _ _ _ hr h
        · rename_i hc
          rw [if_neg hc]
          exact ih _ _ _ _ _ hr h
    | if_icmp cnd off =>
      cases cnd with
      | eq =>
        simp only [mm_ex] at h ⊢
        obtain ⟨x, y, s', hst, h7⟩ := mm_i2_inv h
        clear h
        subst hst
        have h := h7
        clear h7
        show (if _ then _ else _) = _
        split at h
        · rename_i hc
          rw [if_pos hc]
          obtain ⟨q, hq, h⟩ := mm_bind h
          rw [hq]
          exact ih _ _ _ _ _ hr h
        · rename_i hc
          rw [if_neg hc]
          exact ih _ _ _ _ _ hr h
      | ne =>
        simp only [mm_ex] at h ⊢
        obtain ⟨x, y, s', hst, h7⟩ := mm_i2_inv h
        clear h
        subst hst
        have h := h7
        clear h7
        show (if _ then _ else _) = _
        split at h
        · rename_i hc
          rw [if_pos hc]
          exact ih _ _ _ _ _ hr h
        · rename_i hc
          rw [if_neg hc]
          obtain ⟨q, hq, h⟩ := mm_bind h
          rw [hq]
          exact ih _ _ _ _ _ hr h
      | lt =>
        simp only [mm_ex] at h ⊢
        obtain ⟨x, y, s', hst, h7⟩ := mm_i2_inv h
        clear h
        subst hst
        have h := h7
        clear h7
        show (if _ then _ else _) = _
        split at h
        · rename_i hc
          rw [if_pos hc]
          obtain ⟨q, hq, h⟩ := mm_bind h
          rw [hq]
          exact ih _ _ _ _ _ hr h
        · rename_i hc
          rw [if_neg hc]
          exact ih _ _ _ _ _ hr h
      | ge =>
        simp only [mm_ex] at h ⊢
        obtain ⟨x, y, s', hst, h7⟩ := mm_i2_inv h
        clear h
        subst hst
        have h := h7
        clear h7
        show (if _ then _ else _) = _
        split at h
        · rename_i hc
          rw [if_pos hc]
          obtain ⟨q, hq, h⟩ := mm_bind h
          rw [hq]
          exact ih _ _ _ _ _ hr h
        · rename_i hc
          rw [if_neg hc]
          exact ih _ _ _ _ _ hr h
      | gt =>
        simp only [mm_ex] at h ⊢
        obtain ⟨x, y, s', hst, h7⟩ := mm_i2_inv h
        clear h
        subst hst
        have h := h7
        clear h7
        show (if _ then _ else _) = _
        split at h
        · rename_i hc
          rw [if_pos hc]
          obtain ⟨q, hq, h⟩ := mm_bind h
          rw [hq]
          exact ih _ _ _ _ _ hr h
        · rename_i hc
          rw [if_neg hc]
          exact ih _ _ _ _ _ hr h
      | le =>
        simp only [mm_ex] at h ⊢
        obtain ⟨x, y, s', hst, h7⟩ := mm_i2_inv h
        clear h
        subst hst
        have h := h7
        clear h7
        show (if _ then _ else _) = _
        split at h
        · rename_i hc
          rw [if_pos hc]
          obtain ⟨q, hq, h⟩ := mm_bind h
          rw [hq]
          exact ih _ _ _ _ _ hr h
        · rename_i hc
          rw [if_neg hc]
          exact ih _ _ _ _ _ hr h
    | goto off =>
      simp only [mm_ex] at h ⊢
      obtain ⟨q, hq, h⟩ := mm_bind h
      rw [hq]
      exact ih _ _ _ _ _ hr h
    | tableswitch d lo hi offs =>
      simp only [mm_ex] at h ⊢
      obtain ⟨x, s', hst, h7⟩ := mm_i1_inv h
      clear h
      subst hst
      have h := h7
      clear h7
      show (if _ then _ else _) = _
      split at h
      · rename_i hc
        rw [if_pos hc]
        obtain ⟨q, hq, h⟩ := mm_bind h
        rw [hq]
        exact ih _ _ _ _ _ hr h
      · rename_i hc
        rw [if_neg hc]
        obtain ⟨q, hq, h⟩ := mm_bind h
        rw [hq]
        exact ih _ _ _ _ _ hr h
    | getfield k =>
      simp only [mm_ex] at h ⊢
      obtain ⟨k0, s', hst, h7⟩ := mm_a1_inv h
      clear h
      subst hst
      have h := h7
      clear h7
      obtain ⟨z, hz, h⟩ := mm_bind h
      show (Option.bind _ _) = _
      rw [hz]
      exact ih _ _ _ _ _ hr h
    | putfield k =>
      simp only [mm_ex] at h ⊢
      obtain ⟨k0, x, s', hst, h7⟩ := mm_ai_inv h
      clear h
      subst hst
      have h := h7
      clear h7
      obtain ⟨z, hz, h⟩ := mm_bind h
      show (Option.bind _ _) = _
      rw [hz]
      exact ih _ _ _ _ _ hr h
    | iaload =>
      simp only [mm_ex] at h ⊢
      obtain ⟨k0, i9, s', hst, h7⟩ := mm_ai_inv h
      clear h
      subst hst
      have h := h7
      clear h7
      obtain ⟨z, hz, h⟩ := mm_bind h
      show (Option.bind _ _) = _
      rw [hz]
      show (if _ then _ else _) = _
      split at h
      · rename_i hc
        rw [if_pos hc]
        exact ih _ _ _ _ _ hr h
      · cases h
    | baload =>
      simp only [mm_ex] at h ⊢
      obtain ⟨k0, i9, s', hst, h7⟩ := mm_ai_inv h
      clear h
      subst hst
      have h := h7
      clear h7
      obtain ⟨z, hz, h⟩ := mm_bind h
      show (Option.bind _ _) = _
      rw [hz]
      show (if _ then _ else _) = _
      split at h
      · rename_i hc
        rw [if_pos hc]
        exact ih _ _ _ _ _ hr h
      · cases h
    | laload =>
      simp only [mm_ex] at h ⊢
      obtain ⟨k0, i9, s', hst, h7⟩ := mm_ai_inv h
      clear h
      subst hst
      have h := h7
      clear h7
      obtain ⟨z, hz, h⟩ := mm_bind h
      show (Option.bind _ _) = _
      rw [hz]
      show (if _ then _ else _) = _
      split at h
      · rename_i hc
        rw [if_pos hc]
        exact ih _ _ _ _ _ hr h
      · cases h
    | aaload =>
      simp only [mm_ex] at h ⊢
      obtain ⟨k0, i9, s', hst, h7⟩ := mm_ai_inv h
      clear h
      subst hst
      have h := h7
      clear h7
      obtain ⟨z, hz, h⟩ := mm_bind h
      show (Option.bind _ _) = _
      rw [hz]
      exact ih _ _ _ _ _ hr h
    | iastore =>
      simp only [mm_ex] at h ⊢
      obtain ⟨k0, i9, x, s', hst, h7⟩ := mm_aii_inv h
      clear h
      subst hst
      have h := h7
      clear h7
      obtain ⟨z, hz, h⟩ := mm_bind h
      show (Option.bind _ _) = _
      rw [hz]
      show (if _ then _ else _) = _
      split at h
      · rename_i hc
        rw [if_pos hc]
        exact ih _ _ _ _ _ hr h
      · cases h
    | lastore =>
      simp only [mm_ex] at h ⊢
      obtain ⟨k0, i9, x, s', hst, h7⟩ := mm_ail_inv h
      clear h
      subst hst
      have h := h7
      clear h7
      obtain ⟨z, hz, h⟩ := mm_bind h
      show (Option.bind _ _) = _
      rw [hz]
      show (if _ then _ else _) = _
      split at h
      · rename_i hc
        rw [if_pos hc]
        exact ih _ _ _ _ _ hr h
      · cases h
    | bastore =>
      simp only [mm_ex] at h ⊢
      obtain ⟨k0, i9, x, s', hst, h7⟩ := mm_aii_inv h
      clear h
      subst hst
      have h := h7
      clear h7
      obtain ⟨z, hz, h⟩ := mm_bind h
      show (Option.bind _ _) = _
      rw [hz]
      show (if _ then _ else _) = _
      split at h
      · rename_i hc
        rw [if_pos hc]
        split at h
        · rename_i hc2
          rw [if_pos hc2]
          exact ih _ _ _ _ _ hr h
        · cases h
      · cases h
    | invokevirtual k =>
      simp only [mm_ex] at h ⊢
      obtain ⟨q, hq, h⟩ := mm_bind h
      obtain ⟨u, hu, h⟩ := mm_bind h
      rw [hq, Option.bind_some, hu]
      exact ih _ _ _ _ _ hr h
    | invokestatic k =>
      by_cases e0 : r1 = 1000
      · subst e0
        simp only [mm_ex] at h ⊢
        obtain ⟨x, y, s', hst, h7⟩ := mm_i2_inv h
        clear h
        subst hst
        have h := h7
        clear h7
        show (if _ then _ else _) = _
        split at h
        · rename_i hc
          rw [if_pos hc]
          exact ih _ _ _ _ _ hr h
        · cases h
      by_cases e1 : r1 = 1001
      · subst e1
        simp only [mm_ex] at h ⊢
        obtain ⟨x, y, s', hst, h7⟩ := mm_i2_inv h
        clear h
        subst hst
        have h := h7
        clear h7
        show (if _ then _ else _) = _
        split at h
        · rename_i hc
          rw [if_pos hc]
          exact ih _ _ _ _ _ hr h
        · cases h
      have e : ∀ M : List Value, mm_ex sh call rk labs (n + 1) ((.invokestatic k, r1, r2, v, w) :: rs) M st σ = ((mm_sargs (r2 % 16) st).bind fun q => (call r1 q.1 σ).bind fun u => mm_ex sh call rk labs n rs M (mm_push (r2 / 16 % 4) u q.2) u.2.2) := by
        intro M
        show (match r1 with
          | 1000 => _
          | 1001 => _
          | _ => _) = _
        split
        · exact absurd rfl e0
        · exact absurd rfl e1
        · rfl
      rw [e] at h ⊢
      obtain ⟨q, hq, h⟩ := mm_bind h
      obtain ⟨u, hu, h⟩ := mm_bind h
      rw [hq, Option.bind_some, hu]
      exact ih _ _ _ _ _ hr h
    | ireturn =>
      simp only [mm_ex] at h ⊢
      exact h
    | lreturn =>
      simp only [mm_ex] at h ⊢
      exact h
    | return_ =>
      simp only [mm_ex] at h ⊢
      exact h
    | _ =>
      have h9 : (none : Option mm_R) = some res := h
      cases h9
