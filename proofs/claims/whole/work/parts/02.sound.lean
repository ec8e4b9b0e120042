/-! THE SMALL MACHINE IS SOUND. Cells: mm_wo. A method's contract: mm_Pc, mm_Q. What the tables must say: mm_OK. Then mm_all: what mm_G answers, the machine does. -/
def mm_rho (a : Nat → Nat) (v : Value) : Value := match v with
  | .ref k => .ref (a k)
  | v => v
theorem mm_rho_cat (a : Nat → Nat) (v : Value) : (mm_rho a v).category = v.category := by cases v <;> rfl
def mm_lok (a : Nat → Nat) (ls : Array Slot) (nL : Nat) (L : List Value) : Prop := ls.size = nL ∧ lv_wf ls ∧ L.length = nL ∧ ∀ (i : Nat) (v : Value), L[i]? = some v → v ≠ .null → ls[i]? = some (.val (mm_rho a v))
def mm_prs (a : Nat → Nat) (L : List Value) : List (Nat × Value) := (List.range L.length).filterMap fun i => (L[i]?).bind fun v => if v = .null then none else some (i, mm_rho a v)
theorem mm_prs_mem {a : Nat → Nat} {L : List Value} {q : Nat × Value} : q ∈ mm_prs a L ↔ ∃ v, L[q.1]? = some v ∧ v ≠ .null ∧ q.2 = mm_rho a v := by
  unfold mm_prs
  rw [List.mem_filterMap]
  constructor
  · rintro ⟨i, -, h⟩
    cases hv : L[i]? with
    | none => rw [hv] at h; cases h
    | some v =>
      rw [hv] at h
      by_cases hn : v = .null
      · simp [hn] at h
      · simp [hn] at h
        subst h
        exact ⟨v, hv, hn, rfl⟩
  · rintro ⟨v, h1, h2, h3⟩
    refine ⟨q.1, List.mem_range.mpr (List.getElem?_eq_some_iff.mp h1).1, ?_⟩
    rw [h1]
    simp [h2, ← h3]
theorem mm_lok.has {a : Nat → Nat} {ls : Array Slot} {nL : Nat} {L : List Value} (h : mm_lok a ls nL L) : lv_has ls nL (mm_prs a L) := ⟨h.1, h.2.1, fun q hq => by
  obtain ⟨v, h1, h2, h3⟩ := mm_prs_mem.mp hq
  rw [h3]
  exact h.2.2.2 _ _ h1 h2⟩
theorem mm_lok.at {a : Nat → Nat} {ls : Array Slot} {nL : Nat} {L : List Value} (h : mm_lok a ls nL L) {i : Nat} {v : Value} (hv : L[i]? = some v) (hn : v ≠ .null) : ls[i]? = some (.val (mm_rho a v)) := h.2.2.2 i v hv hn
theorem mm_kill_len (L : List Value) (i : Nat) : (mm_kill L i).length = L.length := by
  unfold mm_kill
  split
  · rfl
  · split
    · split
      · rw [List.length_set]
      · rfl
    · rfl
theorem mm_kill_at {L : List Value} {i j : Nat} {u : Value} (h : (mm_kill L i)[j]? = some u) (hn : u ≠ .null) : L[j]? = some u ∧ ¬ (j + 1 = i ∧ u.category = 2) := by
  unfold mm_kill at h
  split at h
  · exact ⟨h, fun q => by omega⟩
  · rename_i i
    split at h
    · rename_i v hv
      split at h
      · rename_i hc
        by_cases hj : j = i
        · subst hj
          rw [List.getElem?_set_self (List.getElem?_eq_some_iff.mp hv).1] at h
          cases h
          exact absurd rfl hn
        · rw [List.getElem?_set_ne (Ne.symm hj)] at h
          exact ⟨h, fun q => hj (by omega)⟩
      · rename_i hc
        refine ⟨h, fun q => ?_⟩
        have : j = i := by omega
        subst this
        cases h.symm.trans hv
        exact hc q.2
    · rename_i hv
      refine ⟨h, fun q => ?_⟩
      have : j = i := by omega
      subst this
      cases h.symm.trans hv
theorem mm_st1_inv {L L' : List Value} {i : Nat} {v : Value} (h : mm_st1 L i v = some L') : i < L.length ∧ L' = (mm_kill L i).set i v := by
  unfold mm_st1 at h
  split at h
  · cases h
    exact ⟨by assumption, rfl⟩
  · cases h
theorem mm_st2_inv {L L' : List Value} {i : Nat} {v : Value} (h : mm_st2 L i v = some L') : i + 1 < L.length ∧ L' = ((mm_kill L i).set i v).set (i + 1) .null := by
  unfold mm_st2 at h
  split at h
  · cases h
    exact ⟨by assumption, rfl⟩
  · cases h
theorem mm_lok.st1 {a : Nat → Nat} {ls ls' : Array Slot} {nL i : Nat} {L L' : List Value} {v w : Value} (h : mm_lok a ls nL L) (hs : mm_st1 L i v = some L') (hw : w = mm_rho a v) (h' : lv_has ls' nL ((i, w) :: (mm_prs a L).filter (fun q => !(q.1 == i) && !(q.1 + 1 == i && q.2.category == 2)))) : mm_lok a ls' nL L' := by
  obtain ⟨h1, rfl⟩ := mm_st1_inv hs
  refine ⟨h'.1, h'.2.1, by rw [List.length_set, mm_kill_len]; exact h.2.2.1, fun j u hj hn => ?_⟩
  by_cases hji : j = i
  · subst hji
    rw [List.getElem?_set_self (by rw [mm_kill_len]; exact h1)] at hj
    cases hj
    exact h'.2.2 (j, mm_rho a v) (by rw [hw]; exact List.mem_cons_self)
  · rw [List.getElem?_set_ne (Ne.symm hji)] at hj
    obtain ⟨hj, hk⟩ := mm_kill_at hj hn
    refine h'.2.2 (j, mm_rho a u) (List.mem_cons_of_mem _ (List.mem_filter.mpr ⟨mm_prs_mem.mpr ⟨u, hj, hn, rfl⟩, ?_⟩))
    have : ¬ (j + 1 = i ∧ (mm_rho a u).category = 2) := by rw [mm_rho_cat]; exact hk
    simp [hji]
    rcases Classical.em (j + 1 = i) with q | q
    · exact Or.inr (fun z => this ⟨q, z⟩)
    · exact Or.inl q
theorem mm_lok.st2 {a : Nat → Nat} {ls ls' : Array Slot} {nL i : Nat} {L L' : List Value} {v w : Value} (h : mm_lok a ls nL L) (hs : mm_st2 L i v = some L') (hw : w = mm_rho a v) (h' : lv_has ls' nL ((i, w) :: (mm_prs a L).filter (fun q => !(q.1 == i) && (!(q.1 == i + 1) && !(q.1 + 1 == i && q.2.category == 2))))) : mm_lok a ls' nL L' := by
  obtain ⟨h1, rfl⟩ := mm_st2_inv hs
  refine ⟨h'.1, h'.2.1, by rw [List.length_set, List.length_set, mm_kill_len]; exact h.2.2.1, fun j u hj hn => ?_⟩
  by_cases hj1 : j = i + 1
  · subst hj1
    rw [List.getElem?_set_self (by rw [List.length_set, mm_kill_len]; exact h1)] at hj
    cases hj
    exact absurd rfl hn
  rw [List.getElem?_set_ne (Ne.symm hj1)] at hj
  by_cases hji : j = i
  · subst hji
    rw [List.getElem?_set_self (by rw [mm_kill_len]; omega)] at hj
    cases hj
    exact h'.2.2 (j, mm_rho a v) (by rw [hw]; exact List.mem_cons_self)
  · rw [List.getElem?_set_ne (Ne.symm hji)] at hj
    obtain ⟨hj, hk⟩ := mm_kill_at hj hn
    refine h'.2.2 (j, mm_rho a u) (List.mem_cons_of_mem _ (List.mem_filter.mpr ⟨mm_prs_mem.mpr ⟨u, hj, hn, rfl⟩, ?_⟩))
    have : ¬ (j + 1 = i ∧ (mm_rho a u).category = 2) := by rw [mm_rho_cat]; exact hk
    simp [hji, hj1]
    rcases Classical.em (j + 1 = i) with q | q
    · exact Or.inr (fun z => this ⟨q, z⟩)
    · exact Or.inl q
-- the world
def mm_fv (a : Nat → Nat) (σ : mm_S) (k j : Nat) (f : Nat × Nat) : Value := if f.1 = 2 then .ref (a f.2) else .int (σ.1 k j)
def mm_ce (ca : Nat → ClassId) (a : Nat → Nat) (σ : mm_S) (k : Nat) : mm_Sh → va_E
  | .inl (ci, fs) => .inr (ci, fs.mapIdx fun j f => mm_fv a σ k j f)
  | .inr (kd, n, rw) => .inl (ca kd, n, if kd = 2 then .inr (.inl (σ.2 k)) else if kd = 3 then .inr (.inr (.inr (.inr (fun i => (rw[i]?).map a)))) else .inl (σ.1 k))
def mm_wo (sh : List mm_Sh) (ca : Nat → ClassId) (a : Nat → Nat) (σ : mm_S) : va_W := sh.mapIdx fun k x => (a k, mm_ce ca a σ k x)
def mm_tys (ca : Nat → ClassId) : List (ClassId × FieldType) := [(ca 0, .int), (ca 1, .boolean), (ca 2, .long), (ca 3, .array .int)]
theorem mm_wo_at {sh : List mm_Sh} {ca : Nat → ClassId} {a : Nat → Nat} {σ : mm_S} {k : Nat} {x : mm_Sh} (h : sh[k]? = some x) : (mm_wo sh ca a σ)[k]? = some (a k, mm_ce ca a σ k x) := by
  unfold mm_wo
  rw [List.getElem?_mapIdx, h]
  rfl
theorem mm_wo_get {sh : List mm_Sh} {ca : Nat → ClassId} {a : Nat → Nat} {σ : mm_S} {k : Nat} {q : Nat × va_E} (h : (mm_wo sh ca a σ)[k]? = some q) : ∃ x, sh[k]? = some x ∧ q = (a k, mm_ce ca a σ k x) := by
  unfold mm_wo at h
  rw [List.getElem?_mapIdx] at h
  cases hx : sh[k]? with
  | none => rw [hx] at h; cases h
  | some x => rw [hx] at h; exact ⟨x, rfl, (Option.some.inj h).symm⟩
theorem mm_w_ne {α : Type} {f : Nat → Nat → α} {k j k' : Nat} {v : α} (h : k' ≠ k) : mm_w f k j v k' = f k' := by
  unfold mm_w; rw [if_neg h]
theorem mm_w_eq {α : Type} {f : Nat → Nat → α} {k j : Nat} {v : α} : mm_w f k j v k = fun j' => if j' = j then v else f k j' := by
  unfold mm_w; rw [if_pos rfl]
theorem mm_ce_eq {ca : Nat → ClassId} {a : Nat → Nat} {σ σ' : mm_S} {k : Nat} (h1 : σ'.1 k = σ.1 k) (h2 : σ'.2 k = σ.2 k) (x : mm_Sh) : mm_ce ca a σ' k x = mm_ce ca a σ k x := by
  rcases x with ⟨ci, fs⟩ | ⟨kd, n, rw⟩
  · simp only [mm_ce, mm_fv, h1]
  · simp only [mm_ce, h1, h2]
theorem mm_wo_set {sh : List mm_Sh} {ca : Nat → ClassId} {a : Nat → Nat} {σ σ' : mm_S} {k : Nat} {x : mm_Sh} {e : va_E} (h : sh[k]? = some x) (he : mm_ce ca a σ' k x = e) (ho : ∀ k', k' ≠ k → σ'.1 k' = σ.1 k' ∧ σ'.2 k' = σ.2 k') : (mm_wo sh ca a σ).set k (a k, e) = mm_wo sh ca a σ' := by
  have hl : k < (mm_wo sh ca a σ).length := (List.getElem?_eq_some_iff.mp (mm_wo_at (ca := ca) (a := a) (σ := σ) h)).1
  apply List.ext_getElem?
  intro i
  by_cases hi : i = k
  · subst hi
    rw [List.getElem?_set_self hl, mm_wo_at h, he]
  · rw [List.getElem?_set_ne (Ne.symm hi)]
    cases hx : sh[i]? with
    | none =>
      have e1 : (mm_wo sh ca a σ)[i]? = none := by unfold mm_wo; rw [List.getElem?_mapIdx, hx]; rfl
      have e2 : (mm_wo sh ca a σ')[i]? = none := by unfold mm_wo; rw [List.getElem?_mapIdx, hx]; rfl
      rw [e1, e2]
    | some y => rw [mm_wo_at hx, mm_wo_at hx, mm_ce_eq (ho i hi).1 (ho i hi).2]
theorem mm_A_eq {sh : List mm_Sh} {ca : Nat → ClassId} {a : Nat → Nat} {σ : mm_S} {sz q : Nat} : va_A (mm_wo sh ca a σ) sz q ↔ ((∃ k, k < sh.length ∧ q = a k) ∨ sz ≤ q) := by
  constructor
  · rintro (⟨k, e, h⟩ | h)
    · obtain ⟨x, h1, h2⟩ := mm_wo_get h
      exact Or.inl ⟨k, (List.getElem?_eq_some_iff.mp h1).1, congrArg Prod.fst h2⟩
    · exact Or.inr h
  · rintro (⟨k, h, rfl⟩ | h)
    · exact Or.inl ⟨k, _, mm_wo_at (List.getElem?_eq_getElem h)⟩
    · exact Or.inr h
-- contracts
def mm_rv (rk : Nat) (u : mm_R) : Option Value := match rk with
  | 0 => none
  | 2 => some (.long u.2.1)
  | _ => some (.int u.1)
theorem mm_push_rv (a : Nat → Nat) (rk : Nat) (u : mm_R) (st : List Value) : (mm_rv rk u).toList ++ st.map (mm_rho a) = (mm_push rk u st).map (mm_rho a) := by
  match rk with
  | 0 => rfl
  | 1 => rfl
  | 2 => rfl
  | n + 3 => rfl
abbrev mm_N : Type := List (String × Nat × MethodName × String)
def mm_Nk (nst : mm_N) (U : State) : Prop := ∀ q ∈ nst, va_Nw (.methodLinkNest q.1 q.2.1 q.2.2.1 q.2.2.2) U
def mm_Pc (nst : mm_N) (sh : List mm_Sh) (cl : List vw_C) (D : va_G) (ca : Nat → ClassId) (a : Nat → Nat) (args : List Value) (σ : mm_S) (sz : Nat) : Array Value → State → Prop :=
  va_Pc (args.map (mm_rho a)) (fun U => U.heap.size = sz ∧ va_P D cl (mm_wo sh ca a σ) U.heap ∧ va_K D cl (mm_tys ca) U ∧ va_D (fun _ => True) (mm_wo sh ca a σ) ∧ mm_Nk nst U)
def mm_Q (sh : List mm_Sh) (cl : List vw_C) (D : va_G) (ca : Nat → ClassId) (a : Nat → Nat) (rk : Nat) (u : mm_R) (A : Nat → Prop) : Array Value → State → Outcome → State → Prop :=
  fun _ st oc t => (oc = .returned (mm_rv rk u) ∧ va_P D cl (mm_wo sh ca a u.2.2) t.heap ∧ va_K D cl (mm_tys ca) t ∧ va_D A (mm_wo sh ca a u.2.2)) ∧ va_F A st t
def mm_ws (tbl : List Jvm.Cond) (M : mm_M) : List Jvm.Cond := Jvm.Cond.code M.2.1 M.2.2.1 M.2.2.2.1 M.2.2.2.2.1 :: tbl
def mm_Con (l : Launch) (tbl : List Jvm.Cond) (nst : mm_N) (sh : List mm_Sh) (cl : List vw_C) (D : va_G) (ca : Nat → ClassId) (a : Nat → Nat) (rm : Room) (M : mm_M) (args : List Value) (σ : mm_S) (u : mm_R) : Prop :=
  ∀ sz : Nat, Met l M.2.1 (mm_ws tbl M) rm (mm_Pc nst sh cl D ca a args σ sz) (mm_Q sh cl D ca a (mm_rk M.2.2.2.2.1) u (va_A (mm_wo sh ca a σ) sz)) 0 0 (va_A (mm_wo sh ca a σ) sz)
-- what the tables must say
def mm_len : Instr → Nat
  | .bipush _ => 2
  | .sipush _ => 3
  | .ldc _ => 2
  | .ldc_w _ => 3
  | .ldc2_w _ => 3
  | .iload _ => 2
  | .lload _ => 2
  | .aload _ => 2
  | .istore _ => 2
  | .lstore _ => 2
  | .iinc _ _ => 3
  | .ifCond _ _ => 3
  | .if_icmp _ _ => 3
  | .goto _ => 3
  | .getfield _ => 3
  | .putfield _ => 3
  | .invokevirtual _ => 3
  | .invokestatic _ => 3
  | .tableswitch _ _ _ _ => 0
  | _ => 1
abbrev mm_Lk : Type := List (Nat × Nat × Nat × Nat) × List (Nat × Nat × Nat × Nat) × List (Nat × Nat × Nat × Nat) × List (Nat × Nat × Int32) × List (Nat × Nat × Int64)
def mm_lab (labs : List (Nat × List mm_Row)) (r pc : Nat) (off : Int) : Bool := match labs[r]? with
  | some q => decide ((pc : Int) + off = (q.1 : Int))
  | none => false
def mm_side (K : mm_Lk) (o pc : Nat) (labs : List (Nat × List mm_Row)) : mm_Row → Bool
  | (.iconst k, _, _, v, _) => decide (Int32.ofInt k = v)
  | (.bipush k, _, _, v, _) => decide ((Int8.ofInt k).toInt32 = v)
  | (.sipush k, _, _, v, _) => decide ((Int16.ofInt k).toInt32 = v)
  | (.lconst k, _, _, _, w) => decide (Int64.ofNat k.val = w)
  | (.iinc _ c, _, _, v, _) => decide (Int32.ofInt c = v)
  | (.ldc k, _, _, v, _) => decide ((o, k, v) ∈ K.2.2.2.1)
  | (.ldc_w k, _, _, v, _) => decide ((o, k, v) ∈ K.2.2.2.1)
  | (.ldc2_w k, _, _, _, w) => decide ((o, k, w) ∈ K.2.2.2.2)
  | (.ifCond _ off, r1, _, _, _) => mm_lab labs r1 pc off
  | (.if_icmp _ off, r1, _, _, _) => mm_lab labs r1 pc off
  | (.goto off, r1, _, _, _) => mm_lab labs r1 pc off
  | (.tableswitch d lo hi offs, r1, r2, _, _) => mm_lab labs r2 pc d && (decide (hi - lo < offs.size) && (List.range offs.size).all fun i => match offs[i]? with
    | some off => mm_lab labs (r1 + i) pc off
    | none => false)
  | (.getfield k, r1, r2, _, _) => decide ((o, k, r1, r2) ∈ K.1)
  | (.putfield k, r1, r2, _, _) => decide ((o, k, r1, r2) ∈ K.1)
  | (.invokevirtual k, r1, r2, _, _) => decide ((o, k, r1, r2) ∈ K.2.1)
  | (.invokestatic k, r1, r2, _, _) => decide ((o, k, r1, r2) ∈ K.2.2.1)
  | _ => true
def mm_chk (K : mm_Lk) (o : Nat) (cc : ByteArray) (labs : List (Nat × List mm_Row)) : Nat → List mm_Row → Bool
  | _, [] => true
  | pc, x :: rs => match decode cc pc with
    | .ok (i, len) => decide (i = x.1) && (mm_side K o pc labs x && ((decide (len = mm_len i) || decide (mm_len i = 0)) && mm_chk K o cc labs (pc + len) rs))
    | .error _ => false
theorem mm_chk_inv {K : mm_Lk} {o : Nat} {cc : ByteArray} {labs : List (Nat × List mm_Row)} {pc : Nat} {x : mm_Row} {rs : List mm_Row} (h : mm_chk K o cc labs pc (x :: rs) = true) : ∃ len, decode cc pc = .ok (x.1, len) ∧ mm_side K o pc labs x = true ∧ (len = mm_len x.1 ∨ mm_len x.1 = 0) ∧ mm_chk K o cc labs (pc + len) rs = true := by
  unfold mm_chk at h
  split at h
  · rename_i i len hd
    simp only [Bool.and_eq_true, Bool.or_eq_true, decide_eq_true_eq] at h
    obtain ⟨h1, h2, h3, h4⟩ := h
    subst h1
    exact ⟨len, hd, h2, h3, h4⟩
  · cases h
theorem mm_lab_inv {labs : List (Nat × List mm_Row)} {r pc : Nat} {off : Int} (h : mm_lab labs r pc off = true) : ∃ q, labs[r]? = some q ∧ (pc : Int) + off = (q.1 : Int) := by
  unfold mm_lab at h
  split at h
  · exact ⟨_, by assumption, by simpa using h⟩
  · cases h
def mm_FOk (tbl : List Jvm.Cond) (cl : List vw_C) (nm : Nat → String) (q : Nat × Nat × Nat × Nat) : Prop :=
  ∃ (C : String) (T : u_T) (N : Nat), cl[q.2.2.1]? = some (C, T, N) ∧ q.2.2.2 < N ∧ Jvm.Cond.fieldLink (nm q.1) q.2.1 C (T q.2.2.2).2.1 (T q.2.2.2).2.2.1 ∈ tbl
def mm_COk (tbl : List Jvm.Cond) (r : vw_C) : Prop :=
  (∀ w ∈ u_ws r.1 r.2.1 r.2.2, w ∈ tbl) ∧ (∀ k, k < r.2.2 → (r.2.1 k).1 = r.1) ∧ ∃ ty0 : Nat → FieldType, (∀ k, k < r.2.2 → parseFieldDescriptor (r.2.1 k).2.2.1 = some (ty0 k)) ∧ (∀ a, a < r.2.2 → ∀ b, b < r.2.2 → a ≠ b → (r.2.1 a).2.1 ≠ (r.2.1 b).2.1)
def mm_SOk (cl : List vw_C) (x : mm_Sh) : Prop := ∀ (ci : Nat) (fs : List (Nat × Nat)), x = .inl (ci, fs) →
  ∃ (C : String) (T : u_T) (N : Nat), cl[ci]? = some (C, T, N) ∧ fs.length = N ∧ ∀ (j t q : Nat), fs[j]? = some (t, q) → (t = 0 → (T j).2.2.2 = false ∧ parseFieldDescriptor (T j).2.2.1 = some .int) ∧ (t = 1 → (T j).2.2.2 = false ∧ parseFieldDescriptor (T j).2.2.1 = some .boolean)
def mm_NoMH (y : MethodName) : Prop := y.cls ≠ "java/lang/invoke/MethodHandle" ∧ y.cls ≠ "java/lang/invoke/VarHandle"
def mm_MOk (tbl : List Jvm.Cond) (nm : Nat → String) (K : mm_Lk) (M : mm_M) : Prop :=
  Jvm.Cond.code M.2.1 M.2.2.1 M.2.2.2.1 M.2.2.2.2.1 ∈ tbl ∧ Jvm.Cond.initialized M.2.1.cls ∈ tbl ∧ M.2.1.cls = nm M.1 ∧ plainName M.2.1.cls = true ∧ mm_NoMH M.2.1 ∧ M.2.2.2.1 ≤ 20 ∧ (∃ rs, M.2.2.2.2.2[0]? = some (0, rs)) ∧ mm_rk M.2.2.2.2.1 ≤ 3 ∧ ∀ q ∈ M.2.2.2.2.2, mm_chk K M.1 M.2.2.1 M.2.2.2.2.2 q.1 q.2 = true
abbrev mm_par (y : MethodName) (n : Nat) : Prop := (parseMethodDescriptor y.desc).map (fun d => d.parameters.length) = some n
def mm_VOk (tbl : List Jvm.Cond) (cl : List vw_C) (nm : Nat → String) (P : List mm_M) (q : Nat × Nat × Nat × Nat) : Prop :=
  ∃ (M : mm_M) (T : u_T) (N n : Nat), P[q.2.2.1]? = some M ∧ Jvm.Cond.methodLink (nm q.1) q.2.1 M.2.1 ∈ tbl ∧ Jvm.Cond.instanceMethod M.2.1 ∈ tbl ∧ Jvm.Cond.selects M.2.1.cls M.2.1 M.2.1 ∈ tbl ∧ cl[q.2.2.2 / 64]? = some (M.2.1.cls, T, N) ∧ mm_par M.2.1 n ∧ q.2.2.2 % 16 = n + 1 ∧ q.2.2.2 / 16 % 4 = mm_rk M.2.2.2.2.1
def mm_JOk (tbl : List Jvm.Cond) (nm : Nat → String) (q : Nat × Nat × Nat × Nat) (y : MethodName) (cc : ByteArray) : Prop :=
  Jvm.Cond.methodLink (nm q.1) q.2.1 y ∈ tbl ∧ Jvm.Cond.static y ∈ tbl ∧ Jvm.Cond.initialized "java/lang/Math" ∈ tbl ∧ Jvm.Cond.code y cc 2 (some .int) ∈ tbl
def mm_TOk (tbl : List Jvm.Cond) (nst : mm_N) (nm : Nat → String) (P : List mm_M) (q : Nat × Nat × Nat × Nat) : Prop :=
  (q.2.2.1 = 1000 ∧ mm_JOk tbl nm q Lib.Math.max.name Lib.Math.max.code) ∨ (q.2.2.1 = 1001 ∧ mm_JOk tbl nm q Lib.Math.min.name Lib.Math.min.code) ∨
  (¬ q.2.2.1 = 1000 ∧ ¬ q.2.2.1 = 1001 ∧ ∃ (M : mm_M) (n : Nat), P[q.2.2.1]? = some M ∧ (Jvm.Cond.methodLink (nm q.1) q.2.1 M.2.1 ∈ tbl ∨ ∃ host, (nm q.1, q.2.1, M.2.1, host) ∈ nst) ∧ Jvm.Cond.static M.2.1 ∈ tbl ∧ mm_par M.2.1 n ∧ q.2.2.2 % 16 = n ∧ q.2.2.2 / 16 % 4 = mm_rk M.2.2.2.2.1)
def mm_OK (tbl : List Jvm.Cond) (nst : mm_N) (cl : List vw_C) (nm : Nat → String) (sh : List mm_Sh) (P : List mm_M) (K : mm_Lk) : Prop :=
  (∀ w ∈ tbl, goodWord w = true) ∧ (∀ r ∈ cl, mm_COk tbl r) ∧ (∀ x ∈ sh, mm_SOk cl x) ∧ (∀ M ∈ P, mm_MOk tbl nm K M) ∧ (∀ q ∈ K.1, mm_FOk tbl cl nm q) ∧ (∀ q ∈ K.2.1, mm_VOk tbl cl nm P q) ∧ (∀ q ∈ K.2.2.1, mm_TOk tbl nst nm P q) ∧ (∀ q ∈ K.2.2.2.1, Jvm.Cond.constant (nm q.1) q.2.1 q.2.2 ∈ tbl) ∧ (∀ q ∈ K.2.2.2.2, Jvm.Cond.constantLong (nm q.1) q.2.1 q.2.2 ∈ tbl)
theorem mm_bind {α β : Type} {x : Option α} {f : α → Option β} {r : β} (h : x.bind f = some r) : ∃ u, x = some u ∧ f u = some r := by
  cases x with
  | none => cases h
  | some u => exact ⟨u, rfl, h⟩
theorem mm_good {tbl : List Jvm.Cond} {M : mm_M} (h : ∀ w ∈ tbl, goodWord w = true) (hc : Jvm.Cond.code M.2.1 M.2.2.1 M.2.2.2.1 M.2.2.2.2.1 ∈ tbl) : GoodIn tbl (mm_ws tbl M) := fun w hw => by
  rcases List.mem_cons.mp hw with rfl | hw
  · exact ⟨hc, good_of_word (h _ hc)⟩
  · exact ⟨hw, good_of_word (h _ hw)⟩
theorem mm_fld_inv {sh : List mm_Sh} {σ : mm_S} {ci k j : Nat} {u : Value} (h : mm_fld sh σ ci k j = some u) : ∃ fs t q, sh[k]? = some (.inl (ci, fs)) ∧ fs[j]? = some (t, q) ∧ u = if t = 2 then .ref q else .int (σ.1 k j) := by
  unfold mm_fld at h
  split at h
  · rename_i c fs hs
    split at h
    · rename_i hc
      subst hc
      split at h
      · rename_i t q hf
        exact ⟨fs, t, q, hs, hf, (Option.some.inj h).symm⟩
      · cases h
    · cases h
  · cases h
theorem mm_pf_inv {sh : List mm_Sh} {ci k j : Nat} {x : Int32} {u : Unit} (h : mm_pf sh ci k j x = some u) : ∃ fs t q, sh[k]? = some (.inl (ci, fs)) ∧ fs[j]? = some (t, q) ∧ (t = 0 ∨ (t = 1 ∧ (x = 0 ∨ x = 1))) := by
  unfold mm_pf at h
  split at h
  · rename_i c fs hs
    split at h
    · rename_i hc
      subst hc
      split at h
      · rename_i t q hf
        refine ⟨fs, t, q, hs, hf, ?_⟩
        split at h
        · exact Or.inl (by assumption)
        · split at h
          · split at h
            · exact Or.inr ⟨by assumption, by assumption⟩
            · cases h
          · cases h
      · cases h
    · cases h
  · cases h
theorem mm_arr_inv {sh : List mm_Sh} {k kd n : Nat} (h : mm_arr sh k kd = some n) : ∃ rw, sh[k]? = some (.inr (kd, n, rw)) := by
  unfold mm_arr at h
  split at h
  · rename_i d n' rw hs
    split at h
    · rename_i hc
      subst hc
      cases h
      exact ⟨rw, hs⟩
    · cases h
  · cases h
theorem mm_grid_inv {sh : List mm_Sh} {k q : Nat} {i : Int32} (h : mm_grid sh k i = some q) : ∃ n rw, sh[k]? = some (.inr (3, n, rw)) ∧ mm_in i n ∧ rw[i.toNatClampNeg]? = some q := by
  unfold mm_grid at h
  split at h
  · rename_i d n rw hs
    split at h
    · rename_i hc
      subst hc
      split at h
      · exact ⟨n, rw, hs, by assumption, h⟩
      · cases h
    · cases h
  · cases h
theorem mm_cargs_inv {sh : List mm_Sh} {na ci : Nat} {st : List Value} {q : List Value × List Value} (h : mm_cargs sh na ci st = some q) : ∃ k As fs, q.1 = .ref k :: As ∧ sh[k]? = some (.inl (ci, fs)) ∧ st = As.reverse ++ .ref k :: q.2 ∧ q.2.length ≤ 4 ∧ As.length + 1 = na := by
  unfold mm_cargs at h
  split at h
  · rename_i k As he
    split at h
    · rename_i c fs hs
      split at h
      · rename_i hc
        simp only [Bool.and_eq_true, decide_eq_true_eq] at hc
        obtain ⟨rfl, h1, h2⟩ := hc
        cases h
        have e : st.take na = As.reverse ++ [.ref k] := by
          have := congrArg List.reverse he
          rw [List.reverse_reverse] at this
          rw [this]; simp
        have hl : As.length + 1 = na := by
          have := congrArg List.length he
          simp at this
          omega
        refine ⟨k, As, fs, rfl, hs, ?_, h1, hl⟩
        show st = As.reverse ++ .ref k :: st.drop na
        conv => lhs; rw [← List.take_append_drop na st, e]
        simp
      · cases h
    · cases h
  · cases h
theorem mm_sargs_inv {na : Nat} {st : List Value} {q : List Value × List Value} (h : mm_sargs na st = some q) : st = q.1.reverse ++ q.2 ∧ q.2.length ≤ 4 ∧ q.1.length = na := by
  unfold mm_sargs at h
  split at h
  · rename_i hc
    simp only [Bool.and_eq_true, decide_eq_true_eq] at hc
    cases h
    refine ⟨by simp, hc.1, ?_⟩
    simp
    omega
  · cases h
theorem mm_cats (a : Nat → Nat) (st : List Value) (h : st.length ≤ 4) : (((st.map (mm_rho a)).map fun v => v.category).sum) ≤ 8 := by
  have key : ∀ l : List Value, ((l.map fun v => v.category).sum) ≤ 2 * l.length := by
    intro l
    induction l with
    | nil => simp
    | cons v l ih =>
      rcases lv_cat v with h | h <;> simp [h] <;> omega
  have := key (st.map (mm_rho a))
  rw [List.length_map] at this
  omega
