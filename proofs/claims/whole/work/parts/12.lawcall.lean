/-! a call out of the law: its world is the class's cells beside the reference's; the call changes one of them alone -/
theorem lq_adr {A : Nat → Prop} {w w' : va_W} (h : w.map Prod.fst = w'.map Prod.fst) (hD : va_D A w) : va_D A w' := by
  have key : ∀ (k : Nat) (q : Nat × va_E), w'[k]? = some q → ∃ q0, w[k]? = some q0 ∧ q0.1 = q.1 := by
    intro k q hk
    have h1 : (w'.map Prod.fst)[k]? = some q.1 := by rw [List.getElem?_map, hk]; rfl
    rw [← h, List.getElem?_map] at h1
    cases hw : w[k]? with
    | none => rw [hw] at h1; cases h1
    | some q0 => rw [hw] at h1; exact ⟨q0, rfl, Option.some.inj h1⟩
  refine ⟨fun i j x y hi hj hxy => ?_, fun k q hk => ?_⟩
  · obtain ⟨x0, h1, h2⟩ := key i x hi
    obtain ⟨y0, h3, h4⟩ := key j y hj
    exact hD.1 i j x0 y0 h1 h3 (h2.trans (hxy.trans h4.symm))
  · obtain ⟨q0, h1, h2⟩ := key k q hk
    rw [← h2]
    exact hD.2 k q0 h1
theorem lq_woadr (sh : List mm_Sh) (ca : Nat → ClassId) (a : Nat → Nat) (σ σ' : mm_S) : (mm_wo sh ca a σ).map Prod.fst = (mm_wo sh ca a σ').map Prod.fst := by
  unfold mm_wo
  apply List.ext_getElem?
  intro i
  rw [List.getElem?_map, List.getElem?_map, List.getElem?_mapIdx, List.getElem?_mapIdx]
  cases sh[i]? <;> rfl
theorem lq_wolen (sh : List mm_Sh) (ca : Nat → ClassId) (a : Nat → Nat) (σ : mm_S) : (mm_wo sh ca a σ).length = sh.length := by
  unfold mm_wo
  rw [List.length_mapIdx]
theorem lq_mid {X Z Y : va_W} {i : Nat} {q : Nat × va_E} (h : Z[i]? = some q) : (X ++ (Z ++ Y))[X.length + i]? = some q := by
  have hl := (List.getElem?_eq_some_iff.mp h).1
  rw [List.getElem?_append_right (by omega), show X.length + i - X.length = i by omega, List.getElem?_append_left hl]
  exact h
theorem lq_split {X Z Y : va_W} {k : Nat} {q : Nat × va_E} (h : (X ++ (Z ++ Y))[k]? = some q) : (∃ i, i < Z.length ∧ k = X.length + i ∧ Z[i]? = some q) ∨ ((k < X.length ∨ X.length + Z.length ≤ k) ∧ ∀ Z' : va_W, Z'.length = Z.length → (X ++ (Z' ++ Y))[k]? = some q) := by
  by_cases h1 : k < X.length
  · refine Or.inr ⟨Or.inl h1, fun Z' hz => ?_⟩
    rw [List.getElem?_append_left h1] at h ⊢
    exact h
  · rw [List.getElem?_append_right (by omega)] at h
    by_cases h2 : k - X.length < Z.length
    · rw [List.getElem?_append_left h2] at h
      exact Or.inl ⟨k - X.length, h2, by omega, h⟩
    · refine Or.inr ⟨Or.inr (by omega), fun Z' hz => ?_⟩
      rw [List.getElem?_append_right (by omega)] at h
      rw [List.getElem?_append_right (by omega), List.getElem?_append_right (by omega), hz]
      exact h
theorem lq_Dmid {A : Nat → Prop} {X Z Y : va_W} (hD : va_D A (X ++ (Z ++ Y))) : va_D A Z := by
  refine ⟨fun i j x y hi hj hxy => ?_, fun k q hk => hD.2 _ _ (lq_mid hk)⟩
  have := hD.1 _ _ x y (lq_mid hi) (lq_mid hj) hxy
  omega
set_option maxHeartbeats 4000000 in
theorem lq_call {tbl : List Jvm.Cond} {nst : mm_N} {cl : List vw_C} {nm : Nat → String} {sh : List mm_Sh} {P : List mm_M} {K : mm_Lk} (hO : mm_OK tbl nst cl nm sh P K) {D : va_G} {ca : Nat → ClassId} {a : Nat → Nat} {p : Program} {l : Launch} {e : Env} {R : Room} {s : State} {m : MethodId} {args : Array Value} {below : List Frame} {meth : Method} {c : Code} {H : Heap} {locs : List Loc} {cells slots : Nat} {Q : State → Prop} {own : String} {cc : ByteArray} {nL : Nat}
    (hx : p.tables.exec = Jvm.exec) (hb : c.code = cc) (hml : c.maxLocals = nL) (hown : s.vm.findClass own = some m.cls) (hts : ∀ w ∈ tbl, w.before args s = true) (hK : va_K D cl (mm_tys ca) s) (hN : mm_Nk nst s) {A : Nat → Prop} (X Y : va_W) {σ : mm_S} (hP : va_P D cl (X ++ (mm_wo sh ca a σ ++ Y)) H) (hD : va_D A (X ++ (mm_wo sh ca a σ ++ Y))) (hS : va_S A s.heap H locs) (hA : ∀ q, s.heap.size ≤ q → A q)
    {d k k0 ci idx N : Nat} {u : mm_R} {M : mm_M} {fs : List (Nat × Nat)} {T : u_T} (As : List Value) (hG : mm_G sh P d k (.ref k0 :: As) σ = some u) (hM : P[k]? = some M) (hs : sh[k0]? = some (.inl (ci, fs))) (hcl : cl[ci]? = some (M.2.1.cls, T, N)) (w1 : Jvm.Cond.methodLink own idx M.2.1 ∈ tbl) (w2 : Jvm.Cond.instanceMethod M.2.1 ∈ tbl) (w3 : Jvm.Cond.selects M.2.1.cls M.2.1 M.2.1 ∈ tbl) (hpar : mm_par M.2.1 As.length) (hR : d + 1 ≤ R.frames ∧ 39 + 40 * d ≤ R.locals)
    {rest : List Value} {ls : Array Slot} {pc : Nat} (hsz : ls.size = nL) (hrest : (rest.map fun v => v.category).sum ≤ 8) (hdg : decode cc pc = .ok (.invokevirtual idx, 3)) (hcs : cells ≤ R.cells ∧ slots ≤ R.slots)
    (kk : ∀ (H1 : Heap) (locs1 : List Loc), va_P D cl (X ++ (mm_wo sh ca a u.2.2 ++ Y)) H1 → va_D A (X ++ (mm_wo sh ca a u.2.2 ++ Y)) → va_S A s.heap H1 locs1 → W p l e R s m args below meth c H1 locs1 cells slots Q (F0 m (pc + 3) ls ((mm_rv (mm_rk M.2.2.2.2.1) u).toList ++ rest))) :
    W p l e R s m args below meth c H locs cells slots Q (F0 m pc ls ((As.map (mm_rho a)).reverse ++ .ref (a k0) :: rest)) := by
  obtain ⟨m1, m2, m3, m4, m5, m6, -, -, -⟩ := hO.2.2.2.1 M (List.mem_of_getElem? hM)
  have hPm : va_P D cl (mm_wo sh ca a σ) H := fun i q h => hP _ _ (lq_mid h)
  have hDm := lq_Dmid hD
  have hcon := mm_all hO l D ca a d k _ σ u M hG hM H.size
  have hrun := va_runV (e := e) (below := below) (meth := meth) (R := R) (g := F0 m pc ls ((As.map (mm_rho a)).reverse ++ .ref (a k0) :: rest)) (C := M.2.1.cls) (As := As.map (mm_rho a)) (rest := rest) (b := a k0) (locs := locs) (cells := cells) (slots := slots) ⟨hx, hb, hml, hown, hts⟩ hcon ⟨callB_of As.length hts (mm_good hO.1 m1) rfl rfl rfl (hts _ m2) (hts _ w1) ⟨m5.1, m5.2, hpar⟩ ⟨hR.1, by show 8 + (M.2.2.2.1 + 11) + 40 * d ≤ R.locals; omega⟩, hts _ w2, hts _ w3⟩
    ⟨mm_blind, va_recv hK hPm hcl (mm_wo_at hs), fun U hU hW => ⟨rfl, by rw [hU], by rw [hU]; exact hPm, va_K.moved hW.alike hK, hDm.weaken (fun _ _ _ _ => trivial), fun w hw => va_Nw.warmM hW (hN w hw)⟩⟩ rfl (by rw [List.length_map]) hsz rfl (lv_room hrest) hdg ⟨by omega, by omega⟩
  intro T0 hT X0
  obtain ⟨v, st₀, t, T', L, h0, X', hL, e1, e2, ⟨⟨hv, hp, hk, hd⟩, hz, hf⟩, st⟩ := hrun T0 hT X0
  cases hv
  rw [h0] at hz hf
  have hAA : ∀ q, va_A (mm_wo sh ca a σ) H.size q → A q := by
    intro q h
    rcases h with ⟨i, e9, h⟩ | h
    · exact hDm.2 i (q, e9) h
    · exact hA q (Nat.le_trans hS.1 h)
  have hP1 : va_P D cl (X ++ (mm_wo sh ca a u.2.2 ++ Y)) t.heap := by
    intro i q hi
    rcases lq_split hi with ⟨j, h1, h2, h3⟩ | ⟨h1, h2⟩
    · exact hp j q h3
    · have hi2 := h2 (mm_wo sh ca a σ) (by rw [lq_wolen, lq_wolen])
      refine (hP i q hi2).kept (hf q.1 (hP i q hi2).lt (fun z => ?_))
      rcases z with ⟨j, e9, z⟩ | z
      · have := hD.1 i (X.length + j) q (q.1, e9) hi2 (lq_mid z) rfl
        have hj := (List.getElem?_eq_some_iff.mp z).1
        rw [lq_wolen] at hj h1
        omega
      · have := (hP i q hi2).lt
        omega
  have hD1 : va_D A (X ++ (mm_wo sh ca a u.2.2 ++ Y)) := lq_adr (by rw [List.map_append, List.map_append, List.map_append, List.map_append, lq_woadr sh ca a σ u.2.2]) hD
  obtain ⟨t2, a1, b1⟩ := kk T'.heap (locs ++ L) (by rw [e1]; exact hP1) hD1
    ⟨Nat.le_trans hS.1 (by rw [e1]; exact hz), fun q h1 h2 => by rw [e1, hf q (Nat.lt_of_lt_of_le h1 hS.1) (fun z => h2 (hAA q z))]; exact hS.2.1 q h1 h2, fun q hq => by
      rcases List.mem_append.mp hq with h | h
      · exact hS.2.2 q h
      · exact hAA _ (hL q h)⟩ T' rfl X'
  exact ⟨t2, st t2 a1, b1⟩
theorem lq_callL {tbl : List Jvm.Cond} {nst : mm_N} {cl : List vw_C} {nm : Nat → String} {sh : List mm_Sh} {P : List mm_M} {K : mm_Lk} (hO : mm_OK tbl nst cl nm sh P K) {D : va_G} {ca : Nat → ClassId} {a : Nat → Nat} {p : Program} {l : Launch} {e : Env} {R : Room} {s : State} {m : MethodId} {args : Array Value} {below : List Frame} {meth : Method} {c : Code} {H : Heap} {locs : List Loc} {cells slots : Nat} {Q : State → Prop} {own : String} {cc : ByteArray} {nL : Nat}
    (hx : p.tables.exec = Jvm.exec) (hb : c.code = cc) (hml : c.maxLocals = nL) (hown : s.vm.findClass own = some m.cls) (hts : ∀ w ∈ tbl, w.before args s = true) (hK : va_K D cl (mm_tys ca) s) (hN : mm_Nk nst s) {A : Nat → Prop} (Y : va_W) {σ : mm_S} (hP : va_P D cl (mm_wo sh ca a σ ++ Y) H) (hD : va_D A (mm_wo sh ca a σ ++ Y)) (hS : va_S A s.heap H locs) (hA : ∀ q, s.heap.size ≤ q → A q)
    {d k k0 ci idx N : Nat} {u : mm_R} {M : mm_M} {fs : List (Nat × Nat)} {T : u_T} (As : List Value) (hG : mm_G sh P d k (.ref k0 :: As) σ = some u) (hM : P[k]? = some M) (hs : sh[k0]? = some (.inl (ci, fs))) (hcl : cl[ci]? = some (M.2.1.cls, T, N)) (w1 : Jvm.Cond.methodLink own idx M.2.1 ∈ tbl) (w2 : Jvm.Cond.instanceMethod M.2.1 ∈ tbl) (w3 : Jvm.Cond.selects M.2.1.cls M.2.1 M.2.1 ∈ tbl) (hpar : mm_par M.2.1 As.length) (hR : d + 1 ≤ R.frames ∧ 39 + 40 * d ≤ R.locals)
    {rest : List Value} {ls : Array Slot} {pc : Nat} (hsz : ls.size = nL) (hrest : (rest.map fun v => v.category).sum ≤ 8) (hdg : decode cc pc = .ok (.invokevirtual idx, 3)) (hcs : cells ≤ R.cells ∧ slots ≤ R.slots)
    {st st2 : List Value} (hst : st = (As.map (mm_rho a)).reverse ++ .ref (a k0) :: rest) (hst2 : st2 = (mm_rv (mm_rk M.2.2.2.2.1) u).toList ++ rest)
    (kk : ∀ (H1 : Heap) (locs1 : List Loc), va_P D cl (mm_wo sh ca a u.2.2 ++ Y) H1 → va_D A (mm_wo sh ca a u.2.2 ++ Y) → va_S A s.heap H1 locs1 → W p l e R s m args below meth c H1 locs1 cells slots Q (F0 m (pc + 3) ls st2)) :
    W p l e R s m args below meth c H locs cells slots Q (F0 m pc ls st) := by
  subst hst
  subst hst2
  exact lq_call hO hx hb hml hown hts hK hN [] Y (by rw [List.nil_append]; exact hP) (by rw [List.nil_append]; exact hD) hS hA As hG hM hs hcl w1 w2 w3 hpar hR hsz hrest hdg hcs (fun H1 locs1 h1 h2 h3 => kk H1 locs1 (by rw [List.nil_append] at h1; exact h1) (by rw [List.nil_append] at h2; exact h2) h3)
theorem lq_callR {tbl : List Jvm.Cond} {nst : mm_N} {cl : List vw_C} {nm : Nat → String} {sh : List mm_Sh} {P : List mm_M} {K : mm_Lk} (hO : mm_OK tbl nst cl nm sh P K) {D : va_G} {ca : Nat → ClassId} {a : Nat → Nat} {p : Program} {l : Launch} {e : Env} {R : Room} {s : State} {m : MethodId} {args : Array Value} {below : List Frame} {meth : Method} {c : Code} {H : Heap} {locs : List Loc} {cells slots : Nat} {Q : State → Prop} {own : String} {cc : ByteArray} {nL : Nat}
    (hx : p.tables.exec = Jvm.exec) (hb : c.code = cc) (hml : c.maxLocals = nL) (hown : s.vm.findClass own = some m.cls) (hts : ∀ w ∈ tbl, w.before args s = true) (hK : va_K D cl (mm_tys ca) s) (hN : mm_Nk nst s) {A : Nat → Prop} (X Y : va_W) {σ : mm_S} (hP : va_P D cl (X ++ (mm_wo sh ca a σ ++ Y)) H) (hD : va_D A (X ++ (mm_wo sh ca a σ ++ Y))) (hS : va_S A s.heap H locs) (hA : ∀ q, s.heap.size ≤ q → A q)
    {d k k0 ci idx N : Nat} {u : mm_R} {M : mm_M} {fs : List (Nat × Nat)} {T : u_T} (As : List Value) (hG : mm_G sh P d k (.ref k0 :: As) σ = some u) (hM : P[k]? = some M) (hs : sh[k0]? = some (.inl (ci, fs))) (hcl : cl[ci]? = some (M.2.1.cls, T, N)) (w1 : Jvm.Cond.methodLink own idx M.2.1 ∈ tbl) (w2 : Jvm.Cond.instanceMethod M.2.1 ∈ tbl) (w3 : Jvm.Cond.selects M.2.1.cls M.2.1 M.2.1 ∈ tbl) (hpar : mm_par M.2.1 As.length) (hR : d + 1 ≤ R.frames ∧ 39 + 40 * d ≤ R.locals)
    {rest : List Value} {ls : Array Slot} {pc : Nat} (hsz : ls.size = nL) (hrest : (rest.map fun v => v.category).sum ≤ 8) (hdg : decode cc pc = .ok (.invokevirtual idx, 3)) (hcs : cells ≤ R.cells ∧ slots ≤ R.slots)
    {st st2 : List Value} (hst : st = (As.map (mm_rho a)).reverse ++ .ref (a k0) :: rest) (hst2 : st2 = (mm_rv (mm_rk M.2.2.2.2.1) u).toList ++ rest)
    (kk : ∀ (H1 : Heap) (locs1 : List Loc), va_P D cl (X ++ (mm_wo sh ca a u.2.2 ++ Y)) H1 → va_D A (X ++ (mm_wo sh ca a u.2.2 ++ Y)) → va_S A s.heap H1 locs1 → W p l e R s m args below meth c H1 locs1 cells slots Q (F0 m (pc + 3) ls st2)) :
    W p l e R s m args below meth c H locs cells slots Q (F0 m pc ls st) := by
  subst hst
  subst hst2
  exact lq_call hO hx hb hml hown hts hK hN X Y hP hD hS hA As hG hM hs hcl w1 w2 w3 hpar hR hsz hrest hdg hcs kk
