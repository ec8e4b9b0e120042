/-! the constructors: what is the same for all -/
def kAO (U : State) : Prop := (Jvm.Cond.arrayOver (.array .int)).before #[] U = true
theorem kAO.moved {u U : State} (hvm : u.vm.Alike U.vm) (h : kAO u) : kAO U := arrayOver_alikeB hvm h
theorem kAO.use {U : State} {A : Array Value} (h : kAO U) : (Jvm.Cond.arrayOver (.array .int)).before A U = true := arrayOver_alikeB (Vm.Alike.refl U.vm) h
theorem kAO.of {U : State} {A : Array Value} (h : (Jvm.Cond.arrayOver (.array .int)).before A U = true) : kAO U := arrayOver_alikeB (Vm.Alike.refl U.vm) h
def kNst : mm_N := [("WiringContainer", 36, ⟨"WiringContainer$InstanceTable", "<init>", "()V"⟩, "WiringContainer"), ("WiringContainer", 43, ⟨"WiringContainer$ContextTable", "<init>", "()V"⟩, "WiringContainer")]
def kN (D : va_G) (ca : Nat → ClassId) (U : State) : Prop := va_K D ww_cl (mm_tys ca) U ∧ kAO U ∧ mm_Nk kNst U
theorem kN.warm {D : va_G} {ca : Nat → ClassId} {s U : State} (hW : s.WarmedH U.vm) (h : kN D ca s) : kN D ca U := ⟨va_K.moved hW.alike h.1, kAO.moved hW.alike h.2.1, fun w hw => va_Nw.warmM hW (h.2.2 w hw)⟩
def kPc (D : va_G) (ca : Nat → ClassId) (av : List Value) (ws : va_W) (sz : Nat) : Array Value → State → Prop := va_Pc av (fun U => U.heap.size = sz ∧ va_P D ww_cl ws U.heap ∧ kN D ca U ∧ va_D (fun _ => True) ws)
theorem kPc_blind {D : va_G} {ca : Nat → ClassId} {av : List Value} {ws : va_W} {sz : Nat} : FrameBlind (kPc D ca av ws sz) := fun a U g mk q => by
  obtain ⟨q0, q1, qP, ⟨qK, qA, qN⟩, qD⟩ := q
  exact ⟨q0, q1, qP, ⟨va_K.moved (u := U) (U := U.calling g mk a) (Vm.Alike.refl U.vm) qK, kAO.moved (u := U) (U := U.calling g mk a) (Vm.Alike.refl U.vm) qA, fun w hw => va_Nw.same (u := U) (U := U.calling g mk a) rfl rfl (qN w hw)⟩, qD⟩
def kRows (ca : Nat → ClassId) (q N M : Nat) : va_W := (q, .inl (ca 3, N, .inr (.inr (.inr (.inr (fun i => ((List.range N).map (fun j => q + 1 + j))[i]?)))))) :: (List.range N).map (fun i => (q + 1 + i, .inl (ca 0, M, .inl fun _ => 0)))
theorem kRows_at {ca : Nat → ClassId} {q N M k : Nat} {x : Nat × va_E} (h : (kRows ca q N M)[k]? = some x) : x.1 = q + k ∧ (k = 0 ∧ x = (q, .inl (ca 3, N, .inr (.inr (.inr (.inr (fun i => ((List.range N).map (fun j => q + 1 + j))[i]?)))))) ∨ ∃ j, k = j + 1 ∧ j < N ∧ x = (q + 1 + j, .inl (ca 0, M, .inl fun _ => 0))) := by
  cases k with
  | zero =>
    have e := Option.some.inj h
    subst e
    exact ⟨rfl, Or.inl ⟨rfl, rfl⟩⟩
  | succ j =>
    have h2 : ((List.range N).map (fun i => ((q + 1 + i, .inl (ca 0, M, .inl fun _ => 0)) : Nat × va_E)))[j]? = some x := h
    rw [List.getElem?_map] at h2
    by_cases hj : j < N
    · rw [List.getElem?_range hj] at h2
      have e := Option.some.inj h2
      subst e
      exact ⟨by show q + 1 + j = q + (j + 1); omega, Or.inr ⟨j, rfl, hj, rfl⟩⟩
    · rw [List.getElem?_eq_none (by rw [List.length_range]; omega)] at h2
      cases h2
theorem k_outer (c : ClassId) (N h0 : Nat) : ∀ i : Nat, Jvm.Free.Multi.outerC c N h0 i = arrV c N (fun j => va_rf (if j < i then some (h0 + 1 + j) else none))
  | 0 => by
    show ({ cls := c, slots := Array.replicate N .null, vm := .none } : Cell) = _
    rw [arrV_new]
    refine congrArg (arrV c N) (funext fun j => ?_)
    simp [va_rf]
  | i + 1 => by
    show (Jvm.Free.Multi.outerC c N h0 i).setSlot i (.ref (h0 + 1 + i)) = _
    rw [k_outer c N h0 i, arrV_store]
    refine congrArg (arrV c N) (funext fun j => ?_)
    by_cases e : j = i
    · subst e
      simp [updV, va_rf]
    · by_cases h : j < i
      · simp [updV, e, h, Nat.lt_succ_of_lt h]
      · simp [updV, e, h, show ¬ j < i + 1 by omega]
theorem k_row (h0 N : Nat) : (fun i => if i < N then some (h0 + 1 + i) else none) = fun i => ((List.range N).map (fun j => h0 + 1 + j))[i]? := by
  funext i
  rw [List.getElem?_map]
  by_cases h : i < N
  · rw [if_pos h, List.getElem?_range h]; rfl
  · rw [if_neg h, List.getElem?_eq_none (by rw [List.length_range]; omega)]; rfl
section KC
variable {p : Program} {l : Launch} {e : Env} {R : Room} {s : State} {m : MethodId} {args : Array Value} {below : List Frame} {meth : Method} {c : Code} {H : Heap} {locs : List Loc} {cells slots : Nat} {Q : State → Prop}
variable {cc : ByteArray} {pc : Nat} {ls : Array Slot} {rest : List Value} {D : va_G} {cl : List vw_C} {A : Nat → Prop} {ca : Nat → ClassId} {ws : va_W} {H0 : Heap}
theorem k_newa (hexec : p.tables.exec = Jvm.exec) (hb : c.code = cc) {atype : ArrayType} (harr : (Jvm.Cond.arrayClass (newarray.typeOf atype)).before args s = true) {ty : FieldType} (hty : newarray.typeOf atype = ty) (kd : Nat) (hkd : (mm_tys ca)[kd]? = some (ca kd, ty)) (hRA : ∀ x, va_RA s x ty → s.vm.findClass ("[" ++ ty.toString) = some x) (hK : va_K D cl (mm_tys ca) s) (hP : va_P D cl ws H) (hD : va_D A ws) (hS : va_S A H0 H locs) (hA : ∀ q, H0.size ≤ q → A q)
    {n : Int32} {N' : Nat} {a0 : vp_A} (ha : ∀ cA : ClassId, vp_cell cA a0 = arrV cA N' (fun _ => defaultValue ty)) (hn : ¬ n < 0) (hN : n.toNatClampNeg = N') (hbytes : N' * componentBytes ty ≤ 536870912) (hcells : cells + 1 ≤ R.cells) (hslots : slots + N' ≤ R.slots) (hdg : decode cc pc = .ok (.newarray atype, 2))
    (kk : ∀ (q : Nat) (H1 : Heap), va_P D cl (ws ++ [(q, .inl (ca kd, a0))]) H1 → va_D A (ws ++ [(q, .inl (ca kd, a0))]) → va_S A H0 H1 locs →
      W p l e R s m args below meth c H1 locs (cells + 1) (slots + N') Q (F0 m (pc + 2) ls (.ref q :: rest))) : W p l e R s m args below meth c H locs cells slots Q (F0 m pc ls (.int n :: rest)) := by
  refine va_newa hexec hb harr hty hK hP hD hS hA ha hn hN hbytes hcells hslots hdg (fun q cA H1 hK1 hP1 hD1 hS1 => ?_)
  have h1 := hRA _ (hK.2 kd _ hkd).2
  have h2 := hRA _ (hK1.2 4 (cA, ty) rfl).2
  have e : cA = ca kd := Option.some.inj (h2.symm.trans h1)
  subst e
  exact kk q H1 hP1 hD1 hS1
theorem k_mna (hexec : p.tables.exec = Jvm.exec) (hb : c.code = cc) {own : String} {index : Nat} (hown : s.vm.findClass own = some m.cls) (hclink : (Jvm.Cond.classLink own index "[[I").before args s = true) (hover : kAO s) (harr : (Jvm.Cond.arrayClass .int).before args s = true)
    (hK : va_K D cl (mm_tys ca) s) (hP : va_P D cl ws H) (hD : va_D A ws) (hS : va_S A H0 H locs) (hA : ∀ q, H0.size ≤ q → A q) {n k : Int32} {N M : Nat} (hn : ¬ n < 0) (hk : ¬ k < 0) (hN : n.toNatClampNeg = N) (hM : k.toNatClampNeg = M)
    (hb1 : N * 4 ≤ 536870912) (hb2 : M * componentBytes .int ≤ 536870912) (hb3 : M ≤ 536870912) (hcells : cells + (1 + N) ≤ R.cells) (hslots : slots + (N + N * M) ≤ R.slots) (hdg : decode cc pc = .ok (.multianewarray index 2, 4))
    (kk : ∀ (q : Nat) (H1 : Heap), va_P D cl (ws ++ kRows ca q N M) H1 → va_D A (ws ++ kRows ca q N M) → va_S A H0 H1 locs → W p l e R s m args below meth c H1 locs (cells + 1 + N) (slots + N + N * M) Q (F0 m (pc + 4) ls (.ref q :: rest))) : W p l e R s m args below meth c H locs cells slots Q (F0 m pc ls (.int k :: .int n :: rest)) := by
  subst hN
  subst hM
  intro T hT Xs
  obtain ⟨vm₁, cA, comp, -, fA, fC, -, -, X', step⟩ := Xs.multianewarray2F (ty := .int) hexec hown hclink (kAO.use hover) harr (g := F0 m pc ls (.int k :: .int n :: rest)) rfl (by rw [hb]; exact hdg) rfl hn hk hb1 hb2 hb3 rfl rfl hcells hslots
  have e3 : cA = ca 3 := Option.some.inj (fA.symm.trans (hK.2 3 (ca 3, .array .int) rfl).2)
  have e0 : comp = ca 0 := Option.some.inj (fC.symm.trans (hK.2 0 (ca 0, .int) rfl).2)
  subst e3
  subst e0
  generalize hF : Jvm.Free.Multi.fill (T.setVm vm₁) (ca 3) (ca 0) n.toNatClampNeg k.toNatClampNeg (defaultValue .int) n.toNatClampNeg = F at X' step
  have hTh : (T.setVm vm₁).heap = H := hT
  obtain ⟨f1, f2, -, -⟩ := Jvm.Free.Multi.fill_facts (T.setVm vm₁) (ca 3) (ca 0) n.toNatClampNeg k.toNatClampNeg (defaultValue .int) n.toNatClampNeg
  rw [hF, hTh] at f1 f2
  have hold : ∀ x : Nat, x < H.size → F.heap[x]? = H[x]? := fun x hx => by
    have := Jvm.Free.Multi.fill_old (T.setVm vm₁) (ca 3) (ca 0) n.toNatClampNeg k.toNatClampNeg (defaultValue .int) (a := x) (by rw [hTh]; exact hx) n.toNatClampNeg
    rw [hF, hTh] at this
    exact this
  have hrow : ∀ j : Nat, j < n.toNatClampNeg → F.heap[H.size + 1 + j]? = some (vp_cell (ca 0) (k.toNatClampNeg, .inl fun _ => 0)) := fun j hj => by
    have := Jvm.Free.Multi.fill_inner (T.setVm vm₁) (ca 3) (ca 0) n.toNatClampNeg k.toNatClampNeg (defaultValue .int) n.toNatClampNeg j hj
    rw [hF, hTh] at this
    rw [this, vp_cell_i]
    exact congrArg some (arrV_new _ _ _)
  have hout : F.heap[H.size]? = some (vp_cell (ca 3) (n.toNatClampNeg, .inr (.inr (.inr (.inr (fun i => ((List.range n.toNatClampNeg).map (fun j => H.size + 1 + j))[i]?)))))) := by
    rw [f2, vp_cell_q, k_outer]
    refine congrArg (fun z => some (arrV (ca 3) n.toNatClampNeg z)) (funext fun j => ?_)
    exact congrArg va_rf (congrFun (k_row H.size n.toNatClampNeg) j)
  have hP0 : va_P D cl ws F.heap := hP.kept (fun k9 x hx => hold x.1 ((hP k9 x hx).lt))
  have hP1 : va_P D cl (ws ++ kRows ca H.size n.toNatClampNeg k.toNatClampNeg) F.heap := hP0.app (fun k9 x hx => by
    obtain ⟨-, ⟨-, rfl⟩ | ⟨j, -, hj, rfl⟩⟩ := kRows_at hx
    · exact hout
    · exact hrow j hj)
  have hD1 : va_D A (ws ++ kRows ca H.size n.toNatClampNeg k.toNatClampNeg) := hD.app ⟨fun i j x y hi hj hxy => by
    have h1 := (kRows_at hi).1
    have h2 := (kRows_at hj).1
    omega, fun k9 x hx => hA _ (by have h1 := (kRows_at hx).1; have := hS.1; omega)⟩ (fun i j x y hi hj hxy => by
    have h1 := (hP i x hi).lt
    have h2 := (kRows_at hj).1
    omega)
  obtain ⟨t, a1, b1⟩ := kk H.size F.heap hP1 hD1 ⟨by rw [f1]; have := hS.1; omega, fun x h1 h2 => (hold x (Nat.lt_of_lt_of_le h1 hS.1)).trans (hS.2.1 x h1 h2), hS.2.2⟩ F rfl X'
  refine ⟨t, step t ?_, b1⟩
  have e9 : T.heap.size = H.size := by rw [hT]
  rw [e9]
  exact a1
end KC
