/-! the small machine's rows against the machine's: one theorem for all code -/
theorem mm_ce_i {ca : Nat → ClassId} {a : Nat → Nat} {σ : mm_S} {k n : Nat} {rw : List Nat} : mm_ce ca a σ k (.inr (0, n, rw)) = .inl (ca 0, n, .inl (σ.1 k)) := rfl
theorem mm_ce_b {ca : Nat → ClassId} {a : Nat → Nat} {σ : mm_S} {k n : Nat} {rw : List Nat} : mm_ce ca a σ k (.inr (1, n, rw)) = .inl (ca 1, n, .inl (σ.1 k)) := rfl
theorem mm_ce_l {ca : Nat → ClassId} {a : Nat → Nat} {σ : mm_S} {k n : Nat} {rw : List Nat} : mm_ce ca a σ k (.inr (2, n, rw)) = .inl (ca 2, n, .inr (.inl (σ.2 k))) := rfl
theorem mm_ce_g {ca : Nat → ClassId} {a : Nat → Nat} {σ : mm_S} {k n : Nat} {rw : List Nat} : mm_ce ca a σ k (.inr (3, n, rw)) = .inl (ca 3, n, .inr (.inr (.inr (.inr (fun i => (rw[i]?).map a))))) := rfl
theorem mm_ce_o {ca : Nat → ClassId} {a : Nat → Nat} {σ : mm_S} {k ci : Nat} {fs : List (Nat × Nat)} : mm_ce ca a σ k (.inl (ci, fs)) = .inr (ci, fs.mapIdx fun j f => mm_fv a σ k j f) := rfl
theorem mm_wo_i {sh : List mm_Sh} {ca : Nat → ClassId} {a : Nat → Nat} {σ : mm_S} {k n j : Nat} {rw : List Nat} {x : Int32} (h : sh[k]? = some (.inr (0, n, rw))) : (mm_wo sh ca a σ).set k (a k, .inl (ca 0, n, .inl (upd (σ.1 k) j x))) = mm_wo sh ca a (mm_w σ.1 k j x, σ.2) :=
  mm_wo_set h (by rw [mm_ce_i]; show _ = Sum.inl (ca 0, n, Sum.inl (upd (σ.1 k) j x)); rw [show (mm_w σ.1 k j x, σ.2).1 k = upd (σ.1 k) j x from mm_w_eq]) (fun k' hk => ⟨mm_w_ne hk, rfl⟩)
theorem mm_wo_b {sh : List mm_Sh} {ca : Nat → ClassId} {a : Nat → Nat} {σ : mm_S} {k n j : Nat} {rw : List Nat} {x : Int32} (h : sh[k]? = some (.inr (1, n, rw))) : (mm_wo sh ca a σ).set k (a k, .inl (ca 1, n, .inl (upd (σ.1 k) j x))) = mm_wo sh ca a (mm_w σ.1 k j x, σ.2) :=
  mm_wo_set h (by rw [mm_ce_b]; show _ = Sum.inl (ca 1, n, Sum.inl (upd (σ.1 k) j x)); rw [show (mm_w σ.1 k j x, σ.2).1 k = upd (σ.1 k) j x from mm_w_eq]) (fun k' hk => ⟨mm_w_ne hk, rfl⟩)
theorem mm_wo_l {sh : List mm_Sh} {ca : Nat → ClassId} {a : Nat → Nat} {σ : mm_S} {k n j : Nat} {rw : List Nat} {x : Int64} (h : sh[k]? = some (.inr (2, n, rw))) : (mm_wo sh ca a σ).set k (a k, .inl (ca 2, n, .inr (.inl (vp_updL (σ.2 k) j x)))) = mm_wo sh ca a (σ.1, mm_w σ.2 k j x) :=
  mm_wo_set h (by rw [mm_ce_l]; show _ = Sum.inl (ca 2, n, Sum.inr (Sum.inl (vp_updL (σ.2 k) j x))); rw [show (σ.1, mm_w σ.2 k j x).2 k = vp_updL (σ.2 k) j x from mm_w_eq]) (fun k' hk => ⟨rfl, mm_w_ne hk⟩)
theorem mm_wo_f {sh : List mm_Sh} {ca : Nat → ClassId} {a : Nat → Nat} {σ : mm_S} {k ci j t q : Nat} {fs : List (Nat × Nat)} {x : Int32} (h : sh[k]? = some (.inl (ci, fs))) (hf : fs[j]? = some (t, q)) (ht : ¬ t = 2) : (mm_wo sh ca a σ).set k (a k, .inr (ci, (fs.mapIdx fun j f => mm_fv a σ k j f).set j (.int x))) = mm_wo sh ca a (mm_w σ.1 k j x, σ.2) := by
  refine mm_wo_set h ?_ (fun k' hk => ⟨mm_w_ne hk, rfl⟩)
  rw [mm_ce_o]
  refine congrArg (fun z => Sum.inr (ci, z)) (List.ext_getElem? fun i => ?_)
  have hl : j < fs.length := (List.getElem?_eq_some_iff.mp hf).1
  have e : mm_w σ.1 k j x k = fun j' => if j' = j then x else σ.1 k j' := mm_w_eq
  by_cases hi : i = j
  · subst hi
    rw [List.getElem?_set_self (by rw [List.length_mapIdx]; exact hl), List.getElem?_mapIdx, hf]
    simp [mm_fv, ht, e]
  · rw [List.getElem?_set_ne (Ne.symm hi), List.getElem?_mapIdx, List.getElem?_mapIdx]
    cases fs[i]? with
    | none => rfl
    | some f => simp [mm_fv, e, hi]
theorem mm_nar1 {x : Int32} (h : x = 0 ∨ x = 1) : vp_nar .boolean x = x := by rcases h with rfl | rfl <;> decide +kernel
theorem mm_nar2 {x : Int32} (h : x = 0 ∨ x = 1) : narrow .boolean (.int x) = .int x := by rcases h with rfl | rfl <;> decide +kernel
theorem mm_fit2 {x : Int32} (h : x = 0 ∨ x = 1) : fits .boolean (.int x) = true := by rcases h with rfl | rfl <;> decide +kernel
theorem mm_rk_0 {ret : Option FieldType} (h : mm_rk ret = 0) : ret = none := by
  unfold mm_rk at h; split at h <;> first | rfl | cases h
theorem mm_rk_1 {ret : Option FieldType} (h : mm_rk ret = 1) : ret = some .int := by
  unfold mm_rk at h; split at h <;> first | rfl | cases h
theorem mm_rk_2 {ret : Option FieldType} (h : mm_rk ret = 2) : ret = some .long := by
  unfold mm_rk at h; split at h <;> first | rfl | cases h
theorem mm_rk_3 {ret : Option FieldType} (h : mm_rk ret = 3) : ret = some .boolean := by
  unfold mm_rk at h; split at h <;> first | rfl | cases h
theorem mm_blind {sh : List mm_Sh} {cl : List vw_C} {D : va_G} {ca : Nat → ClassId} {a : Nat → Nat} {nst : mm_N} {As : List Value} {σ : mm_S} {sz : Nat} : FrameBlind (mm_Pc nst sh cl D ca a As σ sz) := fun a U g mk q => by
  obtain ⟨q0, q1, qP, qK, qD, qN⟩ := q
  exact ⟨q0, q1, qP, va_K.moved (u := U) (U := U.calling g mk a) (Vm.Alike.refl U.vm) qK, qD, fun w hw => va_Nw.same (u := U) (U := U.calling g mk a) rfl rfl (qN w hw)⟩
section MMC
variable {p : Program} {l : Launch} {e : Env} {R : Room} {s : State} {m : MethodId} {args : Array Value} {below : List Frame} {meth : Method} {c : Code} {H : Heap} {locs : List Loc} {Q : State → Prop}
theorem mm_callW {sh : List mm_Sh} {cl : List vw_C} {D : va_G} {ca : Nat → ClassId} {a : Nat → Nat} {rk pc : Nat} {u : mm_R} {A A1 : Nat → Prop} {a2 : Array Value} {ls : Array Slot} {st0 rest : List Value} (hr : va_Run p l e R s m args below meth c H locs 0 0 0 0 (F0 m pc ls st0) rest (mm_Q sh cl D ca a rk u A1 a2) A1) (hS : va_S A s.heap H locs) (hAA : ∀ q, A1 q → A q)
    (kk : ∀ (H1 : Heap) (locs1 : List Loc), va_P D cl (mm_wo sh ca a u.2.2) H1 → va_D A1 (mm_wo sh ca a u.2.2) → va_S A s.heap H1 locs1 → W p l e R s m args below meth c H1 locs1 0 0 Q (F0 m (pc + 3) ls ((mm_rv rk u).toList ++ rest))) : W p l e R s m args below meth c H locs 0 0 Q (F0 m pc ls st0) := by
  intro T hT X
  obtain ⟨v, st₀, t, T', L, h0, X', hL, e1, e2, ⟨⟨hv, hp, hk, hd⟩, hz, hf⟩, st⟩ := hr T hT X
  cases hv
  rw [h0] at hz hf
  obtain ⟨t2, a1, b1⟩ := kk T'.heap (locs ++ L) (by rw [e1]; exact hp) hd
    ⟨Nat.le_trans hS.1 (by rw [e1]; exact hz), fun q h1 h2 => by rw [e1, hf q (Nat.lt_of_lt_of_le h1 hS.1) (fun z => h2 (hAA q z))]; exact hS.2.1 q h1 h2, fun q hq => by
      rcases List.mem_append.mp hq with h | h
      · exact hS.2.2 q h
      · exact hAA _ (hL q h)⟩ T' rfl X'
  exact ⟨t2, st t2 a1, b1⟩
end MMC
set_option maxHeartbeats 4000000 in
set_option maxRecDepth 100000 in
theorem mm_body {tbl : List Jvm.Cond} {nst : mm_N} {cl : List vw_C} {nm : Nat → String} {sh : List mm_Sh} {P : List mm_M} {K : mm_Lk} (hO : mm_OK tbl nst cl nm sh P K) {D : va_G} {ca : Nat → ClassId} {a : Nat → Nat} {p : Program} {l : Launch} {e : Env} {s : State} {m : MethodId} {args : Array Value} {below : List Frame} {meth : Method} {c : Code} {R rm : Room} {call : Nat → List Value → mm_S → Option mm_R} {o : Nat} {cc : ByteArray} {maxL : Nat} {ret : Option FieldType} {labs : List (Nat × List mm_Row)}
    (hx : p.tables.exec = Jvm.exec) (hb : c.code = cc) (hml : c.maxLocals = maxL) (hown : s.vm.findClass (nm o) = some m.cls) (hts : ∀ w ∈ tbl, w.before args s = true) (hr : meth.sig.returnType = ret) (hlocks : meth.locks = false) (hK : va_K D cl (mm_tys ca) s) (hN : mm_Nk nst s) (hR : rm.frames + 1 ≤ R.frames ∧ 39 + rm.locals ≤ R.locals) (hrc : rm.cells = 0 ∧ rm.slots = 0)
    (hcall : ∀ (k : Nat) (As : List Value) (σ : mm_S) (u : mm_R) (M : mm_M), call k As σ = some u → P[k]? = some M → mm_Con l tbl nst sh cl D ca a rm M As σ u)
    (hlab : ∀ q ∈ labs, mm_chk K o cc labs q.1 q.2 = true) {res : mm_R} {A : Nat → Prop} (hA : ∀ q, A q ↔ ((∃ k, k < sh.length ∧ q = a k) ∨ s.heap.size ≤ q)) :
    ∀ (n : Nat) (rows : List mm_Row) (pc : Nat) (L st : List Value) (σ : mm_S) (H : Heap) (locs : List Loc) (ls : Array Slot), mm_chk K o cc labs pc rows = true → mm_ex sh call (mm_rk ret) labs n rows L st σ = some res → va_P D cl (mm_wo sh ca a σ) H → va_D A (mm_wo sh ca a σ) → va_S A s.heap H locs → mm_lok a ls maxL L →
      W p l e R s m args below meth c H locs 0 0 (MQ below (mm_Q sh cl D ca a (mm_rk ret) res A) args s 0 0 A) (F0 m pc ls (st.map (mm_rho a))) := by
  obtain ⟨hgood, hCk, hSk, hMk, hFk, hVk, hTk, hIk, hLk⟩ := hO
  have hAA : ∀ (σ : mm_S) (H : Heap) (locs : List Loc), va_S A s.heap H locs → ∀ q, va_A (mm_wo sh ca a σ) H.size q → A q := fun σ H locs hS q h => (hA q).mpr ((mm_A_eq.mp h).imp id (fun z => Nat.le_trans hS.1 z))
  intro n
  induction n with
  | zero => intro rows pc L st σ H locs ls hc h; cases h
  | succ n ih =>
    intro rows pc L st σ H locs ls hc h hP hD hS hl
    match rows, hc, h with
    | [], _, h => cases h
    | (i, r1, r2, v, w) :: rs, hc, h =>
    obtain ⟨len, hd, hsd, hln, hcr⟩ := mm_chk_inv hc
    cases i with
    | iconst k =>
      have hln : len = 1 := by simpa [mm_len] using hln
      subst hln
      simp only [mm_ex] at h
      exact lv_iconst hx hb hd (of_decide_eq_true hsd) (ih rs _ L _ σ H locs ls hcr h hP hD hS hl)
    | bipush k =>
      have hln : len = 2 := by simpa [mm_len] using hln
      subst hln
      simp only [mm_ex] at h
      exact lv_bipush hx hb hd (of_decide_eq_true hsd) (ih rs _ L _ σ H locs ls hcr h hP hD hS hl)
    | sipush k =>
      have hln : len = 3 := by simpa [mm_len] using hln
      subst hln
      simp only [mm_ex] at h
      exact lv_sipush hx hb hd (of_decide_eq_true hsd) (ih rs _ L _ σ H locs ls hcr h hP hD hS hl)
    | lconst k =>
      have hln : len = 1 := by simpa [mm_len] using hln
      subst hln
      simp only [mm_ex] at h
      exact lv_lconst hx hb hd (of_decide_eq_true hsd) (ih rs _ L _ σ H locs ls hcr h hP hD hS hl)
    | ldc k =>
      have hln : len = 2 := by simpa [mm_len] using hln
      subst hln
      simp only [mm_ex] at h
      exact lv_ldc hx hb hown (hts _ (hIk _ (of_decide_eq_true hsd))) hd (ih rs _ L _ σ H locs ls hcr h hP hD hS hl)
    | ldc_w k =>
      have hln : len = 3 := by simpa [mm_len] using hln
      subst hln
      simp only [mm_ex] at h
      exact lv_ldcw hx hb hown (hts _ (hIk _ (of_decide_eq_true hsd))) hd (ih rs _ L _ σ H locs ls hcr h hP hD hS hl)
    | ldc2_w k =>
      have hln : len = 3 := by simpa [mm_len] using hln
      subst hln
      simp only [mm_ex] at h
      exact lv_ldc2 hx hb hown (hts _ (hLk _ (of_decide_eq_true hsd))) hd (ih rs _ L _ σ H locs ls hcr h hP hD hS hl)
    | iload k =>
      have hln : len = 2 := by simpa [mm_len] using hln
      subst hln
      simp only [mm_ex] at h
      obtain ⟨x, hx1, h⟩ := mm_bind h
      exact lv_iload hx hb hd (hl.at (mm_ldi_inv hx1) (by intro q; cases q)) (ih rs _ L _ σ H locs ls hcr h hP hD hS hl)
    | iload_n k =>
      have hln : len = 1 := by simpa [mm_len] using hln
      subst hln
      simp only [mm_ex] at h
      obtain ⟨x, hx1, h⟩ := mm_bind h
      exact lv_iload_n hx hb hd rfl (hl.at (mm_ldi_inv hx1) (by intro q; cases q)) (ih rs _ L _ σ H locs ls hcr h hP hD hS hl)
    | lload k =>
      have hln : len = 2 := by simpa [mm_len] using hln
      subst hln
      simp only [mm_ex] at h
      obtain ⟨x, hx1, h⟩ := mm_bind h
      exact lv_lload hx hb hd (hl.at (mm_ldl_inv hx1) (by intro q; cases q)) (ih rs _ L _ σ H locs ls hcr h hP hD hS hl)
    | lload_n k =>
      have hln : len = 1 := by simpa [mm_len] using hln
      subst hln
      simp only [mm_ex] at h
      obtain ⟨x, hx1, h⟩ := mm_bind h
      exact lv_lload_n hx hb hd rfl (hl.at (mm_ldl_inv hx1) (by intro q; cases q)) (ih rs _ L _ σ H locs ls hcr h hP hD hS hl)
    | aload k =>
      have hln : len = 2 := by simpa [mm_len] using hln
      subst hln
      simp only [mm_ex] at h
      obtain ⟨x, hx1, h⟩ := mm_bind h
      exact lv_aload hx hb hd (hl.at (mm_lda_inv hx1) (by intro q; cases q)) (ih rs _ L _ σ H locs ls hcr h hP hD hS hl)
    | aload_n k =>
      have hln : len = 1 := by simpa [mm_len] using hln
      subst hln
      simp only [mm_ex] at h
      obtain ⟨x, hx1, h⟩ := mm_bind h
      exact lv_aload_n hx hb hd rfl (hl.at (mm_lda_inv hx1) (by intro q; cases q)) (ih rs _ L _ σ H locs ls hcr h hP hD hS hl)
    | istore k =>
      have hln : len = 2 := by simpa [mm_len] using hln
      subst hln
      simp only [mm_ex] at h
      obtain ⟨x, s', hst, h7⟩ := mm_i1_inv h
      clear h
      subst hst
      have h := h7
      clear h7
      obtain ⟨L', hx1, h⟩ := mm_bind h
      exact lv_istore hx hb hd hl.has (by rw [← hl.2.2.1]; exact (mm_st1_inv hx1).1) rfl (fun ls' h' => ih rs _ L' _ σ H locs ls' hcr h hP hD hS (hl.st1 hx1 rfl h'))
    | istore_n k =>
      have hln : len = 1 := by simpa [mm_len] using hln
      subst hln
      simp only [mm_ex] at h
      obtain ⟨x, s', hst, h7⟩ := mm_i1_inv h
      clear h
      subst hst
      have h := h7
      clear h7
      obtain ⟨L', hx1, h⟩ := mm_bind h
      exact lv_istore_n hx hb hd rfl hl.has (by rw [← hl.2.2.1]; exact (mm_st1_inv hx1).1) rfl (fun ls' h' => ih rs _ L' _ σ H locs ls' hcr h hP hD hS (hl.st1 hx1 rfl h'))
    | lstore k =>
      have hln : len = 2 := by simpa [mm_len] using hln
      subst hln
      simp only [mm_ex] at h
      obtain ⟨x, s', hst, h7⟩ := mm_l1_inv h
      clear h
      subst hst
      have h := h7
      clear h7
      obtain ⟨L', hx1, h⟩ := mm_bind h
      exact lv_lstore hx hb hd hl.has (by rw [← hl.2.2.1]; exact (mm_st2_inv hx1).1) rfl (fun ls' h' => ih rs _ L' _ σ H locs ls' hcr h hP hD hS (hl.st2 hx1 rfl h'))
    | lstore_n k =>
      have hln : len = 1 := by simpa [mm_len] using hln
      subst hln
      simp only [mm_ex] at h
      obtain ⟨x, s', hst, h7⟩ := mm_l1_inv h
      clear h
      subst hst
      have h := h7
      clear h7
      obtain ⟨L', hx1, h⟩ := mm_bind h
      exact lv_lstore_n hx hb hd rfl hl.has (by rw [← hl.2.2.1]; exact (mm_st2_inv hx1).1) rfl (fun ls' h' => ih rs _ L' _ σ H locs ls' hcr h hP hD hS (hl.st2 hx1 rfl h'))
    | iinc k cst =>
      have hln : len = 3 := by simpa [mm_len] using hln
      subst hln
      simp only [mm_ex] at h
      obtain ⟨x, hx1, h⟩ := mm_bind h
      obtain ⟨L', hx2, h⟩ := mm_bind h
      obtain ⟨k9, hk9⟩ := List.getElem?_of_mem ((mm_prs_mem (a := a) (L := L) (q := (k, .int x))).mpr ⟨.int x, mm_ldi_inv hx1, (by intro q; cases q), rfl⟩)
      exact lv_iinc hx hb hd hl.has hk9 (by rw [of_decide_eq_true hsd]) (by rw [← hl.2.2.1]; exact (mm_st1_inv hx2).1) rfl (fun ls' h' => ih rs _ L' _ σ H locs ls' hcr h hP hD hS (hl.st1 hx2 rfl h'))
    | iadd =>
      have hln : len = 1 := by simpa [mm_len] using hln
      subst hln
      simp only [mm_ex] at h
      obtain ⟨x, y, s', hst, h7⟩ := mm_i2_inv h
      clear h
      subst hst
      have h := h7
      clear h7
      exact lv_iadd hx hb hd (ih rs _ L _ σ H locs ls hcr h hP hD hS hl)
    | isub =>
      have hln : len = 1 := by simpa [mm_len] using hln
      subst hln
      simp only [mm_ex] at h
      obtain ⟨x, y, s', hst, h7⟩ := mm_i2_inv h
      clear h
      subst hst
      have h := h7
      clear h7
      exact lv_isub hx hb hd (ih rs _ L _ σ H locs ls hcr h hP hD hS hl)
    | imul =>
      have hln : len = 1 := by simpa [mm_len] using hln
      subst hln
      simp only [mm_ex] at h
      obtain ⟨x, y, s', hst, h7⟩ := mm_i2_inv h
      clear h
      subst hst
      have h := h7
      clear h7
      exact lv_imul hx hb hd (ih rs _ L _ σ H locs ls hcr h hP hD hS hl)
    | iand =>
      have hln : len = 1 := by simpa [mm_len] using hln
      subst hln
      simp only [mm_ex] at h
      obtain ⟨x, y, s', hst, h7⟩ := mm_i2_inv h
      clear h
      subst hst
      have h := h7
      clear h7
      exact lv_iand hx hb hd (ih rs _ L _ σ H locs ls hcr h hP hD hS hl)
    | ior =>
      have hln : len = 1 := by simpa [mm_len] using hln
      subst hln
      simp only [mm_ex] at h
      obtain ⟨x, y, s', hst, h7⟩ := mm_i2_inv h
      clear h
      subst hst
      have h := h7
      clear h7
      exact lv_ior hx hb hd (ih rs _ L _ σ H locs ls hcr h hP hD hS hl)
    | ixor =>
      have hln : len = 1 := by simpa [mm_len] using hln
      subst hln
      simp only [mm_ex] at h
      obtain ⟨x, y, s', hst, h7⟩ := mm_i2_inv h
      clear h
      subst hst
      have h := h7
      clear h7
      exact lv_ixor hx hb hd (ih rs _ L _ σ H locs ls hcr h hP hD hS hl)
    | ishl =>
      have hln : len = 1 := by simpa [mm_len] using hln
      subst hln
      simp only [mm_ex] at h
      obtain ⟨x, y, s', hst, h7⟩ := mm_i2_inv h
      clear h
      subst hst
      have h := h7
      clear h7
      exact lv_ishl hx hb hd (ih rs _ L _ σ H locs ls hcr h hP hD hS hl)
    | ishr =>
      have hln : len = 1 := by simpa [mm_len] using hln
      subst hln
      simp only [mm_ex] at h
      obtain ⟨x, y, s', hst, h7⟩ := mm_i2_inv h
      clear h
      subst hst
      have h := h7
      clear h7
      exact lv_ishr hx hb hd (ih rs _ L _ σ H locs ls hcr h hP hD hS hl)
    | iushr =>
      have hln : len = 1 := by simpa [mm_len] using hln
      subst hln
      simp only [mm_ex] at h
      obtain ⟨x, y, s', hst, h7⟩ := mm_i2_inv h
      clear h
      subst hst
      have h := h7
      clear h7
      exact lv_iushr hx hb hd rfl (ih rs _ L _ σ H locs ls hcr h hP hD hS hl)
    | ladd =>
      have hln : len = 1 := by simpa [mm_len] using hln
      subst hln
      simp only [mm_ex] at h
      obtain ⟨x, y, s', hst, h7⟩ := mm_l2_inv h
      clear h
      subst hst
      have h := h7
      clear h7
      exact lv_ladd hx hb hd (ih rs _ L _ σ H locs ls hcr h hP hD hS hl)
    | land =>
      have hln : len = 1 := by simpa [mm_len] using hln
      subst hln
      simp only [mm_ex] at h
      obtain ⟨x, y, s', hst, h7⟩ := mm_l2_inv h
      clear h
      subst hst
      have h := h7
      clear h7
      exact lv_land hx hb hd (ih rs _ L _ σ H locs ls hcr h hP hD hS hl)
    | lor =>
      have hln : len = 1 := by simpa [mm_len] using hln
      subst hln
      simp only [mm_ex] at h
      obtain ⟨x, y, s', hst, h7⟩ := mm_l2_inv h
      clear h
      subst hst
      have h := h7
      clear h7
      exact lv_lor hx hb hd (ih rs _ L _ σ H locs ls hcr h hP hD hS hl)
    | lcmp =>
      have hln : len = 1 := by simpa [mm_len] using hln
      subst hln
      simp only [mm_ex] at h
      obtain ⟨x, y, s', hst, h7⟩ := mm_l2_inv h
      clear h
      subst hst
      have h := h7
      clear h7
      exact W.lcmp hx hb hd (ih rs _ L _ σ H locs ls hcr h hP hD hS hl)
    | lshl =>
      have hln : len = 1 := by simpa [mm_len] using hln
      subst hln
      simp only [mm_ex] at h
      obtain ⟨x, y, s', hst, h7⟩ := mm_li_inv h
      clear h
      subst hst
      have h := h7
      clear h7
      exact lv_lshl hx hb hd rfl (ih rs _ L _ σ H locs ls hcr h hP hD hS hl)
    | lshr =>
      have hln : len = 1 := by simpa [mm_len] using hln
      subst hln
      simp only [mm_ex] at h
      obtain ⟨x, y, s', hst, h7⟩ := mm_li_inv h
      clear h
      subst hst
      have h := h7
      clear h7
      exact lv_lshr hx hb hd rfl (ih rs _ L _ σ H locs ls hcr h hP hD hS hl)
    | i2l =>
      have hln : len = 1 := by simpa [mm_len] using hln
      subst hln
      simp only [mm_ex] at h
      obtain ⟨x, s', hst, h7⟩ := mm_i1_inv h
      clear h
      subst hst
      have h := h7
      clear h7
      exact lv_i2l hx hb hd rfl (ih rs _ L _ σ H locs ls hcr h hP hD hS hl)
    | l2i =>
      have hln : len = 1 := by simpa [mm_len] using hln
      subst hln
      simp only [mm_ex] at h
      obtain ⟨x, s', hst, h7⟩ := mm_l1_inv h
      clear h
      subst hst
      have h := h7
      clear h7
      exact lv_l2i hx hb hd rfl (ih rs _ L _ σ H locs ls hcr h hP hD hS hl)
    | dup =>
      have hln : len = 1 := by simpa [mm_len] using hln
      subst hln
      simp only [mm_ex] at h
      obtain ⟨k, s', hst, h7⟩ := mm_a1_inv h
      clear h
      subst hst
      have h := h7
      clear h7
      exact lv_dup hx hb hd rfl (ih rs _ L _ σ H locs ls hcr h hP hD hS hl)
    | dup2 =>
      have hln : len = 1 := by simpa [mm_len] using hln
      subst hln
      simp only [mm_ex] at h
      obtain ⟨k, i9, s', hst, h7⟩ := mm_ai_inv h
      clear h
      subst hst
      have h := h7
      clear h7
      exact lv_dup2_11 hx hb hd rfl rfl (ih rs _ L _ σ H locs ls hcr h hP hD hS hl)
    | pop =>
      have hln : len = 1 := by simpa [mm_len] using hln
      subst hln
      simp only [mm_ex] at h
      obtain ⟨x, s', hst, h7⟩ := mm_i1_inv h
      clear h
      subst hst
      have h := h7
      clear h7
      exact lv_pop hx hb hd rfl (ih rs _ L _ σ H locs ls hcr h hP hD hS hl)
    | ifCond cnd off =>
      have hln : len = 3 := by simpa [mm_len] using hln
      subst hln
      cases cnd with
      | eq =>
        simp only [mm_ex] at h
        obtain ⟨x, s', hst, h7⟩ := mm_i1_inv h
        clear h
        subst hst
        have h := h7
        clear h7
        obtain ⟨q', hq', ht⟩ := mm_lab_inv hsd
        refine lv_if_eq hx hb hd ht (fun hc9 => ?_) (fun hc9 => ?_)
        · rw [if_pos hc9] at h
          obtain ⟨q, hq, h⟩ := mm_bind h
          cases hq.symm.trans hq'
          exact ih q'.2 q'.1 L _ σ H locs ls (hlab q' (List.mem_of_getElem? hq)) h hP hD hS hl
        · rw [if_neg hc9] at h
          exact ih rs _ L _ σ H locs ls hcr h hP hD hS hl
      | ne =>
        simp only [mm_ex] at h
        obtain ⟨x, s', hst, h7⟩ := mm_i1_inv h
        clear h
        subst hst
        have h := h7
        clear h7
        obtain ⟨q', hq', ht⟩ := mm_lab_inv hsd
        refine lv_if_ne hx hb hd ht (fun hc9 => ?_) (fun hc9 => ?_)
        · rw [if_neg hc9] at h
          obtain ⟨q, hq, h⟩ := mm_bind h
          cases hq.symm.trans hq'
          exact ih q'.2 q'.1 L _ σ H locs ls (hlab q' (List.mem_of_getElem? hq)) h hP hD hS hl
        · rw [if_pos hc9] at h
          exact ih rs _ L _ σ H locs ls hcr h hP hD hS hl
      | lt =>
        simp only [mm_ex] at h
        obtain ⟨x, s', hst, h7⟩ := mm_i1_inv h
        clear h
        subst hst
        have h := h7
        clear h7
        obtain ⟨q', hq', ht⟩ := mm_lab_inv hsd
        refine lv_if_lt hx hb hd ht (fun hc9 => ?_) (fun hc9 => ?_)
        · rw [if_pos hc9] at h
          obtain ⟨q, hq, h⟩ := mm_bind h
          cases hq.symm.trans hq'
          exact ih q'.2 q'.1 L _ σ H locs ls (hlab q' (List.mem_of_getElem? hq)) h hP hD hS hl
        · rw [if_neg hc9] at h
          exact ih rs _ L _ σ H locs ls hcr h hP hD hS hl
      | ge =>
        simp only [mm_ex] at h
        obtain ⟨x, s', hst, h7⟩ := mm_i1_inv h
        clear h
        subst hst
        have h := h7
        clear h7
        obtain ⟨q', hq', ht⟩ := mm_lab_inv hsd
        refine lv_if_ge hx hb hd ht (fun hc9 => ?_) (fun hc9 => ?_)
        · rw [if_pos hc9] at h
          obtain ⟨q, hq, h⟩ := mm_bind h
          cases hq.symm.trans hq'
          exact ih q'.2 q'.1 L _ σ H locs ls (hlab q' (List.mem_of_getElem? hq)) h hP hD hS hl
        · rw [if_neg hc9] at h
          exact ih rs _ L _ σ H locs ls hcr h hP hD hS hl
      | gt =>
        simp only [mm_ex] at h
        obtain ⟨x, s', hst, h7⟩ := mm_i1_inv h
        clear h
        subst hst
        have h := h7
        clear h7
        obtain ⟨q', hq', ht⟩ := mm_lab_inv hsd
        refine lv_if_gt hx hb hd ht (fun hc9 => ?_) (fun hc9 => ?_)
        · rw [if_pos hc9] at h
          obtain ⟨q, hq, h⟩ := mm_bind h
          cases hq.symm.trans hq'
          exact ih q'.2 q'.1 L _ σ H locs ls (hlab q' (List.mem_of_getElem? hq)) h hP hD hS hl
        · rw [if_neg hc9] at h
          exact ih rs _ L _ σ H locs ls hcr h hP hD hS hl
      | le =>
        simp only [mm_ex] at h
        obtain ⟨x, s', hst, h7⟩ := mm_i1_inv h
        clear h
        subst hst
        have h := h7
        clear h7
        obtain ⟨q', hq', ht⟩ := mm_lab_inv hsd
        refine lv_if_le hx hb hd ht (fun hc9 => ?_) (fun hc9 => ?_)
        · rw [if_pos hc9] at h
          obtain ⟨q, hq, h⟩ := mm_bind h
          cases hq.symm.trans hq'
          exact ih q'.2 q'.1 L _ σ H locs ls (hlab q' (List.mem_of_getElem? hq)) h hP hD hS hl
        · rw [if_neg hc9] at h
          exact ih rs _ L _ σ H locs ls hcr h hP hD hS hl
    | if_icmp cnd off =>
      have hln : len = 3 := by simpa [mm_len] using hln
      subst hln
      cases cnd with
      | eq =>
        simp only [mm_ex] at h
        obtain ⟨x, y, s', hst, h7⟩ := mm_i2_inv h
        clear h
        subst hst
        have h := h7
        clear h7
        obtain ⟨q', hq', ht⟩ := mm_lab_inv hsd
        refine lv_icmp_eq hx hb hd ht (fun hc9 => ?_) (fun hc9 => ?_)
        · rw [if_pos hc9] at h
          obtain ⟨q, hq, h⟩ := mm_bind h
          cases hq.symm.trans hq'
          exact ih q'.2 q'.1 L _ σ H locs ls (hlab q' (List.mem_of_getElem? hq)) h hP hD hS hl
        · rw [if_neg hc9] at h
          exact ih rs _ L _ σ H locs ls hcr h hP hD hS hl
      | ne =>
        simp only [mm_ex] at h
        obtain ⟨x, y, s', hst, h7⟩ := mm_i2_inv h
        clear h
        subst hst
        have h := h7
        clear h7
        obtain ⟨q', hq', ht⟩ := mm_lab_inv hsd
        refine lv_icmp_ne hx hb hd ht (fun hc9 => ?_) (fun hc9 => ?_)
        · rw [if_neg hc9] at h
          obtain ⟨q, hq, h⟩ := mm_bind h
          cases hq.symm.trans hq'
          exact ih q'.2 q'.1 L _ σ H locs ls (hlab q' (List.mem_of_getElem? hq)) h hP hD hS hl
        · rw [if_pos hc9] at h
          exact ih rs _ L _ σ H locs ls hcr h hP hD hS hl
      | lt =>
        simp only [mm_ex] at h
        obtain ⟨x, y, s', hst, h7⟩ := mm_i2_inv h
        clear h
        subst hst
        have h := h7
        clear h7
        obtain ⟨q', hq', ht⟩ := mm_lab_inv hsd
        refine lv_icmp_lt hx hb hd ht (fun hc9 => ?_) (fun hc9 => ?_)
        · rw [if_pos hc9] at h
          obtain ⟨q, hq, h⟩ := mm_bind h
          cases hq.symm.trans hq'
          exact ih q'.2 q'.1 L _ σ H locs ls (hlab q' (List.mem_of_getElem? hq)) h hP hD hS hl
        · rw [if_neg hc9] at h
          exact ih rs _ L _ σ H locs ls hcr h hP hD hS hl
      | ge =>
        simp only [mm_ex] at h
        obtain ⟨x, y, s', hst, h7⟩ := mm_i2_inv h
        clear h
        subst hst
        have h := h7
        clear h7
        obtain ⟨q', hq', ht⟩ := mm_lab_inv hsd
        refine lv_icmp_ge hx hb hd ht (fun hc9 => ?_) (fun hc9 => ?_)
        · rw [if_pos hc9] at h
          obtain ⟨q, hq, h⟩ := mm_bind h
          cases hq.symm.trans hq'
          exact ih q'.2 q'.1 L _ σ H locs ls (hlab q' (List.mem_of_getElem? hq)) h hP hD hS hl
        · rw [if_neg hc9] at h
          exact ih rs _ L _ σ H locs ls hcr h hP hD hS hl
      | gt =>
        simp only [mm_ex] at h
        obtain ⟨x, y, s', hst, h7⟩ := mm_i2_inv h
        clear h
        subst hst
        have h := h7
        clear h7
        obtain ⟨q', hq', ht⟩ := mm_lab_inv hsd
        refine lv_icmp_gt hx hb hd ht (fun hc9 => ?_) (fun hc9 => ?_)
        · rw [if_pos hc9] at h
          obtain ⟨q, hq, h⟩ := mm_bind h
          cases hq.symm.trans hq'
          exact ih q'.2 q'.1 L _ σ H locs ls (hlab q' (List.mem_of_getElem? hq)) h hP hD hS hl
        · rw [if_neg hc9] at h
          exact ih rs _ L _ σ H locs ls hcr h hP hD hS hl
      | le =>
        simp only [mm_ex] at h
        obtain ⟨x, y, s', hst, h7⟩ := mm_i2_inv h
        clear h
        subst hst
        have h := h7
        clear h7
        obtain ⟨q', hq', ht⟩ := mm_lab_inv hsd
        refine lv_icmp_le hx hb hd ht (fun hc9 => ?_) (fun hc9 => ?_)
        · rw [if_pos hc9] at h
          obtain ⟨q, hq, h⟩ := mm_bind h
          cases hq.symm.trans hq'
          exact ih q'.2 q'.1 L _ σ H locs ls (hlab q' (List.mem_of_getElem? hq)) h hP hD hS hl
        · rw [if_neg hc9] at h
          exact ih rs _ L _ σ H locs ls hcr h hP hD hS hl
    | goto off =>
      have hln : len = 3 := by simpa [mm_len] using hln
      subst hln
      simp only [mm_ex] at h
      obtain ⟨q, hq, h⟩ := mm_bind h
      obtain ⟨q', hq', ht⟩ := mm_lab_inv hsd
      have eq9 : q = q' := Option.some.inj (hq.symm.trans hq')
      subst eq9
      exact lv_goto hx hb hd ht (ih q.2 q.1 L _ σ H locs ls (hlab q (List.mem_of_getElem? hq)) h hP hD hS hl)
    | tableswitch dflt lo hi offs =>
      simp only [mm_ex] at h
      obtain ⟨x, s', hst, h7⟩ := mm_i1_inv h
      clear h
      subst hst
      have h := h7
      clear h7
      simp only [mm_side, Bool.and_eq_true, decide_eq_true_eq] at hsd
      obtain ⟨hs1, hs2, hs3⟩ := hsd
      split at h
      · rename_i hc9
        obtain ⟨q, hq, h⟩ := mm_bind h
        obtain ⟨q', hq', ht⟩ := mm_lab_inv hs1
        have eq9 : q = q' := Option.some.inj (hq.symm.trans hq')
        subst eq9
        exact lv_tableOut hx hb hd hc9 ht (ih q.2 q.1 L _ σ H locs ls (hlab q (List.mem_of_getElem? hq)) h hP hD hS hl)
      · rename_i hc9
        obtain ⟨q, hq, h⟩ := mm_bind h
        have g1 : ¬ x.toInt < lo := fun z => hc9 (Or.inl z)
        have g2 : ¬ hi < x.toInt := fun z => hc9 (Or.inr z)
        have hi9 : (x.toInt - lo).toNat < offs.size := by omega
        have h9 := List.all_eq_true.mp hs3 _ (List.mem_range.mpr hi9)
        have ho : offs[(x.toInt - lo).toNat]? = some (offs[(x.toInt - lo).toNat]) := Array.getElem?_eq_getElem hi9
        rw [ho] at h9
        obtain ⟨q', hq', ht⟩ := mm_lab_inv h9
        have eq9 : q = q' := Option.some.inj (hq.symm.trans hq')
        subst eq9
        exact lv_tableIn hx hb hd g1 g2 ho ht (ih q.2 q.1 L _ σ H locs ls (hlab q (List.mem_of_getElem? hq)) h hP hD hS hl)
    | getfield k =>
      have hln : len = 3 := by simpa [mm_len] using hln
      subst hln
      simp only [mm_ex] at h
      obtain ⟨k0, s', hst, h7⟩ := mm_a1_inv h
      clear h
      subst hst
      have h := h7
      clear h7
      obtain ⟨u, hu, h⟩ := mm_bind h
      obtain ⟨fs, t, q, hs, hf, hu2⟩ := mm_fld_inv hu
      obtain ⟨C, T, N, hcl, hjN, hlk⟩ := hFk _ (of_decide_eq_true hsd)
      obtain ⟨hcw, hcn, -⟩ := hCk _ (List.mem_of_getElem? hcl)
      refine va_get (v := mm_rho a u) (ref := C) hx hb hts hcw hown hK hP k0 (mm_wo_at hs) hcl r2 hjN (hts _ hlk) (fun x9 h9 => by have h8 : s.fieldFound? (T r2).1 (T r2).2.1 (T r2).2.2.1 = some x9 := h9; rw [show (T r2).1 = C from hcn r2 hjN] at h8; exact h8) ?_ hd (ih rs _ L _ σ H locs ls hcr h hP hD hS hl)
      rw [List.getElem?_mapIdx, hf]
      show some (mm_fv a σ k0 r2 (t, q)) = _
      rw [hu2]
      unfold mm_fv
      by_cases h2 : t = 2
      · rw [if_pos h2, if_pos h2]; rfl
      · rw [if_neg h2, if_neg h2]; rfl
    | putfield k =>
      have hln : len = 3 := by simpa [mm_len] using hln
      subst hln
      simp only [mm_ex] at h
      obtain ⟨k0, x, s', hst, h7⟩ := mm_ai_inv h
      clear h
      subst hst
      have h := h7
      clear h7
      obtain ⟨u, hu, h⟩ := mm_bind h
      obtain ⟨fs, t, q, hs, hf, hu2⟩ := mm_pf_inv hu
      obtain ⟨C, T, N, hcl, hjN, hlk⟩ := hFk _ (of_decide_eq_true hsd)
      obtain ⟨hcw, hcn, ty0, hty, hnm⟩ := hCk _ (List.mem_of_getElem? hcl)
      obtain ⟨C2, T2, N2, hcl2, hfl, hty2⟩ := hSk _ (List.mem_of_getElem? hs) _ _ rfl
      cases hcl.symm.trans hcl2
      have hln2 : r2 < (fs.mapIdx fun j f => mm_fv a σ k0 j f).length := by rw [List.length_mapIdx]; exact (List.getElem?_eq_some_iff.mp hf).1
      have fin : ∀ (H1 : Heap) (locs1 : List Loc), va_P D cl ((mm_wo sh ca a σ).set k0 (a k0, .inr (r1, (fs.mapIdx fun j f => mm_fv a σ k0 j f).set r2 (.int x)))) H1 → va_D A ((mm_wo sh ca a σ).set k0 (a k0, .inr (r1, (fs.mapIdx fun j f => mm_fv a σ k0 j f).set r2 (.int x)))) → va_S A s.heap H1 locs1 → W p l e R s m args below meth c H1 locs1 0 0 (MQ below (mm_Q sh cl D ca a (mm_rk ret) res A) args s 0 0 A) (F0 m (pc + 3) ls (s'.map (mm_rho a))) := by
        intro H1 locs1 hP1 hD1 hS1
        rw [mm_wo_f hs hf (by rcases hu2 with z | ⟨z, -⟩ <;> omega)] at hP1 hD1
        exact ih rs _ L _ _ H1 locs1 ls hcr h hP1 hD1 hS1 hl
      rcases hu2 with ht | ⟨ht, hx01⟩
      · obtain ⟨g1, g2⟩ := (hty2 r2 t q hf).1 ht
        exact va_put (v := .int x) (ty := .int) (ref := C) hx hb hts hcw ty0 hty hnm hown hK hP hD hS k0 (mm_wo_at hs) hcl r2 hjN (hts _ hlk) (fun x9 h9 => by have h8 : s.fieldFound? (T r2).1 (T r2).2.1 (T r2).2.2.1 = some x9 := h9; rw [show (T r2).1 = C from hcn r2 hjN] at h8; exact h8) g1 g2 rfl rfl hln2 hd fin
      · obtain ⟨g1, g2⟩ := (hty2 r2 t q hf).2 ht
        exact va_put (v := .int x) (ty := .boolean) (ref := C) hx hb hts hcw ty0 hty hnm hown hK hP hD hS k0 (mm_wo_at hs) hcl r2 hjN (hts _ hlk) (fun x9 h9 => by have h8 : s.fieldFound? (T r2).1 (T r2).2.1 (T r2).2.2.1 = some x9 := h9; rw [show (T r2).1 = C from hcn r2 hjN] at h8; exact h8) g1 g2 (mm_nar2 hx01) (mm_fit2 hx01) hln2 hd fin
    | iaload =>
      have hln : len = 1 := by simpa [mm_len] using hln
      subst hln
      simp only [mm_ex] at h
      obtain ⟨k0, i9, s', hst, h7⟩ := mm_ai_inv h
      clear h
      subst hst
      have h := h7
      clear h7
      obtain ⟨z, hz, h⟩ := mm_bind h
      obtain ⟨rw9, hs⟩ := mm_arr_inv hz
      split at h
      · rename_i hin
        exact va_iald hx hb hK hP k0 0 (mm_wo_at hs) rfl hin hd (ih rs _ L _ σ H locs ls hcr h hP hD hS hl)
      · cases h
    | baload =>
      have hln : len = 1 := by simpa [mm_len] using hln
      subst hln
      simp only [mm_ex] at h
      obtain ⟨k0, i9, s', hst, h7⟩ := mm_ai_inv h
      clear h
      subst hst
      have h := h7
      clear h7
      obtain ⟨z, hz, h⟩ := mm_bind h
      obtain ⟨rw9, hs⟩ := mm_arr_inv hz
      split at h
      · rename_i hin
        exact va_zald hx hb hK hP k0 1 (mm_wo_at hs) rfl hin hd (ih rs _ L _ σ H locs ls hcr h hP hD hS hl)
      · cases h
    | laload =>
      have hln : len = 1 := by simpa [mm_len] using hln
      subst hln
      simp only [mm_ex] at h
      obtain ⟨k0, i9, s', hst, h7⟩ := mm_ai_inv h
      clear h
      subst hst
      have h := h7
      clear h7
      obtain ⟨z, hz, h⟩ := mm_bind h
      obtain ⟨rw9, hs⟩ := mm_arr_inv hz
      split at h
      · rename_i hin
        exact va_lald hx hb hK hP k0 2 (mm_wo_at hs) rfl hin hd (ih rs _ L _ σ H locs ls hcr h hP hD hS hl)
      · cases h
    | aaload =>
      have hln : len = 1 := by simpa [mm_len] using hln
      subst hln
      simp only [mm_ex] at h
      obtain ⟨k0, i9, s', hst, h7⟩ := mm_ai_inv h
      clear h
      subst hst
      have h := h7
      clear h7
      obtain ⟨q, hq, h⟩ := mm_bind h
      obtain ⟨n9, rw9, hs, hin, hrw⟩ := mm_grid_inv hq
      have hlt : i9.toNatClampNeg < n9 := Nat.not_le.mp fun q => hin (Or.inr q)
      have hcell := hP k0 _ (mm_wo_at hs)
      exact W.aald (v := .ref (a q)) (ty := .array .int) hx hb hcell ((hK.2 3 _ rfl).1 n9 (fun j => va_rf ((rw9[j]?).map a))) rfl (fun q => by cases q) (by show ¬ (i9 < 0 ∨ (arrV _ _ _).slots.size ≤ _); rw [arrV_size]; exact hin) (by show (arrV _ _ _).slots[_]? = _; rw [arrV_read _ _ hlt]; show some (va_rf ((rw9[i9.toNatClampNeg]?).map a)) = _; rw [hrw]; rfl) rfl rfl hd (ih rs _ L _ σ H locs ls hcr h hP hD hS hl)
    | iastore =>
      have hln : len = 1 := by simpa [mm_len] using hln
      subst hln
      simp only [mm_ex] at h
      obtain ⟨k0, i9, x, s', hst, h7⟩ := mm_aii_inv h
      clear h
      subst hst
      have h := h7
      clear h7
      obtain ⟨z, hz, h⟩ := mm_bind h
      obtain ⟨rw9, hs⟩ := mm_arr_inv hz
      split at h
      · rename_i hin
        refine va_iast hx hb hK hP hD hS k0 0 (mm_wo_at hs) rfl hin hd (fun H1 locs1 hP1 hD1 hS1 => ?_)
        rw [mm_wo_i hs] at hP1 hD1
        exact ih rs _ L _ _ H1 locs1 ls hcr h hP1 hD1 hS1 hl
      · cases h
    | bastore =>
      have hln : len = 1 := by simpa [mm_len] using hln
      subst hln
      simp only [mm_ex] at h
      obtain ⟨k0, i9, x, s', hst, h7⟩ := mm_aii_inv h
      clear h
      subst hst
      have h := h7
      clear h7
      obtain ⟨z, hz, h⟩ := mm_bind h
      obtain ⟨rw9, hs⟩ := mm_arr_inv hz
      split at h
      · rename_i hin
        split at h
        · rename_i hx01
          refine va_zast hx hb hK hP hD hS k0 1 (mm_wo_at hs) rfl hin hd (fun H1 locs1 hP1 hD1 hS1 => ?_)
          rw [mm_nar1 hx01, mm_wo_b hs] at hP1 hD1
          exact ih rs _ L _ _ H1 locs1 ls hcr h hP1 hD1 hS1 hl
        · cases h
      · cases h
    | lastore =>
      have hln : len = 1 := by simpa [mm_len] using hln
      subst hln
      simp only [mm_ex] at h
      obtain ⟨k0, i9, x, s', hst, h7⟩ := mm_ail_inv h
      clear h
      subst hst
      have h := h7
      clear h7
      obtain ⟨z, hz, h⟩ := mm_bind h
      obtain ⟨rw9, hs⟩ := mm_arr_inv hz
      split at h
      · rename_i hin
        refine va_last hx hb hK hP hD hS k0 2 (mm_wo_at hs) rfl hin hd (fun H1 locs1 hP1 hD1 hS1 => ?_)
        rw [mm_wo_l hs] at hP1 hD1
        exact ih rs _ L _ _ H1 locs1 ls hcr h hP1 hD1 hS1 hl
      · cases h
    | invokevirtual k =>
      have hln : len = 3 := by simpa [mm_len] using hln
      subst hln
      simp only [mm_ex] at h
      obtain ⟨⟨qa, qr⟩, hq, h7⟩ := mm_bind h
      clear h
      obtain ⟨u, hu, h8⟩ := mm_bind h7
      clear h7
      obtain ⟨k0, As, fs, e1, hs, e2, h4, hna⟩ := mm_cargs_inv hq
      dsimp only at e1 e2 h4 hu h8
      subst e1
      subst e2
      obtain ⟨M, T, N, np, hM, w1, w2, w3, hcl, hpar, hn1, hrk⟩ := hVk _ (of_decide_eq_true hsd)
      obtain ⟨m1, m2, m3, m4, m5, m6, -, -, -⟩ := hMk M (List.mem_of_getElem? hM)
      have hcon := hcall _ _ _ _ M hu hM H.size
      dsimp only at hn1 hrk hcl
      have hrun := va_runV (e := e) (below := below) (meth := meth) (g := F0 m pc ls ((As.reverse ++ .ref k0 :: qr).map (mm_rho a))) (C := M.2.1.cls) (As := As.map (mm_rho a)) (rest := qr.map (mm_rho a)) (b := a k0) (locs := locs) (cells := 0) (slots := 0) ⟨hx, hb, hml, hown, hts⟩ hcon ⟨callB_of np hts (mm_good hgood m1) rfl hrc.1 hrc.2 (hts _ m2) (hts _ w1) ⟨m5.1, m5.2, hpar⟩ ⟨hR.1, by omega⟩, hts _ w2, hts _ w3⟩
        ⟨mm_blind, va_recv hK hP hcl (mm_wo_at hs), fun U hU hW => ⟨rfl, by rw [hU], by rw [hU]; exact hP, va_K.moved hW.alike hK, hD.weaken (fun _ _ _ _ => trivial), fun w hw => va_Nw.warmM hW (hN w hw)⟩⟩ rfl (by rw [List.length_map]; omega) hl.1 (by simp [mm_rho]) (lv_room (mm_cats a _ h4)) hd ⟨Nat.zero_le _, Nat.zero_le _⟩
      refine mm_callW hrun hS (hAA σ H locs hS) (fun H1 locs1 hP1 hD1 hS1 => ?_)
      rw [mm_push_rv, ← hrk]
      exact ih rs _ L _ _ H1 locs1 ls hcr h8 hP1 (hD1.weaken (fun k9 q9 _ z => hAA σ H locs hS _ z)) hS1 hl
    | invokestatic k =>
      have hln : len = 3 := by simpa [mm_len] using hln
      subst hln
      rcases hTk _ (of_decide_eq_true hsd) with ⟨hj, w1, w2, w3, w4⟩ | ⟨hj, w1, w2, w3, w4⟩ | ⟨hj0, hj1, M, np, hM, w1, w2, hpar, hn1, hrk⟩
      · dsimp only at hj
        subst hj
        simp only [mm_ex] at h
        obtain ⟨x, y, s', hst, h7⟩ := mm_i2_inv h
        clear h
        subst hst
        have h := h7
        clear h7
        split at h
        · rename_i h4
          exact va_mmax hx hb (by rw [hml]; exact hl.1.symm) hown (hts _ w1) (hts _ w2) (hts _ w3) (hts _ w4) (by omega) (by have := mm_cats a s' h4; omega) (Nat.zero_le _) (Nat.zero_le _) hd (ih rs _ L _ σ H locs ls hcr h hP hD hS hl)
        · cases h
      · dsimp only at hj
        subst hj
        simp only [mm_ex] at h
        obtain ⟨x, y, s', hst, h7⟩ := mm_i2_inv h
        clear h
        subst hst
        have h := h7
        clear h7
        split at h
        · rename_i h4
          exact va_mmin hx hb (by rw [hml]; exact hl.1.symm) hown (hts _ w1) (hts _ w2) (hts _ w3) (hts _ w4) (by omega) (by have := mm_cats a s' h4; omega) (Nat.zero_le _) (Nat.zero_le _) hd (ih rs _ L _ σ H locs ls hcr h hP hD hS hl)
        · cases h
      · dsimp only at hj0 hj1
        have h : ((mm_sargs (r2 % 16) st).bind fun q => (call r1 q.1 σ).bind fun u => mm_ex sh call (mm_rk ret) labs n rs L (mm_push (r2 / 16 % 4) u q.2) u.2.2) = some res := by
          have e : mm_ex sh call (mm_rk ret) labs (n + 1) ((.invokestatic k, r1, r2, v, w) :: rs) L st σ = ((mm_sargs (r2 % 16) st).bind fun q => (call r1 q.1 σ).bind fun u => mm_ex sh call (mm_rk ret) labs n rs L (mm_push (r2 / 16 % 4) u q.2) u.2.2) := by
            show (match r1 with
              | 1000 => _
              | 1001 => _
              | _ => _) = _
            split
            · exact absurd rfl hj0
            · exact absurd rfl hj1
            · rfl
          exact e.symm.trans h
        obtain ⟨⟨qa, qr⟩, hq, h7⟩ := mm_bind h
        clear h
        obtain ⟨u, hu, h8⟩ := mm_bind h7
        clear h7
        obtain ⟨e2, h4, hna⟩ := mm_sargs_inv hq
        dsimp only at e2 h4 hna hu h8
        subst e2
        obtain ⟨m1, m2, m3, m4, m5, m6, -, -, -⟩ := hMk M (List.mem_of_getElem? hM)
        have hcon := hcall _ _ _ _ M hu hM H.size
        dsimp only at hn1 hrk
        have hrun : va_Run p l e R s m args below meth c H locs 0 0 0 0 (F0 m pc ls ((qa.reverse ++ qr).map (mm_rho a))) (qr.map (mm_rho a)) (mm_Q sh cl D ca a (mm_rk M.2.2.2.2.1) u (va_A (mm_wo sh ca a σ) H.size) (qa.map (mm_rho a)).toArray) (va_A (mm_wo sh ca a σ) H.size) := by
          rcases w1 with w1 | ⟨host, w1⟩
          · exact va_runS (As := qa.map (mm_rho a)) (rest := qr.map (mm_rho a)) ⟨hx, hb, hml, hown, hts⟩ hcon ⟨callB_of np hts (mm_good hgood m1) rfl hrc.1 hrc.2 (hts _ m2) (hts _ w1) ⟨m5.1, m5.2, hpar⟩ ⟨hR.1, by omega⟩, hts _ w2⟩
              ⟨mm_blind, fun U hU hW => ⟨rfl, by rw [hU], by rw [hU]; exact hP, va_K.moved hW.alike hK, hD.weaken (fun _ _ _ _ => trivial), fun w hw => va_Nw.warmM hW (hN w hw)⟩⟩ rfl (by rw [List.length_map]; omega) hl.1 (by simp) (lv_room (mm_cats a _ h4)) hd ⟨Nat.zero_le _, Nat.zero_le _⟩
          · exact va_runSN (As := qa.map (mm_rho a)) (rest := qr.map (mm_rho a)) ⟨hx, hb, hml, hown, hts⟩ hcon ⟨va_cnB np hts (mm_good hgood m1) rfl hrc.1 hrc.2 (hN _ w1) (hts _ m2) ⟨m5.1, m5.2, hpar⟩ ⟨hR.1, by omega⟩, hts _ w2, trivial⟩
              ⟨mm_blind, fun U hU hW => ⟨rfl, by rw [hU], by rw [hU]; exact hP, va_K.moved hW.alike hK, hD.weaken (fun _ _ _ _ => trivial), fun w hw => va_Nw.warmM hW (hN w hw)⟩⟩ rfl (by rw [List.length_map]; omega) hl.1 (by simp) (lv_room (mm_cats a _ h4)) hd ⟨Nat.zero_le _, Nat.zero_le _⟩
        refine mm_callW hrun hS (hAA σ H locs hS) (fun H1 locs1 hP1 hD1 hS1 => ?_)
        rw [mm_push_rv, ← hrk]
        exact ih rs _ L _ _ H1 locs1 ls hcr h8 hP1 (hD1.weaken (fun k9 q9 _ z => hAA σ H locs hS _ z)) hS1 hl
    | ireturn =>
      have hln : len = 1 := by simpa [mm_len] using hln
      subst hln
      simp only [mm_ex] at h
      obtain ⟨x, s', hst, h7⟩ := mm_i1_inv h
      clear h
      subst hst
      have h := h7
      clear h7
      obtain ⟨hst, h7⟩ := mm_e_inv h
      clear h
      subst hst
      have h := h7
      clear h7
      split at h
      · rename_i hk1
        cases h
        exact W.iret hx hb (hr.trans (mm_rk_1 hk1)) (fun t ht hW => ⟨⟨by rw [hk1]; rfl, by rw [ht]; exact hP, va_K.moved hW.alike hK, hD⟩, hS.F ht⟩) hS.2.2 hd
      · split at h
        · rename_i hk1
          split at h
          · rename_i hx01
            cases h
            exact W.zret (ty := .boolean) hx hb (hr.trans (mm_rk_3 hk1)) (mm_nar2 hx01) (fun t ht hW => ⟨⟨by rw [hk1]; rfl, by rw [ht]; exact hP, va_K.moved hW.alike hK, hD⟩, hS.F ht⟩) hS.2.2 hd
          · cases h
        · cases h
    | lreturn =>
      have hln : len = 1 := by simpa [mm_len] using hln
      subst hln
      simp only [mm_ex] at h
      obtain ⟨x, s', hst, h7⟩ := mm_l1_inv h
      clear h
      subst hst
      have h := h7
      clear h7
      obtain ⟨hst, h7⟩ := mm_e_inv h
      clear h
      subst hst
      have h := h7
      clear h7
      split at h
      · rename_i hk1
        cases h
        exact W.lret hx hb (hr.trans (mm_rk_2 hk1)) (fun t ht hW => ⟨⟨by rw [hk1]; rfl, by rw [ht]; exact hP, va_K.moved hW.alike hK, hD⟩, hS.F ht⟩) hS.2.2 hd
      · cases h
    | return_ =>
      have hln : len = 1 := by simpa [mm_len] using hln
      subst hln
      simp only [mm_ex] at h
      obtain ⟨hst, h7⟩ := mm_e_inv h
      clear h
      subst hst
      have h := h7
      clear h7
      split at h
      · rename_i hk1
        cases h
        exact W.vret hx hb (hr.trans (mm_rk_0 hk1)) (fun t ht hW => ⟨⟨by rw [hk1]; rfl, by rw [ht]; exact hP, va_K.moved hW.alike hK, hD⟩, hS.F ht⟩) hS.2.2 hd
      · cases h
    | _ =>
      have h9 : (none : Option mm_R) = some res := h
      cases h9
/-- the entry's locals -/
theorem mm_ent_mem (a : Nat → Nat) : ∀ (vs : List Value), vs.all mm_plain = true → ∀ (o i : Nat) (v : Value), (mm_ent vs)[i]? = some v → v ≠ .null → (o + i, mm_rho a v) ∈ lv_args o (vs.map (mm_rho a))
  | [], _, o, i, v, h, _ => by simp [mm_ent] at h
  | x :: vs, hp, o, i, v, h, hn => by
    simp only [List.all_cons, Bool.and_eq_true] at hp
    obtain ⟨hx, hvs⟩ := hp
    have ih := mm_ent_mem a vs hvs
    cases x with
    | int z =>
      simp only [mm_ent] at h
      simp only [List.map_cons, lv_args]
      rw [if_neg (by rw [mm_rho_cat]; simp [Value.category])]
      cases i with
      | zero => simp at h; subst h; exact List.mem_cons_self
      | succ i =>
        simp at h
        have := ih (o + 1) i v h hn
        rw [show o + 1 + i = o + (i + 1) by omega] at this
        exact List.mem_cons_of_mem _ this
    | long z =>
      simp only [mm_ent] at h
      simp only [List.map_cons, lv_args]
      rw [if_pos (by rw [mm_rho_cat]; rfl)]
      cases i with
      | zero => simp at h; subst h; exact List.mem_cons_self
      | succ i =>
        cases i with
        | zero => simp at h; exact absurd h.symm hn
        | succ i =>
          simp at h
          have := ih (o + 2) i v h hn
          rw [show o + 2 + i = o + (i + 1 + 1) by omega] at this
          exact List.mem_cons_of_mem _ this
    | ref z =>
      simp only [mm_ent] at h
      simp only [List.map_cons, lv_args]
      rw [if_neg (by rw [mm_rho_cat]; simp [Value.category])]
      cases i with
      | zero => simp at h; subst h; exact List.mem_cons_self
      | succ i =>
        simp at h
        have := ih (o + 1) i v h hn
        rw [show o + 1 + i = o + (i + 1) by omega] at this
        exact List.mem_cons_of_mem _ this
    | _ => cases hx
theorem mm_ent_len (a : Nat → Nat) : ∀ (vs : List Value), vs.all mm_plain = true → (lg_sl (vs.map (mm_rho a))).length = (mm_ent vs).length
  | [], _ => rfl
  | x :: vs, hp => by
    simp only [List.all_cons, Bool.and_eq_true] at hp
    obtain ⟨hx, hvs⟩ := hp
    have ih := mm_ent_len a vs hvs
    unfold lg_sl at ih
    cases x with
    | int z => simp [lg_sl, mm_ent, mm_rho_cat, mm_rho, Value.category] at ih ⊢; exact ih
    | long z => simp [lg_sl, mm_ent, mm_rho_cat, mm_rho, Value.category] at ih ⊢; omega
    | ref z => simp [lg_sl, mm_ent, mm_rho_cat, mm_rho, Value.category] at ih ⊢; exact ih
    | _ => cases hx
def mm_room (d : Nat) : Room := { frames := d, cells := 0, slots := 0, locals := 40 * d }
set_option maxHeartbeats 4000000 in
set_option maxRecDepth 100000 in
/-- what the small machine answers, the machine does -/
theorem mm_all {tbl : List Jvm.Cond} {nst : mm_N} {cl : List vw_C} {nm : Nat → String} {sh : List mm_Sh} {P : List mm_M} {K : mm_Lk} (hO : mm_OK tbl nst cl nm sh P K) (l : Launch) (D : va_G) (ca : Nat → ClassId) (a : Nat → Nat) : ∀ (d k : Nat) (As : List Value) (σ : mm_S) (u : mm_R) (M : mm_M), mm_G sh P d k As σ = some u → P[k]? = some M → mm_Con l tbl nst sh cl D ca a (mm_room d) M As σ u := by
  intro d
  induction d with
  | zero => intro k As σ u M h; cases h
  | succ d ih =>
    intro k As σ u M h hM sz
    simp only [mm_G] at h
    rw [hM] at h
    obtain ⟨M', hM', h⟩ := mm_bind h
    cases hM'
    obtain ⟨q, hq, h⟩ := mm_bind h
    split at h
    · rename_i hpl
      simp only [Bool.and_eq_true, decide_eq_true_eq] at hpl
      obtain ⟨hp1, hp2⟩ := hpl
      obtain ⟨m1, m2, m3, m4, m5, m6, ⟨rs0, m7⟩, m8, m9⟩ := hO.2.2.2.1 M (List.mem_of_getElem? hM)
      cases hq.symm.trans m7
      refine Met.ofW (cc := M.2.2.1) (maxL := M.2.2.2.1) (ret := M.2.2.2.2.1) m4 rfl ?_
      intro p e s m args below meth c s₁ B hml hv
      obtain ⟨rfl, hsz, hP, hK, hD0, hN⟩ := hv
      have hts0 := atoms_spec (ws := mm_ws tbl M) B.pre
      have hown : s.vm.findClass (nm M.1) = some m.cls := by rw [← m3]; exact findClass_of_methodNamed B.named
      subst hsz
      have hD := hD0.self (sz := s.heap.size)
      have hlen : (lg_sl (As.map (mm_rho a))).length ≤ M.2.2.2.1 := by rw [mm_ent_len a As hp1]; exact hp2
      have hle := lv_entry (As.map (mm_rho a)) (n := M.2.2.2.1) hlen
      rw [lg_entry_eq]
      generalize (lg_sl (As.map (mm_rho a)) ++ List.replicate (M.2.2.2.1 - (lg_sl (As.map (mm_rho a))).length) Slot.unset).toArray = ls at hle ⊢
      have hl : mm_lok a ls M.2.2.2.1 (mm_loc As M.2.2.2.1) := by
        refine ⟨hle.1, hle.2.1, ?_, fun i v hi hn => ?_⟩
        · unfold mm_loc
          rw [List.length_append, List.length_replicate]
          omega
        · unfold mm_loc at hi
          by_cases hlt : i < (mm_ent As).length
          · rw [List.getElem?_append_left hlt] at hi
            have := mm_ent_mem a As hp1 0 i v hi hn
            rw [Nat.zero_add] at this
            exact hle.2.2 _ this
          · rw [List.getElem?_append_right (by omega)] at hi
            have := List.eq_of_mem_replicate (List.mem_of_getElem? hi)
            exact absurd this hn
      exact mm_body hO (rm := mm_room d) (call := mm_G sh P d) B.exec B.bytes hml hown (fun w hw => hts0 w (List.mem_cons_of_mem _ hw)) B.returns B.notSynchronized hK hN ⟨Nat.le_refl _, by show 39 + 40 * d ≤ 40 * (d + 1); omega⟩ ⟨rfl, rfl⟩ (fun k As σ u M h hM => ih k As σ u M h hM) m9 (fun q => mm_A_eq) _ rs0 0 _ [] σ s.heap [] ls (m9 _ (List.mem_of_getElem? m7)) h hP hD va_S.rf hl
    · cases h
