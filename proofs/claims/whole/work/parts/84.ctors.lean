/-! the constructors of the tables and of the reference: what they leave -/
theorem kG {y : MethodName} {b : ByteArray} {n : Nat} (hc : Jvm.Cond.code y b n none ∈ ww_tbl) : GoodIn ww_tbl (Jvm.Cond.code y b n none :: ww_tbl) := fun w hw => by
  rcases List.mem_cons.mp hw with rfl | hw
  · exact ⟨hc, good_of_word (ww_good _ hc)⟩
  · exact ⟨hw, good_of_word (ww_good _ hw)⟩
def kY2 : MethodName := ⟨"WiringContainer$ContextTable", "<init>", "()V"⟩
abbrev kB2 : ByteArray := prog_4_method_1_code
set_option maxRecDepth 100000 in
theorem kd2_0 : decode kB2 0 = .ok (.aload_n 0, 1) := by decide +kernel
set_option maxRecDepth 100000 in
theorem kd2_1 : decode kB2 1 = .ok (.invokespecial 3, 3) := by decide +kernel
set_option maxRecDepth 100000 in
theorem kd2_4 : decode kB2 4 = .ok (.aload_n 0, 1) := by decide +kernel
set_option maxRecDepth 100000 in
theorem kd2_5 : decode kB2 5 = .ok (.iconst 4, 1) := by decide +kernel
set_option maxRecDepth 100000 in
theorem kd2_6 : decode kB2 6 = .ok (.newarray .boolean, 2) := by decide +kernel
set_option maxRecDepth 100000 in
theorem kd2_8 : decode kB2 8 = .ok (.putfield 9, 3) := by decide +kernel
set_option maxRecDepth 100000 in
theorem kd2_11 : decode kB2 11 = .ok (.aload_n 0, 1) := by decide +kernel
set_option maxRecDepth 100000 in
theorem kd2_12 : decode kB2 12 = .ok (.iconst 4, 1) := by decide +kernel
set_option maxRecDepth 100000 in
theorem kd2_13 : decode kB2 13 = .ok (.bipush 16, 2) := by decide +kernel
set_option maxRecDepth 100000 in
theorem kd2_15 : decode kB2 15 = .ok (.multianewarray 15 2, 4) := by decide +kernel
set_option maxRecDepth 100000 in
theorem kd2_19 : decode kB2 19 = .ok (.putfield 17, 3) := by decide +kernel
set_option maxRecDepth 100000 in
theorem kd2_22 : decode kB2 22 = .ok (.return_, 1) := by decide +kernel
set_option maxRecDepth 100000 in
theorem kF2 : ∀ j, j < 2 → defaultValue (tyX2 j) = vp_V [.null, .null] j := fun j hj => by
  match j, hj with
  | 0, _ => rfl
  | 1, _ => rfl
  | j + 2, hj => omega
set_option maxHeartbeats 4000000 in
set_option maxRecDepth 100000 in
theorem kCt2 (l : Launch) (D : va_G) (ca : Nat → ClassId) (h0 sz : Nat) : Met l kY2 (Jvm.Cond.code kY2 kB2 1 none :: ww_tbl) ({ frames := 1, cells := 6, slots := 72, locals := 12 }) (kPc D ca [.ref h0] [(h0, .inr (2, [.null, .null]))] sz) (va_Qv (fun _ : Unit => True) (fun _ t => ∃ a1 a2 a3 a4 a5 a6 : Nat, va_P D ww_cl [(h0, .inr (2, [.ref a1, .ref a2])), (a1, .inl (ca 1, 4, .inl fun _ => 0)), (a2, .inl (ca 3, 4, .inr (.inr (.inr (.inr (fun i => [a3, a4, a5, a6][i]?)))))), (a3, .inl (ca 0, 16, .inl fun _ => 0)), (a4, .inl (ca 0, 16, .inl fun _ => 0)), (a5, .inl (ca 0, 16, .inl fun _ => 0)), (a6, .inl (ca 0, 16, .inl fun _ => 0))] t.heap ∧ va_D (va_A [(h0, .inr (2, [.null, .null]))] sz) [(h0, .inr (2, [.ref a1, .ref a2])), (a1, .inl (ca 1, 4, .inl fun _ => 0)), (a2, .inl (ca 3, 4, .inr (.inr (.inr (.inr (fun i => [a3, a4, a5, a6][i]?)))))), (a3, .inl (ca 0, 16, .inl fun _ => 0)), (a4, .inl (ca 0, 16, .inl fun _ => 0)), (a5, .inl (ca 0, 16, .inl fun _ => 0)), (a6, .inl (ca 0, 16, .inl fun _ => 0))]) (va_A [(h0, .inr (2, [.null, .null]))] sz)) 6 72 (va_A [(h0, .inr (2, [.null, .null]))] sz) := by
  refine Met.ofW (cc := kB2) (maxL := 1) (ret := none) (by decide) rfl ?_
  intro p e s m args below meth c s₁ B hml hv
  obtain ⟨rfl, hsz, hP, hN, hD0⟩ := hv
  have hx := B.exec
  have hb := B.bytes
  have hr := B.returns
  have hts0 := atoms_spec (ws := Jvm.Cond.code kY2 kB2 1 none :: ww_tbl) B.pre
  have hts := fun w (hw : w ∈ ww_tbl) => hts0 w (List.mem_cons_of_mem _ hw)
  have hown : s.vm.findClass RX2 = some m.cls := findClass_of_methodNamed B.named
  have hlocks := B.notSynchronized
  have hin : meth.name = "<init>" := (name_of_methodNamed B.named B.method).1
  subst hsz
  have hD := hD0.self (sz := s.heap.size)
  generalize hAe : va_A [(h0, .inr (2, [.null, .null]))] s.heap.size = A at hD ⊢
  have hA : ∀ q : Nat, s.heap.size ≤ q → A q := fun q h => by rw [← hAe]; exact Or.inr h
  have hS : va_S A s.heap s.heap [] := va_S.rf
  have hP : va_P D ww_cl [(h0, .inr (2, [.null, .null]))] s.heap := hP
  have hl := lv_entry ([.ref h0]) (n := 1) (Nat.le_of_ble_eq_true rfl)
  rw [lg_entry_eq]
  generalize (lg_sl ([.ref h0]) ++ List.replicate (1 - (lg_sl ([.ref h0])).length) Slot.unset).toArray = ls at hl ⊢
  have hl : lv_has ls 1 [(0, .ref h0)] := hl
  refine lv_aload_n hx hb kd2_0 rfl (lv_at hl 0 rfl) ?_
  refine W.objInit hx hb hown (hts _ (ww_c1 157 rfl rfl)) (hts _ (ww_c1 16 rfl rfl)) (hts _ (ww_c1 17 rfl rfl)) rfl (by rw [hml]; exact hl.1) rfl kd2_1 (Nat.le_of_ble_eq_true rfl) (Nat.le_of_ble_eq_true rfl) ?_
  refine W.eq (g2 := F0 m 4 ls []) rfl ?_
  refine lv_aload_n hx hb kd2_4 rfl (lv_at hl 0 rfl) ?_
  refine lv_iconst (v := 4) hx hb kd2_5 (by decide) ?_
  refine k_newa (ty := .boolean) (N' := 4) (a0 := (4, .inl fun _ => 0)) hx hb (hts _ (ww_c1 52 rfl rfl)) rfl 1 rfl (fun _ h => h) hN.1 hP hD hS hA (fun _ => rfl) (by decide) (by decide) (by decide) (Nat.le_of_ble_eq_true rfl) (Nat.le_of_ble_eq_true rfl) kd2_6 (fun q1 H hP hD hS => ?_)
  have hP : va_P D ww_cl [(h0, .inr (2, [.null, .null])), (q1, .inl (ca 1, 4, .inl fun _ => 0))] H := hP
  have hD : va_D A [(h0, .inr (2, [.null, .null])), (q1, .inl (ca 1, 4, .inl fun _ => 0))] := hD
  refine va_putF (D := D) (ci := 2) (v := .ref q1) (ty := .array (.boolean)) (C := RX2) (T := TX2) (N := 2) hx hb hts ww_w2 tyX2 tyX2_ok nmX2 hown hN.1 hP hD hS 0 rfl rfl 0 (by decide) (hts _ (ww_c1 159 rfl rfl)) (fun _ h9 => h9) rfl hin rfl (by decide +kernel) rfl rfl (Nat.le_of_ble_eq_true rfl) kd2_8 (fun H locs hP hD hS => ?_)
  have hP : va_P D ww_cl [(h0, .inr (2, [.ref q1, .null])), (q1, .inl (ca 1, 4, .inl fun _ => 0))] H := hP
  have hD : va_D A [(h0, .inr (2, [.ref q1, .null])), (q1, .inl (ca 1, 4, .inl fun _ => 0))] := hD
  refine lv_aload_n hx hb kd2_11 rfl (lv_at hl 0 rfl) ?_
  refine lv_iconst (v := 4) hx hb kd2_12 (by decide) ?_
  refine lv_bipush (v := 16) hx hb kd2_13 (by decide) ?_
  refine k_mna (N := 4) (M := 16) hx hb hown (hts _ (ww_c1 158 rfl rfl)) hN.2.1 (hts _ (ww_c1 53 rfl rfl)) hN.1 hP hD hS hA (by decide) (by decide) (by decide) (by decide) (by decide) (by decide) (by decide) (Nat.le_of_ble_eq_true rfl) (Nat.le_of_ble_eq_true rfl) kd2_15 (fun q2 H hP hD hS => ?_)
  have hP : va_P D ww_cl [(h0, .inr (2, [.ref q1, .null])), (q1, .inl (ca 1, 4, .inl fun _ => 0)), (q2, .inl (ca 3, 4, .inr (.inr (.inr (.inr (fun i => [q2 + 1 + 0, q2 + 1 + 1, q2 + 1 + 2, q2 + 1 + 3][i]?)))))), (q2 + 1 + 0, .inl (ca 0, 16, .inl fun _ => 0)), (q2 + 1 + 1, .inl (ca 0, 16, .inl fun _ => 0)), (q2 + 1 + 2, .inl (ca 0, 16, .inl fun _ => 0)), (q2 + 1 + 3, .inl (ca 0, 16, .inl fun _ => 0))] H := hP
  have hD : va_D A [(h0, .inr (2, [.ref q1, .null])), (q1, .inl (ca 1, 4, .inl fun _ => 0)), (q2, .inl (ca 3, 4, .inr (.inr (.inr (.inr (fun i => [q2 + 1 + 0, q2 + 1 + 1, q2 + 1 + 2, q2 + 1 + 3][i]?)))))), (q2 + 1 + 0, .inl (ca 0, 16, .inl fun _ => 0)), (q2 + 1 + 1, .inl (ca 0, 16, .inl fun _ => 0)), (q2 + 1 + 2, .inl (ca 0, 16, .inl fun _ => 0)), (q2 + 1 + 3, .inl (ca 0, 16, .inl fun _ => 0))] := hD
  refine va_putF (D := D) (ci := 2) (v := .ref q2) (ty := .array (.array (.int))) (C := RX2) (T := TX2) (N := 2) hx hb hts ww_w2 tyX2 tyX2_ok nmX2 hown hN.1 hP hD hS 0 rfl rfl 1 (by decide) (hts _ (ww_c1 160 rfl rfl)) (fun _ h9 => h9) rfl hin rfl (by decide +kernel) rfl rfl (Nat.le_of_ble_eq_true rfl) kd2_19 (fun H locs hP hD hS => ?_)
  have hP : va_P D ww_cl [(h0, .inr (2, [.ref q1, .ref q2])), (q1, .inl (ca 1, 4, .inl fun _ => 0)), (q2, .inl (ca 3, 4, .inr (.inr (.inr (.inr (fun i => [q2 + 1 + 0, q2 + 1 + 1, q2 + 1 + 2, q2 + 1 + 3][i]?)))))), (q2 + 1 + 0, .inl (ca 0, 16, .inl fun _ => 0)), (q2 + 1 + 1, .inl (ca 0, 16, .inl fun _ => 0)), (q2 + 1 + 2, .inl (ca 0, 16, .inl fun _ => 0)), (q2 + 1 + 3, .inl (ca 0, 16, .inl fun _ => 0))] H := hP
  have hD : va_D A [(h0, .inr (2, [.ref q1, .ref q2])), (q1, .inl (ca 1, 4, .inl fun _ => 0)), (q2, .inl (ca 3, 4, .inr (.inr (.inr (.inr (fun i => [q2 + 1 + 0, q2 + 1 + 1, q2 + 1 + 2, q2 + 1 + 3][i]?)))))), (q2 + 1 + 0, .inl (ca 0, 16, .inl fun _ => 0)), (q2 + 1 + 1, .inl (ca 0, 16, .inl fun _ => 0)), (q2 + 1 + 2, .inl (ca 0, 16, .inl fun _ => 0)), (q2 + 1 + 3, .inl (ca 0, 16, .inl fun _ => 0))] := hD
  refine W.widen (k := 6) (n := 72) (Nat.le_of_ble_eq_true rfl) (Nat.le_of_ble_eq_true rfl) ?_
  exact W.vret hx hb hr (fun t ht hW => ⟨⟨(), rfl, trivial, q1, q2, q2 + 1 + 0, q2 + 1 + 1, q2 + 1 + 2, q2 + 1 + 3, by rw [ht]; exact hP, hD⟩, hS.F ht⟩) hS.2.2 kd2_22
