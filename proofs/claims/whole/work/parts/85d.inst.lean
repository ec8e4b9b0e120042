/-! 85d.inst -/
def kY3 : MethodName := ⟨"WiringContainer$InstanceTable", "<init>", "()V"⟩
abbrev kB3 : ByteArray := prog_5_method_1_code
set_option maxRecDepth 100000 in
theorem kd3_0 : decode kB3 0 = .ok (.aload_n 0, 1) := by decide +kernel
set_option maxRecDepth 100000 in
theorem kd3_1 : decode kB3 1 = .ok (.invokespecial 3, 3) := by decide +kernel
set_option maxRecDepth 100000 in
theorem kd3_4 : decode kB3 4 = .ok (.aload_n 0, 1) := by decide +kernel
set_option maxRecDepth 100000 in
theorem kd3_5 : decode kB3 5 = .ok (.sipush 201, 3) := by decide +kernel
set_option maxRecDepth 100000 in
theorem kd3_8 : decode kB3 8 = .ok (.newarray .int, 2) := by decide +kernel
set_option maxRecDepth 100000 in
theorem kd3_10 : decode kB3 10 = .ok (.putfield 9, 3) := by decide +kernel
set_option maxRecDepth 100000 in
theorem kd3_13 : decode kB3 13 = .ok (.aload_n 0, 1) := by decide +kernel
set_option maxRecDepth 100000 in
theorem kd3_14 : decode kB3 14 = .ok (.sipush 201, 3) := by decide +kernel
set_option maxRecDepth 100000 in
theorem kd3_17 : decode kB3 17 = .ok (.newarray .int, 2) := by decide +kernel
set_option maxRecDepth 100000 in
theorem kd3_19 : decode kB3 19 = .ok (.putfield 15, 3) := by decide +kernel
set_option maxRecDepth 100000 in
theorem kd3_22 : decode kB3 22 = .ok (.aload_n 0, 1) := by decide +kernel
set_option maxRecDepth 100000 in
theorem kd3_23 : decode kB3 23 = .ok (.sipush 201, 3) := by decide +kernel
set_option maxRecDepth 100000 in
theorem kd3_26 : decode kB3 26 = .ok (.newarray .boolean, 2) := by decide +kernel
set_option maxRecDepth 100000 in
theorem kd3_28 : decode kB3 28 = .ok (.putfield 18, 3) := by decide +kernel
set_option maxRecDepth 100000 in
theorem kd3_31 : decode kB3 31 = .ok (.aload_n 0, 1) := by decide +kernel
set_option maxRecDepth 100000 in
theorem kd3_32 : decode kB3 32 = .ok (.iconst 3, 1) := by decide +kernel
set_option maxRecDepth 100000 in
theorem kd3_33 : decode kB3 33 = .ok (.sipush 201, 3) := by decide +kernel
set_option maxRecDepth 100000 in
theorem kd3_36 : decode kB3 36 = .ok (.multianewarray 22 2, 4) := by decide +kernel
set_option maxRecDepth 100000 in
theorem kd3_40 : decode kB3 40 = .ok (.putfield 24, 3) := by decide +kernel
set_option maxRecDepth 100000 in
theorem kd3_43 : decode kB3 43 = .ok (.aload_n 0, 1) := by decide +kernel
set_option maxRecDepth 100000 in
theorem kd3_44 : decode kB3 44 = .ok (.sipush 200, 3) := by decide +kernel
set_option maxRecDepth 100000 in
theorem kd3_47 : decode kB3 47 = .ok (.newarray .int, 2) := by decide +kernel
set_option maxRecDepth 100000 in
theorem kd3_49 : decode kB3 49 = .ok (.putfield 27, 3) := by decide +kernel
set_option maxRecDepth 100000 in
theorem kd3_52 : decode kB3 52 = .ok (.return_, 1) := by decide +kernel
set_option maxRecDepth 100000 in
theorem kF3 : ∀ j, j < 8 → defaultValue (tyX3 j) = vp_V [.int 0, .int 0, .int 0, .null, .null, .null, .null, .null] j := fun j hj => by
  match j, hj with
  | 0, _ => rfl
  | 1, _ => rfl
  | 2, _ => rfl
  | 3, _ => rfl
  | 4, _ => rfl
  | 5, _ => rfl
  | 6, _ => rfl
  | 7, _ => rfl
  | j + 8, hj => omega
set_option maxHeartbeats 4000000 in
set_option maxRecDepth 100000 in
theorem kCt3 (l : Launch) (D : va_G) (ca : Nat → ClassId) (h0 sz : Nat) : Met l kY3 (Jvm.Cond.code kY3 kB3 1 none :: ww_tbl) ({ frames := 1, cells := 8, slots := 1409, locals := 12 }) (kPc D ca [.ref h0] [(h0, .inr (3, [.int 0, .int 0, .int 0, .null, .null, .null, .null, .null]))] sz) (va_Qv (fun _ : Unit => True) (fun _ t => ∃ a1 a2 a3 a4 a5 a6 a7 a8 : Nat, va_P D ww_cl [(h0, .inr (3, [.int 0, .int 0, .int 0, .ref a1, .ref a2, .ref a3, .ref a4, .ref a8])), (a1, .inl (ca 0, 201, .inl fun _ => 0)), (a2, .inl (ca 0, 201, .inl fun _ => 0)), (a3, .inl (ca 1, 201, .inl fun _ => 0)), (a4, .inl (ca 3, 3, .inr (.inr (.inr (.inr (fun i => [a5, a6, a7][i]?)))))), (a5, .inl (ca 0, 201, .inl fun _ => 0)), (a6, .inl (ca 0, 201, .inl fun _ => 0)), (a7, .inl (ca 0, 201, .inl fun _ => 0)), (a8, .inl (ca 0, 200, .inl fun _ => 0))] t.heap ∧ va_D (va_A [(h0, .inr (3, [.int 0, .int 0, .int 0, .null, .null, .null, .null, .null]))] sz) [(h0, .inr (3, [.int 0, .int 0, .int 0, .ref a1, .ref a2, .ref a3, .ref a4, .ref a8])), (a1, .inl (ca 0, 201, .inl fun _ => 0)), (a2, .inl (ca 0, 201, .inl fun _ => 0)), (a3, .inl (ca 1, 201, .inl fun _ => 0)), (a4, .inl (ca 3, 3, .inr (.inr (.inr (.inr (fun i => [a5, a6, a7][i]?)))))), (a5, .inl (ca 0, 201, .inl fun _ => 0)), (a6, .inl (ca 0, 201, .inl fun _ => 0)), (a7, .inl (ca 0, 201, .inl fun _ => 0)), (a8, .inl (ca 0, 200, .inl fun _ => 0))]) (va_A [(h0, .inr (3, [.int 0, .int 0, .int 0, .null, .null, .null, .null, .null]))] sz)) 8 1409 (va_A [(h0, .inr (3, [.int 0, .int 0, .int 0, .null, .null, .null, .null, .null]))] sz) := by
  refine Met.ofW (cc := kB3) (maxL := 1) (ret := none) (by decide) rfl ?_
  intro p e s m args below meth c s₁ B hml hv
  obtain ⟨rfl, hsz, hP, hN, hD0⟩ := hv
  have hx := B.exec
  have hb := B.bytes
  have hr := B.returns
  have hts0 := atoms_spec (ws := Jvm.Cond.code kY3 kB3 1 none :: ww_tbl) B.pre
  have hts := fun w (hw : w ∈ ww_tbl) => hts0 w (List.mem_cons_of_mem _ hw)
  have hown : s.vm.findClass RX3 = some m.cls := findClass_of_methodNamed B.named
  have hlocks := B.notSynchronized
  have hin : meth.name = "<init>" := (name_of_methodNamed B.named B.method).1
  subst hsz
  have hD := hD0.self (sz := s.heap.size)
  generalize hAe : va_A [(h0, .inr (3, [.int 0, .int 0, .int 0, .null, .null, .null, .null, .null]))] s.heap.size = A at hD ⊢
  have hA : ∀ q : Nat, s.heap.size ≤ q → A q := fun q h => by rw [← hAe]; exact Or.inr h
  have hS : va_S A s.heap s.heap [] := va_S.rf
  have hP : va_P D ww_cl [(h0, .inr (3, [.int 0, .int 0, .int 0, .null, .null, .null, .null, .null]))] s.heap := hP
  have hl := lv_entry ([.ref h0]) (n := 1) (Nat.le_of_ble_eq_true rfl)
  rw [lg_entry_eq]
  generalize (lg_sl ([.ref h0]) ++ List.replicate (1 - (lg_sl ([.ref h0])).length) Slot.unset).toArray = ls at hl ⊢
  have hl : lv_has ls 1 [(0, .ref h0)] := hl
  refine lv_aload_n hx hb kd3_0 rfl (lv_at hl 0 rfl) ?_
  refine W.objInit hx hb hown (hts _ (ww_c1 125 rfl rfl)) (hts _ (ww_c1 16 rfl rfl)) (hts _ (ww_c1 17 rfl rfl)) rfl (by rw [hml]; exact hl.1) rfl kd3_1 (Nat.le_of_ble_eq_true rfl) (Nat.le_of_ble_eq_true rfl) ?_
  refine W.eq (g2 := F0 m 4 ls []) rfl ?_
  refine lv_aload_n hx hb kd3_4 rfl (lv_at hl 0 rfl) ?_
  refine lv_sipush (v := 201) hx hb kd3_5 (by decide) ?_
  refine k_newa (ty := .int) (N' := 201) (a0 := (201, .inl fun _ => 0)) hx hb (hts _ (ww_c1 53 rfl rfl)) rfl 0 rfl (fun _ h => h) hN.1 hP hD hS hA (fun _ => rfl) (by decide) (by decide) (by decide) (Nat.le_of_ble_eq_true rfl) (Nat.le_of_ble_eq_true rfl) kd3_8 (fun q1 H hP hD hS => ?_)
  have hP : va_P D ww_cl [(h0, .inr (3, [.int 0, .int 0, .int 0, .null, .null, .null, .null, .null])), (q1, .inl (ca 0, 201, .inl fun _ => 0))] H := hP
  have hD : va_D A [(h0, .inr (3, [.int 0, .int 0, .int 0, .null, .null, .null, .null, .null])), (q1, .inl (ca 0, 201, .inl fun _ => 0))] := hD
  refine va_putF (D := D) (ci := 3) (v := .ref q1) (ty := .array (.int)) (C := RX3) (T := TX3) (N := 8) hx hb hts ww_w3 tyX3 tyX3_ok nmX3 hown hN.1 hP hD hS 0 rfl rfl 3 (by decide) (hts _ (ww_c1 130 rfl rfl)) (fun _ h9 => h9) rfl hin rfl (by decide +kernel) rfl rfl (Nat.le_of_ble_eq_true rfl) kd3_10 (fun H locs hP hD hS => ?_)
  have hP : va_P D ww_cl [(h0, .inr (3, [.int 0, .int 0, .int 0, .ref q1, .null, .null, .null, .null])), (q1, .inl (ca 0, 201, .inl fun _ => 0))] H := hP
  have hD : va_D A [(h0, .inr (3, [.int 0, .int 0, .int 0, .ref q1, .null, .null, .null, .null])), (q1, .inl (ca 0, 201, .inl fun _ => 0))] := hD
  refine lv_aload_n hx hb kd3_13 rfl (lv_at hl 0 rfl) ?_
  refine lv_sipush (v := 201) hx hb kd3_14 (by decide) ?_
  refine k_newa (ty := .int) (N' := 201) (a0 := (201, .inl fun _ => 0)) hx hb (hts _ (ww_c1 53 rfl rfl)) rfl 0 rfl (fun _ h => h) hN.1 hP hD hS hA (fun _ => rfl) (by decide) (by decide) (by decide) (Nat.le_of_ble_eq_true rfl) (Nat.le_of_ble_eq_true rfl) kd3_17 (fun q2 H hP hD hS => ?_)
  have hP : va_P D ww_cl [(h0, .inr (3, [.int 0, .int 0, .int 0, .ref q1, .null, .null, .null, .null])), (q1, .inl (ca 0, 201, .inl fun _ => 0)), (q2, .inl (ca 0, 201, .inl fun _ => 0))] H := hP
  have hD : va_D A [(h0, .inr (3, [.int 0, .int 0, .int 0, .ref q1, .null, .null, .null, .null])), (q1, .inl (ca 0, 201, .inl fun _ => 0)), (q2, .inl (ca 0, 201, .inl fun _ => 0))] := hD
  refine va_putF (D := D) (ci := 3) (v := .ref q2) (ty := .array (.int)) (C := RX3) (T := TX3) (N := 8) hx hb hts ww_w3 tyX3 tyX3_ok nmX3 hown hN.1 hP hD hS 0 rfl rfl 4 (by decide) (hts _ (ww_c1 131 rfl rfl)) (fun _ h9 => h9) rfl hin rfl (by decide +kernel) rfl rfl (Nat.le_of_ble_eq_true rfl) kd3_19 (fun H locs hP hD hS => ?_)
  have hP : va_P D ww_cl [(h0, .inr (3, [.int 0, .int 0, .int 0, .ref q1, .ref q2, .null, .null, .null])), (q1, .inl (ca 0, 201, .inl fun _ => 0)), (q2, .inl (ca 0, 201, .inl fun _ => 0))] H := hP
  have hD : va_D A [(h0, .inr (3, [.int 0, .int 0, .int 0, .ref q1, .ref q2, .null, .null, .null])), (q1, .inl (ca 0, 201, .inl fun _ => 0)), (q2, .inl (ca 0, 201, .inl fun _ => 0))] := hD
  refine lv_aload_n hx hb kd3_22 rfl (lv_at hl 0 rfl) ?_
  refine lv_sipush (v := 201) hx hb kd3_23 (by decide) ?_
  refine k_newa (ty := .boolean) (N' := 201) (a0 := (201, .inl fun _ => 0)) hx hb (hts _ (ww_c1 52 rfl rfl)) rfl 1 rfl (fun _ h => h) hN.1 hP hD hS hA (fun _ => rfl) (by decide) (by decide) (by decide) (Nat.le_of_ble_eq_true rfl) (Nat.le_of_ble_eq_true rfl) kd3_26 (fun q3 H hP hD hS => ?_)
  have hP : va_P D ww_cl [(h0, .inr (3, [.int 0, .int 0, .int 0, .ref q1, .ref q2, .null, .null, .null])), (q1, .inl (ca 0, 201, .inl fun _ => 0)), (q2, .inl (ca 0, 201, .inl fun _ => 0)), (q3, .inl (ca 1, 201, .inl fun _ => 0))] H := hP
  have hD : va_D A [(h0, .inr (3, [.int 0, .int 0, .int 0, .ref q1, .ref q2, .null, .null, .null])), (q1, .inl (ca 0, 201, .inl fun _ => 0)), (q2, .inl (ca 0, 201, .inl fun _ => 0)), (q3, .inl (ca 1, 201, .inl fun _ => 0))] := hD
  refine va_putF (D := D) (ci := 3) (v := .ref q3) (ty := .array (.boolean)) (C := RX3) (T := TX3) (N := 8) hx hb hts ww_w3 tyX3 tyX3_ok nmX3 hown hN.1 hP hD hS 0 rfl rfl 5 (by decide) (hts _ (ww_c1 132 rfl rfl)) (fun _ h9 => h9) rfl hin rfl (by decide +kernel) rfl rfl (Nat.le_of_ble_eq_true rfl) kd3_28 (fun H locs hP hD hS => ?_)
  have hP : va_P D ww_cl [(h0, .inr (3, [.int 0, .int 0, .int 0, .ref q1, .ref q2, .ref q3, .null, .null])), (q1, .inl (ca 0, 201, .inl fun _ => 0)), (q2, .inl (ca 0, 201, .inl fun _ => 0)), (q3, .inl (ca 1, 201, .inl fun _ => 0))] H := hP
  have hD : va_D A [(h0, .inr (3, [.int 0, .int 0, .int 0, .ref q1, .ref q2, .ref q3, .null, .null])), (q1, .inl (ca 0, 201, .inl fun _ => 0)), (q2, .inl (ca 0, 201, .inl fun _ => 0)), (q3, .inl (ca 1, 201, .inl fun _ => 0))] := hD
  refine lv_aload_n hx hb kd3_31 rfl (lv_at hl 0 rfl) ?_
  refine lv_iconst (v := 3) hx hb kd3_32 (by decide) ?_
  refine lv_sipush (v := 201) hx hb kd3_33 (by decide) ?_
  refine k_mna (N := 3) (M := 201) hx hb hown (hts _ (ww_c1 126 rfl rfl)) hN.2.1 (hts _ (ww_c1 53 rfl rfl)) hN.1 hP hD hS hA (by decide) (by decide) (by decide) (by decide) (by decide) (by decide) (by decide) (Nat.le_of_ble_eq_true rfl) (Nat.le_of_ble_eq_true rfl) kd3_36 (fun q4 H hP hD hS => ?_)
  have hP : va_P D ww_cl [(h0, .inr (3, [.int 0, .int 0, .int 0, .ref q1, .ref q2, .ref q3, .null, .null])), (q1, .inl (ca 0, 201, .inl fun _ => 0)), (q2, .inl (ca 0, 201, .inl fun _ => 0)), (q3, .inl (ca 1, 201, .inl fun _ => 0)), (q4, .inl (ca 3, 3, .inr (.inr (.inr (.inr (fun i => [q4 + 1 + 0, q4 + 1 + 1, q4 + 1 + 2][i]?)))))), (q4 + 1 + 0, .inl (ca 0, 201, .inl fun _ => 0)), (q4 + 1 + 1, .inl (ca 0, 201, .inl fun _ => 0)), (q4 + 1 + 2, .inl (ca 0, 201, .inl fun _ => 0))] H := hP
  have hD : va_D A [(h0, .inr (3, [.int 0, .int 0, .int 0, .ref q1, .ref q2, .ref q3, .null, .null])), (q1, .inl (ca 0, 201, .inl fun _ => 0)), (q2, .inl (ca 0, 201, .inl fun _ => 0)), (q3, .inl (ca 1, 201, .inl fun _ => 0)), (q4, .inl (ca 3, 3, .inr (.inr (.inr (.inr (fun i => [q4 + 1 + 0, q4 + 1 + 1, q4 + 1 + 2][i]?)))))), (q4 + 1 + 0, .inl (ca 0, 201, .inl fun _ => 0)), (q4 + 1 + 1, .inl (ca 0, 201, .inl fun _ => 0)), (q4 + 1 + 2, .inl (ca 0, 201, .inl fun _ => 0))] := hD
  refine va_putF (D := D) (ci := 3) (v := .ref q4) (ty := .array (.array (.int))) (C := RX3) (T := TX3) (N := 8) hx hb hts ww_w3 tyX3 tyX3_ok nmX3 hown hN.1 hP hD hS 0 rfl rfl 6 (by decide) (hts _ (ww_c1 133 rfl rfl)) (fun _ h9 => h9) rfl hin rfl (by decide +kernel) rfl rfl (Nat.le_of_ble_eq_true rfl) kd3_40 (fun H locs hP hD hS => ?_)
  have hP : va_P D ww_cl [(h0, .inr (3, [.int 0, .int 0, .int 0, .ref q1, .ref q2, .ref q3, .ref q4, .null])), (q1, .inl (ca 0, 201, .inl fun _ => 0)), (q2, .inl (ca 0, 201, .inl fun _ => 0)), (q3, .inl (ca 1, 201, .inl fun _ => 0)), (q4, .inl (ca 3, 3, .inr (.inr (.inr (.inr (fun i => [q4 + 1 + 0, q4 + 1 + 1, q4 + 1 + 2][i]?)))))), (q4 + 1 + 0, .inl (ca 0, 201, .inl fun _ => 0)), (q4 + 1 + 1, .inl (ca 0, 201, .inl fun _ => 0)), (q4 + 1 + 2, .inl (ca 0, 201, .inl fun _ => 0))] H := hP
  have hD : va_D A [(h0, .inr (3, [.int 0, .int 0, .int 0, .ref q1, .ref q2, .ref q3, .ref q4, .null])), (q1, .inl (ca 0, 201, .inl fun _ => 0)), (q2, .inl (ca 0, 201, .inl fun _ => 0)), (q3, .inl (ca 1, 201, .inl fun _ => 0)), (q4, .inl (ca 3, 3, .inr (.inr (.inr (.inr (fun i => [q4 + 1 + 0, q4 + 1 + 1, q4 + 1 + 2][i]?)))))), (q4 + 1 + 0, .inl (ca 0, 201, .inl fun _ => 0)), (q4 + 1 + 1, .inl (ca 0, 201, .inl fun _ => 0)), (q4 + 1 + 2, .inl (ca 0, 201, .inl fun _ => 0))] := hD
  refine lv_aload_n hx hb kd3_43 rfl (lv_at hl 0 rfl) ?_
  refine lv_sipush (v := 200) hx hb kd3_44 (by decide) ?_
  refine k_newa (ty := .int) (N' := 200) (a0 := (200, .inl fun _ => 0)) hx hb (hts _ (ww_c1 53 rfl rfl)) rfl 0 rfl (fun _ h => h) hN.1 hP hD hS hA (fun _ => rfl) (by decide) (by decide) (by decide) (Nat.le_of_ble_eq_true rfl) (Nat.le_of_ble_eq_true rfl) kd3_47 (fun q5 H hP hD hS => ?_)
  have hP : va_P D ww_cl [(h0, .inr (3, [.int 0, .int 0, .int 0, .ref q1, .ref q2, .ref q3, .ref q4, .null])), (q1, .inl (ca 0, 201, .inl fun _ => 0)), (q2, .inl (ca 0, 201, .inl fun _ => 0)), (q3, .inl (ca 1, 201, .inl fun _ => 0)), (q4, .inl (ca 3, 3, .inr (.inr (.inr (.inr (fun i => [q4 + 1 + 0, q4 + 1 + 1, q4 + 1 + 2][i]?)))))), (q4 + 1 + 0, .inl (ca 0, 201, .inl fun _ => 0)), (q4 + 1 + 1, .inl (ca 0, 201, .inl fun _ => 0)), (q4 + 1 + 2, .inl (ca 0, 201, .inl fun _ => 0)), (q5, .inl (ca 0, 200, .inl fun _ => 0))] H := hP
  have hD : va_D A [(h0, .inr (3, [.int 0, .int 0, .int 0, .ref q1, .ref q2, .ref q3, .ref q4, .null])), (q1, .inl (ca 0, 201, .inl fun _ => 0)), (q2, .inl (ca 0, 201, .inl fun _ => 0)), (q3, .inl (ca 1, 201, .inl fun _ => 0)), (q4, .inl (ca 3, 3, .inr (.inr (.inr (.inr (fun i => [q4 + 1 + 0, q4 + 1 + 1, q4 + 1 + 2][i]?)))))), (q4 + 1 + 0, .inl (ca 0, 201, .inl fun _ => 0)), (q4 + 1 + 1, .inl (ca 0, 201, .inl fun _ => 0)), (q4 + 1 + 2, .inl (ca 0, 201, .inl fun _ => 0)), (q5, .inl (ca 0, 200, .inl fun _ => 0))] := hD
  refine va_putF (D := D) (ci := 3) (v := .ref q5) (ty := .array (.int)) (C := RX3) (T := TX3) (N := 8) hx hb hts ww_w3 tyX3 tyX3_ok nmX3 hown hN.1 hP hD hS 0 rfl rfl 7 (by decide) (hts _ (ww_c1 134 rfl rfl)) (fun _ h9 => h9) rfl hin rfl (by decide +kernel) rfl rfl (Nat.le_of_ble_eq_true rfl) kd3_49 (fun H locs hP hD hS => ?_)
  have hP : va_P D ww_cl [(h0, .inr (3, [.int 0, .int 0, .int 0, .ref q1, .ref q2, .ref q3, .ref q4, .ref q5])), (q1, .inl (ca 0, 201, .inl fun _ => 0)), (q2, .inl (ca 0, 201, .inl fun _ => 0)), (q3, .inl (ca 1, 201, .inl fun _ => 0)), (q4, .inl (ca 3, 3, .inr (.inr (.inr (.inr (fun i => [q4 + 1 + 0, q4 + 1 + 1, q4 + 1 + 2][i]?)))))), (q4 + 1 + 0, .inl (ca 0, 201, .inl fun _ => 0)), (q4 + 1 + 1, .inl (ca 0, 201, .inl fun _ => 0)), (q4 + 1 + 2, .inl (ca 0, 201, .inl fun _ => 0)), (q5, .inl (ca 0, 200, .inl fun _ => 0))] H := hP
  have hD : va_D A [(h0, .inr (3, [.int 0, .int 0, .int 0, .ref q1, .ref q2, .ref q3, .ref q4, .ref q5])), (q1, .inl (ca 0, 201, .inl fun _ => 0)), (q2, .inl (ca 0, 201, .inl fun _ => 0)), (q3, .inl (ca 1, 201, .inl fun _ => 0)), (q4, .inl (ca 3, 3, .inr (.inr (.inr (.inr (fun i => [q4 + 1 + 0, q4 + 1 + 1, q4 + 1 + 2][i]?)))))), (q4 + 1 + 0, .inl (ca 0, 201, .inl fun _ => 0)), (q4 + 1 + 1, .inl (ca 0, 201, .inl fun _ => 0)), (q4 + 1 + 2, .inl (ca 0, 201, .inl fun _ => 0)), (q5, .inl (ca 0, 200, .inl fun _ => 0))] := hD
  refine W.widen (k := 8) (n := 1409) (Nat.le_of_ble_eq_true rfl) (Nat.le_of_ble_eq_true rfl) ?_
  exact W.vret hx hb hr (fun t ht hW => ⟨⟨(), rfl, trivial, q1, q2, q3, q4, q4 + 1 + 0, q4 + 1 + 1, q4 + 1 + 2, q5, by rw [ht]; exact hP, hD⟩, hS.F ht⟩) hS.2.2 kd3_52
