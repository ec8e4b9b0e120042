/-! 85b.bean -/
def kY0 : MethodName := ⟨"WiringContainer$BeanTable", "<init>", "(LWiringContainer$ClassTable;)V"⟩
abbrev kB0 : ByteArray := prog_2_method_1_code
set_option maxRecDepth 100000 in
theorem kd0_0 : decode kB0 0 = .ok (.aload_n 0, 1) := by decide +kernel
set_option maxRecDepth 100000 in
theorem kd0_1 : decode kB0 1 = .ok (.invokespecial 3, 3) := by decide +kernel
set_option maxRecDepth 100000 in
theorem kd0_4 : decode kB0 4 = .ok (.aload_n 0, 1) := by decide +kernel
set_option maxRecDepth 100000 in
theorem kd0_5 : decode kB0 5 = .ok (.bipush 16, 2) := by decide +kernel
set_option maxRecDepth 100000 in
theorem kd0_7 : decode kB0 7 = .ok (.newarray .int, 2) := by decide +kernel
set_option maxRecDepth 100000 in
theorem kd0_9 : decode kB0 9 = .ok (.putfield 9, 3) := by decide +kernel
set_option maxRecDepth 100000 in
theorem kd0_12 : decode kB0 12 = .ok (.aload_n 0, 1) := by decide +kernel
set_option maxRecDepth 100000 in
theorem kd0_13 : decode kB0 13 = .ok (.bipush 16, 2) := by decide +kernel
set_option maxRecDepth 100000 in
theorem kd0_15 : decode kB0 15 = .ok (.newarray .int, 2) := by decide +kernel
set_option maxRecDepth 100000 in
theorem kd0_17 : decode kB0 17 = .ok (.putfield 15, 3) := by decide +kernel
set_option maxRecDepth 100000 in
theorem kd0_20 : decode kB0 20 = .ok (.aload_n 0, 1) := by decide +kernel
set_option maxRecDepth 100000 in
theorem kd0_21 : decode kB0 21 = .ok (.bipush 16, 2) := by decide +kernel
set_option maxRecDepth 100000 in
theorem kd0_23 : decode kB0 23 = .ok (.newarray .int, 2) := by decide +kernel
set_option maxRecDepth 100000 in
theorem kd0_25 : decode kB0 25 = .ok (.putfield 18, 3) := by decide +kernel
set_option maxRecDepth 100000 in
theorem kd0_28 : decode kB0 28 = .ok (.aload_n 0, 1) := by decide +kernel
set_option maxRecDepth 100000 in
theorem kd0_29 : decode kB0 29 = .ok (.bipush 16, 2) := by decide +kernel
set_option maxRecDepth 100000 in
theorem kd0_31 : decode kB0 31 = .ok (.newarray .int, 2) := by decide +kernel
set_option maxRecDepth 100000 in
theorem kd0_33 : decode kB0 33 = .ok (.putfield 21, 3) := by decide +kernel
set_option maxRecDepth 100000 in
theorem kd0_36 : decode kB0 36 = .ok (.aload_n 0, 1) := by decide +kernel
set_option maxRecDepth 100000 in
theorem kd0_37 : decode kB0 37 = .ok (.bipush 16, 2) := by decide +kernel
set_option maxRecDepth 100000 in
theorem kd0_39 : decode kB0 39 = .ok (.newarray .int, 2) := by decide +kernel
set_option maxRecDepth 100000 in
theorem kd0_41 : decode kB0 41 = .ok (.putfield 24, 3) := by decide +kernel
set_option maxRecDepth 100000 in
theorem kd0_44 : decode kB0 44 = .ok (.aload_n 0, 1) := by decide +kernel
set_option maxRecDepth 100000 in
theorem kd0_45 : decode kB0 45 = .ok (.bipush 16, 2) := by decide +kernel
set_option maxRecDepth 100000 in
theorem kd0_47 : decode kB0 47 = .ok (.newarray .boolean, 2) := by decide +kernel
set_option maxRecDepth 100000 in
theorem kd0_49 : decode kB0 49 = .ok (.putfield 27, 3) := by decide +kernel
set_option maxRecDepth 100000 in
theorem kd0_52 : decode kB0 52 = .ok (.aload_n 0, 1) := by decide +kernel
set_option maxRecDepth 100000 in
theorem kd0_53 : decode kB0 53 = .ok (.bipush 16, 2) := by decide +kernel
set_option maxRecDepth 100000 in
theorem kd0_55 : decode kB0 55 = .ok (.newarray .int, 2) := by decide +kernel
set_option maxRecDepth 100000 in
theorem kd0_57 : decode kB0 57 = .ok (.putfield 31, 3) := by decide +kernel
set_option maxRecDepth 100000 in
theorem kd0_60 : decode kB0 60 = .ok (.aload_n 0, 1) := by decide +kernel
set_option maxRecDepth 100000 in
theorem kd0_61 : decode kB0 61 = .ok (.iconst 3, 1) := by decide +kernel
set_option maxRecDepth 100000 in
theorem kd0_62 : decode kB0 62 = .ok (.bipush 16, 2) := by decide +kernel
set_option maxRecDepth 100000 in
theorem kd0_64 : decode kB0 64 = .ok (.multianewarray 34 2, 4) := by decide +kernel
set_option maxRecDepth 100000 in
theorem kd0_68 : decode kB0 68 = .ok (.putfield 36, 3) := by decide +kernel
set_option maxRecDepth 100000 in
theorem kd0_71 : decode kB0 71 = .ok (.aload_n 0, 1) := by decide +kernel
set_option maxRecDepth 100000 in
theorem kd0_72 : decode kB0 72 = .ok (.iconst 3, 1) := by decide +kernel
set_option maxRecDepth 100000 in
theorem kd0_73 : decode kB0 73 = .ok (.bipush 16, 2) := by decide +kernel
set_option maxRecDepth 100000 in
theorem kd0_75 : decode kB0 75 = .ok (.multianewarray 34 2, 4) := by decide +kernel
set_option maxRecDepth 100000 in
theorem kd0_79 : decode kB0 79 = .ok (.putfield 39, 3) := by decide +kernel
set_option maxRecDepth 100000 in
theorem kd0_82 : decode kB0 82 = .ok (.aload_n 0, 1) := by decide +kernel
set_option maxRecDepth 100000 in
theorem kd0_83 : decode kB0 83 = .ok (.aload_n 1, 1) := by decide +kernel
set_option maxRecDepth 100000 in
theorem kd0_84 : decode kB0 84 = .ok (.putfield 42, 3) := by decide +kernel
set_option maxRecDepth 100000 in
theorem kd0_87 : decode kB0 87 = .ok (.return_, 1) := by decide +kernel
set_option maxRecDepth 100000 in
theorem kF0 : ∀ j, j < 11 → defaultValue (tyX0 j) = vp_V [.null, .int 0, .null, .null, .null, .null, .null, .null, .null, .null, .null] j := fun j hj => by
  match j, hj with
  | 0, _ => rfl
  | 1, _ => rfl
  | 2, _ => rfl
  | 3, _ => rfl
  | 4, _ => rfl
  | 5, _ => rfl
  | 6, _ => rfl
  | 7, _ => rfl
  | 8, _ => rfl
  | 9, _ => rfl
  | 10, _ => rfl
  | j + 11, hj => omega
set_option maxHeartbeats 4000000 in
set_option maxRecDepth 100000 in
theorem kCt0 (l : Launch) (D : va_G) (ca : Nat → ClassId) (h0 sz : Nat) (r0 : Nat) : Met l kY0 (Jvm.Cond.code kY0 kB0 2 none :: ww_tbl) ({ frames := 1, cells := 15, slots := 214, locals := 12 }) (kPc D ca [.ref h0, .ref r0] [(h0, .inr (0, [.null, .int 0, .null, .null, .null, .null, .null, .null, .null, .null, .null]))] sz) (va_Qv (fun _ : Unit => True) (fun _ t => ∃ a1 a2 a3 a4 a5 a6 a7 a8 a9 a10 a11 a12 a13 a14 a15 : Nat, va_P D ww_cl [(h0, .inr (0, [.ref r0, .int 0, .ref a1, .ref a2, .ref a3, .ref a4, .ref a5, .ref a6, .ref a7, .ref a8, .ref a12])), (a1, .inl (ca 0, 16, .inl fun _ => 0)), (a2, .inl (ca 0, 16, .inl fun _ => 0)), (a3, .inl (ca 0, 16, .inl fun _ => 0)), (a4, .inl (ca 0, 16, .inl fun _ => 0)), (a5, .inl (ca 0, 16, .inl fun _ => 0)), (a6, .inl (ca 1, 16, .inl fun _ => 0)), (a7, .inl (ca 0, 16, .inl fun _ => 0)), (a8, .inl (ca 3, 3, .inr (.inr (.inr (.inr (fun i => [a9, a10, a11][i]?)))))), (a9, .inl (ca 0, 16, .inl fun _ => 0)), (a10, .inl (ca 0, 16, .inl fun _ => 0)), (a11, .inl (ca 0, 16, .inl fun _ => 0)), (a12, .inl (ca 3, 3, .inr (.inr (.inr (.inr (fun i => [a13, a14, a15][i]?)))))), (a13, .inl (ca 0, 16, .inl fun _ => 0)), (a14, .inl (ca 0, 16, .inl fun _ => 0)), (a15, .inl (ca 0, 16, .inl fun _ => 0))] t.heap ∧ va_D (va_A [(h0, .inr (0, [.null, .int 0, .null, .null, .null, .null, .null, .null, .null, .null, .null]))] sz) [(h0, .inr (0, [.ref r0, .int 0, .ref a1, .ref a2, .ref a3, .ref a4, .ref a5, .ref a6, .ref a7, .ref a8, .ref a12])), (a1, .inl (ca 0, 16, .inl fun _ => 0)), (a2, .inl (ca 0, 16, .inl fun _ => 0)), (a3, .inl (ca 0, 16, .inl fun _ => 0)), (a4, .inl (ca 0, 16, .inl fun _ => 0)), (a5, .inl (ca 0, 16, .inl fun _ => 0)), (a6, .inl (ca 1, 16, .inl fun _ => 0)), (a7, .inl (ca 0, 16, .inl fun _ => 0)), (a8, .inl (ca 3, 3, .inr (.inr (.inr (.inr (fun i => [a9, a10, a11][i]?)))))), (a9, .inl (ca 0, 16, .inl fun _ => 0)), (a10, .inl (ca 0, 16, .inl fun _ => 0)), (a11, .inl (ca 0, 16, .inl fun _ => 0)), (a12, .inl (ca 3, 3, .inr (.inr (.inr (.inr (fun i => [a13, a14, a15][i]?)))))), (a13, .inl (ca 0, 16, .inl fun _ => 0)), (a14, .inl (ca 0, 16, .inl fun _ => 0)), (a15, .inl (ca 0, 16, .inl fun _ => 0))]) (va_A [(h0, .inr (0, [.null, .int 0, .null, .null, .null, .null, .null, .null, .null, .null, .null]))] sz)) 15 214 (va_A [(h0, .inr (0, [.null, .int 0, .null, .null, .null, .null, .null, .null, .null, .null, .null]))] sz) := by
  refine Met.ofW (cc := kB0) (maxL := 2) (ret := none) (by decide) rfl ?_
  intro p e s m args below meth c s₁ B hml hv
  obtain ⟨rfl, hsz, hP, hN, hD0⟩ := hv
  have hx := B.exec
  have hb := B.bytes
  have hr := B.returns
  have hts0 := atoms_spec (ws := Jvm.Cond.code kY0 kB0 2 none :: ww_tbl) B.pre
  have hts := fun w (hw : w ∈ ww_tbl) => hts0 w (List.mem_cons_of_mem _ hw)
  have hown : s.vm.findClass RX0 = some m.cls := findClass_of_methodNamed B.named
  have hlocks := B.notSynchronized
  have hin : meth.name = "<init>" := (name_of_methodNamed B.named B.method).1
  subst hsz
  have hD := hD0.self (sz := s.heap.size)
  generalize hAe : va_A [(h0, .inr (0, [.null, .int 0, .null, .null, .null, .null, .null, .null, .null, .null, .null]))] s.heap.size = A at hD ⊢
  have hA : ∀ q : Nat, s.heap.size ≤ q → A q := fun q h => by rw [← hAe]; exact Or.inr h
  have hS : va_S A s.heap s.heap [] := va_S.rf
  have hP : va_P D ww_cl [(h0, .inr (0, [.null, .int 0, .null, .null, .null, .null, .null, .null, .null, .null, .null]))] s.heap := hP
  have hl := lv_entry ([.ref h0, .ref r0]) (n := 2) (Nat.le_of_ble_eq_true rfl)
  rw [lg_entry_eq]
  generalize (lg_sl ([.ref h0, .ref r0]) ++ List.replicate (2 - (lg_sl ([.ref h0, .ref r0])).length) Slot.unset).toArray = ls at hl ⊢
  have hl : lv_has ls 2 [(0, .ref h0), (1, .ref r0)] := hl
  refine lv_aload_n hx hb kd0_0 rfl (lv_at hl 0 rfl) ?_
  refine W.objInit hx hb hown (hts _ (ww_c1 60 rfl rfl)) (hts _ (ww_c1 16 rfl rfl)) (hts _ (ww_c1 17 rfl rfl)) rfl (by rw [hml]; exact hl.1) rfl kd0_1 (Nat.le_of_ble_eq_true rfl) (Nat.le_of_ble_eq_true rfl) ?_
  refine W.eq (g2 := F0 m 4 ls []) rfl ?_
  refine lv_aload_n hx hb kd0_4 rfl (lv_at hl 0 rfl) ?_
  refine lv_bipush (v := 16) hx hb kd0_5 (by decide) ?_
  refine k_newa (ty := .int) (N' := 16) (a0 := (16, .inl fun _ => 0)) hx hb (hts _ (ww_c1 53 rfl rfl)) rfl 0 rfl (fun _ h => h) hN.1 hP hD hS hA (fun _ => rfl) (by decide) (by decide) (by decide) (Nat.le_of_ble_eq_true rfl) (Nat.le_of_ble_eq_true rfl) kd0_7 (fun q1 H hP hD hS => ?_)
  have hP : va_P D ww_cl [(h0, .inr (0, [.null, .int 0, .null, .null, .null, .null, .null, .null, .null, .null, .null])), (q1, .inl (ca 0, 16, .inl fun _ => 0))] H := hP
  have hD : va_D A [(h0, .inr (0, [.null, .int 0, .null, .null, .null, .null, .null, .null, .null, .null, .null])), (q1, .inl (ca 0, 16, .inl fun _ => 0))] := hD
  refine va_putF (D := D) (ci := 0) (v := .ref q1) (ty := .array (.int)) (C := RX0) (T := TX0) (N := 11) hx hb hts ww_w0 tyX0 tyX0_ok nmX0 hown hN.1 hP hD hS 0 rfl rfl 2 (by decide) (hts _ (ww_c1 65 rfl rfl)) (fun _ h9 => h9) rfl hin rfl (by decide +kernel) rfl rfl (Nat.le_of_ble_eq_true rfl) kd0_9 (fun H locs hP hD hS => ?_)
  have hP : va_P D ww_cl [(h0, .inr (0, [.null, .int 0, .ref q1, .null, .null, .null, .null, .null, .null, .null, .null])), (q1, .inl (ca 0, 16, .inl fun _ => 0))] H := hP
  have hD : va_D A [(h0, .inr (0, [.null, .int 0, .ref q1, .null, .null, .null, .null, .null, .null, .null, .null])), (q1, .inl (ca 0, 16, .inl fun _ => 0))] := hD
  refine lv_aload_n hx hb kd0_12 rfl (lv_at hl 0 rfl) ?_
  refine lv_bipush (v := 16) hx hb kd0_13 (by decide) ?_
  refine k_newa (ty := .int) (N' := 16) (a0 := (16, .inl fun _ => 0)) hx hb (hts _ (ww_c1 53 rfl rfl)) rfl 0 rfl (fun _ h => h) hN.1 hP hD hS hA (fun _ => rfl) (by decide) (by decide) (by decide) (Nat.le_of_ble_eq_true rfl) (Nat.le_of_ble_eq_true rfl) kd0_15 (fun q2 H hP hD hS => ?_)
  have hP : va_P D ww_cl [(h0, .inr (0, [.null, .int 0, .ref q1, .null, .null, .null, .null, .null, .null, .null, .null])), (q1, .inl (ca 0, 16, .inl fun _ => 0)), (q2, .inl (ca 0, 16, .inl fun _ => 0))] H := hP
  have hD : va_D A [(h0, .inr (0, [.null, .int 0, .ref q1, .null, .null, .null, .null, .null, .null, .null, .null])), (q1, .inl (ca 0, 16, .inl fun _ => 0)), (q2, .inl (ca 0, 16, .inl fun _ => 0))] := hD
  refine va_putF (D := D) (ci := 0) (v := .ref q2) (ty := .array (.int)) (C := RX0) (T := TX0) (N := 11) hx hb hts ww_w0 tyX0 tyX0_ok nmX0 hown hN.1 hP hD hS 0 rfl rfl 3 (by decide) (hts _ (ww_c1 66 rfl rfl)) (fun _ h9 => h9) rfl hin rfl (by decide +kernel) rfl rfl (Nat.le_of_ble_eq_true rfl) kd0_17 (fun H locs hP hD hS => ?_)
  have hP : va_P D ww_cl [(h0, .inr (0, [.null, .int 0, .ref q1, .ref q2, .null, .null, .null, .null, .null, .null, .null])), (q1, .inl (ca 0, 16, .inl fun _ => 0)), (q2, .inl (ca 0, 16, .inl fun _ => 0))] H := hP
  have hD : va_D A [(h0, .inr (0, [.null, .int 0, .ref q1, .ref q2, .null, .null, .null, .null, .null, .null, .null])), (q1, .inl (ca 0, 16, .inl fun _ => 0)), (q2, .inl (ca 0, 16, .inl fun _ => 0))] := hD
  refine lv_aload_n hx hb kd0_20 rfl (lv_at hl 0 rfl) ?_
  refine lv_bipush (v := 16) hx hb kd0_21 (by decide) ?_
  refine k_newa (ty := .int) (N' := 16) (a0 := (16, .inl fun _ => 0)) hx hb (hts _ (ww_c1 53 rfl rfl)) rfl 0 rfl (fun _ h => h) hN.1 hP hD hS hA (fun _ => rfl) (by decide) (by decide) (by decide) (Nat.le_of_ble_eq_true rfl) (Nat.le_of_ble_eq_true rfl) kd0_23 (fun q3 H hP hD hS => ?_)
  have hP : va_P D ww_cl [(h0, .inr (0, [.null, .int 0, .ref q1, .ref q2, .null, .null, .null, .null, .null, .null, .null])), (q1, .inl (ca 0, 16, .inl fun _ => 0)), (q2, .inl (ca 0, 16, .inl fun _ => 0)), (q3, .inl (ca 0, 16, .inl fun _ => 0))] H := hP
  have hD : va_D A [(h0, .inr (0, [.null, .int 0, .ref q1, .ref q2, .null, .null, .null, .null, .null, .null, .null])), (q1, .inl (ca 0, 16, .inl fun _ => 0)), (q2, .inl (ca 0, 16, .inl fun _ => 0)), (q3, .inl (ca 0, 16, .inl fun _ => 0))] := hD
  refine va_putF (D := D) (ci := 0) (v := .ref q3) (ty := .array (.int)) (C := RX0) (T := TX0) (N := 11) hx hb hts ww_w0 tyX0 tyX0_ok nmX0 hown hN.1 hP hD hS 0 rfl rfl 4 (by decide) (hts _ (ww_c1 67 rfl rfl)) (fun _ h9 => h9) rfl hin rfl (by decide +kernel) rfl rfl (Nat.le_of_ble_eq_true rfl) kd0_25 (fun H locs hP hD hS => ?_)
  have hP : va_P D ww_cl [(h0, .inr (0, [.null, .int 0, .ref q1, .ref q2, .ref q3, .null, .null, .null, .null, .null, .null])), (q1, .inl (ca 0, 16, .inl fun _ => 0)), (q2, .inl (ca 0, 16, .inl fun _ => 0)), (q3, .inl (ca 0, 16, .inl fun _ => 0))] H := hP
  have hD : va_D A [(h0, .inr (0, [.null, .int 0, .ref q1, .ref q2, .ref q3, .null, .null, .null, .null, .null, .null])), (q1, .inl (ca 0, 16, .inl fun _ => 0)), (q2, .inl (ca 0, 16, .inl fun _ => 0)), (q3, .inl (ca 0, 16, .inl fun _ => 0))] := hD
  refine lv_aload_n hx hb kd0_28 rfl (lv_at hl 0 rfl) ?_
  refine lv_bipush (v := 16) hx hb kd0_29 (by decide) ?_
  refine k_newa (ty := .int) (N' := 16) (a0 := (16, .inl fun _ => 0)) hx hb (hts _ (ww_c1 53 rfl rfl)) rfl 0 rfl (fun _ h => h) hN.1 hP hD hS hA (fun _ => rfl) (by decide) (by decide) (by decide) (Nat.le_of_ble_eq_true rfl) (Nat.le_of_ble_eq_true rfl) kd0_31 (fun q4 H hP hD hS => ?_)
  have hP : va_P D ww_cl [(h0, .inr (0, [.null, .int 0, .ref q1, .ref q2, .ref q3, .null, .null, .null, .null, .null, .null])), (q1, .inl (ca 0, 16, .inl fun _ => 0)), (q2, .inl (ca 0, 16, .inl fun _ => 0)), (q3, .inl (ca 0, 16, .inl fun _ => 0)), (q4, .inl (ca 0, 16, .inl fun _ => 0))] H := hP
  have hD : va_D A [(h0, .inr (0, [.null, .int 0, .ref q1, .ref q2, .ref q3, .null, .null, .null, .null, .null, .null])), (q1, .inl (ca 0, 16, .inl fun _ => 0)), (q2, .inl (ca 0, 16, .inl fun _ => 0)), (q3, .inl (ca 0, 16, .inl fun _ => 0)), (q4, .inl (ca 0, 16, .inl fun _ => 0))] := hD
  refine va_putF (D := D) (ci := 0) (v := .ref q4) (ty := .array (.int)) (C := RX0) (T := TX0) (N := 11) hx hb hts ww_w0 tyX0 tyX0_ok nmX0 hown hN.1 hP hD hS 0 rfl rfl 5 (by decide) (hts _ (ww_c1 68 rfl rfl)) (fun _ h9 => h9) rfl hin rfl (by decide +kernel) rfl rfl (Nat.le_of_ble_eq_true rfl) kd0_33 (fun H locs hP hD hS => ?_)
  have hP : va_P D ww_cl [(h0, .inr (0, [.null, .int 0, .ref q1, .ref q2, .ref q3, .ref q4, .null, .null, .null, .null, .null])), (q1, .inl (ca 0, 16, .inl fun _ => 0)), (q2, .inl (ca 0, 16, .inl fun _ => 0)), (q3, .inl (ca 0, 16, .inl fun _ => 0)), (q4, .inl (ca 0, 16, .inl fun _ => 0))] H := hP
  have hD : va_D A [(h0, .inr (0, [.null, .int 0, .ref q1, .ref q2, .ref q3, .ref q4, .null, .null, .null, .null, .null])), (q1, .inl (ca 0, 16, .inl fun _ => 0)), (q2, .inl (ca 0, 16, .inl fun _ => 0)), (q3, .inl (ca 0, 16, .inl fun _ => 0)), (q4, .inl (ca 0, 16, .inl fun _ => 0))] := hD
  refine lv_aload_n hx hb kd0_36 rfl (lv_at hl 0 rfl) ?_
  refine lv_bipush (v := 16) hx hb kd0_37 (by decide) ?_
  refine k_newa (ty := .int) (N' := 16) (a0 := (16, .inl fun _ => 0)) hx hb (hts _ (ww_c1 53 rfl rfl)) rfl 0 rfl (fun _ h => h) hN.1 hP hD hS hA (fun _ => rfl) (by decide) (by decide) (by decide) (Nat.le_of_ble_eq_true rfl) (Nat.le_of_ble_eq_true rfl) kd0_39 (fun q5 H hP hD hS => ?_)
  have hP : va_P D ww_cl [(h0, .inr (0, [.null, .int 0, .ref q1, .ref q2, .ref q3, .ref q4, .null, .null, .null, .null, .null])), (q1, .inl (ca 0, 16, .inl fun _ => 0)), (q2, .inl (ca 0, 16, .inl fun _ => 0)), (q3, .inl (ca 0, 16, .inl fun _ => 0)), (q4, .inl (ca 0, 16, .inl fun _ => 0)), (q5, .inl (ca 0, 16, .inl fun _ => 0))] H := hP
  have hD : va_D A [(h0, .inr (0, [.null, .int 0, .ref q1, .ref q2, .ref q3, .ref q4, .null, .null, .null, .null, .null])), (q1, .inl (ca 0, 16, .inl fun _ => 0)), (q2, .inl (ca 0, 16, .inl fun _ => 0)), (q3, .inl (ca 0, 16, .inl fun _ => 0)), (q4, .inl (ca 0, 16, .inl fun _ => 0)), (q5, .inl (ca 0, 16, .inl fun _ => 0))] := hD
  refine va_putF (D := D) (ci := 0) (v := .ref q5) (ty := .array (.int)) (C := RX0) (T := TX0) (N := 11) hx hb hts ww_w0 tyX0 tyX0_ok nmX0 hown hN.1 hP hD hS 0 rfl rfl 6 (by decide) (hts _ (ww_c1 69 rfl rfl)) (fun _ h9 => h9) rfl hin rfl (by decide +kernel) rfl rfl (Nat.le_of_ble_eq_true rfl) kd0_41 (fun H locs hP hD hS => ?_)
  have hP : va_P D ww_cl [(h0, .inr (0, [.null, .int 0, .ref q1, .ref q2, .ref q3, .ref q4, .ref q5, .null, .null, .null, .null])), (q1, .inl (ca 0, 16, .inl fun _ => 0)), (q2, .inl (ca 0, 16, .inl fun _ => 0)), (q3, .inl (ca 0, 16, .inl fun _ => 0)), (q4, .inl (ca 0, 16, .inl fun _ => 0)), (q5, .inl (ca 0, 16, .inl fun _ => 0))] H := hP
  have hD : va_D A [(h0, .inr (0, [.null, .int 0, .ref q1, .ref q2, .ref q3, .ref q4, .ref q5, .null, .null, .null, .null])), (q1, .inl (ca 0, 16, .inl fun _ => 0)), (q2, .inl (ca 0, 16, .inl fun _ => 0)), (q3, .inl (ca 0, 16, .inl fun _ => 0)), (q4, .inl (ca 0, 16, .inl fun _ => 0)), (q5, .inl (ca 0, 16, .inl fun _ => 0))] := hD
  refine lv_aload_n hx hb kd0_44 rfl (lv_at hl 0 rfl) ?_
  refine lv_bipush (v := 16) hx hb kd0_45 (by decide) ?_
  refine k_newa (ty := .boolean) (N' := 16) (a0 := (16, .inl fun _ => 0)) hx hb (hts _ (ww_c1 52 rfl rfl)) rfl 1 rfl (fun _ h => h) hN.1 hP hD hS hA (fun _ => rfl) (by decide) (by decide) (by decide) (Nat.le_of_ble_eq_true rfl) (Nat.le_of_ble_eq_true rfl) kd0_47 (fun q6 H hP hD hS => ?_)
  have hP : va_P D ww_cl [(h0, .inr (0, [.null, .int 0, .ref q1, .ref q2, .ref q3, .ref q4, .ref q5, .null, .null, .null, .null])), (q1, .inl (ca 0, 16, .inl fun _ => 0)), (q2, .inl (ca 0, 16, .inl fun _ => 0)), (q3, .inl (ca 0, 16, .inl fun _ => 0)), (q4, .inl (ca 0, 16, .inl fun _ => 0)), (q5, .inl (ca 0, 16, .inl fun _ => 0)), (q6, .inl (ca 1, 16, .inl fun _ => 0))] H := hP
  have hD : va_D A [(h0, .inr (0, [.null, .int 0, .ref q1, .ref q2, .ref q3, .ref q4, .ref q5, .null, .null, .null, .null])), (q1, .inl (ca 0, 16, .inl fun _ => 0)), (q2, .inl (ca 0, 16, .inl fun _ => 0)), (q3, .inl (ca 0, 16, .inl fun _ => 0)), (q4, .inl (ca 0, 16, .inl fun _ => 0)), (q5, .inl (ca 0, 16, .inl fun _ => 0)), (q6, .inl (ca 1, 16, .inl fun _ => 0))] := hD
  refine va_putF (D := D) (ci := 0) (v := .ref q6) (ty := .array (.boolean)) (C := RX0) (T := TX0) (N := 11) hx hb hts ww_w0 tyX0 tyX0_ok nmX0 hown hN.1 hP hD hS 0 rfl rfl 7 (by decide) (hts _ (ww_c1 70 rfl rfl)) (fun _ h9 => h9) rfl hin rfl (by decide +kernel) rfl rfl (Nat.le_of_ble_eq_true rfl) kd0_49 (fun H locs hP hD hS => ?_)
  have hP : va_P D ww_cl [(h0, .inr (0, [.null, .int 0, .ref q1, .ref q2, .ref q3, .ref q4, .ref q5, .ref q6, .null, .null, .null])), (q1, .inl (ca 0, 16, .inl fun _ => 0)), (q2, .inl (ca 0, 16, .inl fun _ => 0)), (q3, .inl (ca 0, 16, .inl fun _ => 0)), (q4, .inl (ca 0, 16, .inl fun _ => 0)), (q5, .inl (ca 0, 16, .inl fun _ => 0)), (q6, .inl (ca 1, 16, .inl fun _ => 0))] H := hP
  have hD : va_D A [(h0, .inr (0, [.null, .int 0, .ref q1, .ref q2, .ref q3, .ref q4, .ref q5, .ref q6, .null, .null, .null])), (q1, .inl (ca 0, 16, .inl fun _ => 0)), (q2, .inl (ca 0, 16, .inl fun _ => 0)), (q3, .inl (ca 0, 16, .inl fun _ => 0)), (q4, .inl (ca 0, 16, .inl fun _ => 0)), (q5, .inl (ca 0, 16, .inl fun _ => 0)), (q6, .inl (ca 1, 16, .inl fun _ => 0))] := hD
  refine lv_aload_n hx hb kd0_52 rfl (lv_at hl 0 rfl) ?_
  refine lv_bipush (v := 16) hx hb kd0_53 (by decide) ?_
  refine k_newa (ty := .int) (N' := 16) (a0 := (16, .inl fun _ => 0)) hx hb (hts _ (ww_c1 53 rfl rfl)) rfl 0 rfl (fun _ h => h) hN.1 hP hD hS hA (fun _ => rfl) (by decide) (by decide) (by decide) (Nat.le_of_ble_eq_true rfl) (Nat.le_of_ble_eq_true rfl) kd0_55 (fun q7 H hP hD hS => ?_)
  have hP : va_P D ww_cl [(h0, .inr (0, [.null, .int 0, .ref q1, .ref q2, .ref q3, .ref q4, .ref q5, .ref q6, .null, .null, .null])), (q1, .inl (ca 0, 16, .inl fun _ => 0)), (q2, .inl (ca 0, 16, .inl fun _ => 0)), (q3, .inl (ca 0, 16, .inl fun _ => 0)), (q4, .inl (ca 0, 16, .inl fun _ => 0)), (q5, .inl (ca 0, 16, .inl fun _ => 0)), (q6, .inl (ca 1, 16, .inl fun _ => 0)), (q7, .inl (ca 0, 16, .inl fun _ => 0))] H := hP
  have hD : va_D A [(h0, .inr (0, [.null, .int 0, .ref q1, .ref q2, .ref q3, .ref q4, .ref q5, .ref q6, .null, .null, .null])), (q1, .inl (ca 0, 16, .inl fun _ => 0)), (q2, .inl (ca 0, 16, .inl fun _ => 0)), (q3, .inl (ca 0, 16, .inl fun _ => 0)), (q4, .inl (ca 0, 16, .inl fun _ => 0)), (q5, .inl (ca 0, 16, .inl fun _ => 0)), (q6, .inl (ca 1, 16, .inl fun _ => 0)), (q7, .inl (ca 0, 16, .inl fun _ => 0))] := hD
  refine va_putF (D := D) (ci := 0) (v := .ref q7) (ty := .array (.int)) (C := RX0) (T := TX0) (N := 11) hx hb hts ww_w0 tyX0 tyX0_ok nmX0 hown hN.1 hP hD hS 0 rfl rfl 8 (by decide) (hts _ (ww_c1 71 rfl rfl)) (fun _ h9 => h9) rfl hin rfl (by decide +kernel) rfl rfl (Nat.le_of_ble_eq_true rfl) kd0_57 (fun H locs hP hD hS => ?_)
  have hP : va_P D ww_cl [(h0, .inr (0, [.null, .int 0, .ref q1, .ref q2, .ref q3, .ref q4, .ref q5, .ref q6, .ref q7, .null, .null])), (q1, .inl (ca 0, 16, .inl fun _ => 0)), (q2, .inl (ca 0, 16, .inl fun _ => 0)), (q3, .inl (ca 0, 16, .inl fun _ => 0)), (q4, .inl (ca 0, 16, .inl fun _ => 0)), (q5, .inl (ca 0, 16, .inl fun _ => 0)), (q6, .inl (ca 1, 16, .inl fun _ => 0)), (q7, .inl (ca 0, 16, .inl fun _ => 0))] H := hP
  have hD : va_D A [(h0, .inr (0, [.null, .int 0, .ref q1, .ref q2, .ref q3, .ref q4, .ref q5, .ref q6, .ref q7, .null, .null])), (q1, .inl (ca 0, 16, .inl fun _ => 0)), (q2, .inl (ca 0, 16, .inl fun _ => 0)), (q3, .inl (ca 0, 16, .inl fun _ => 0)), (q4, .inl (ca 0, 16, .inl fun _ => 0)), (q5, .inl (ca 0, 16, .inl fun _ => 0)), (q6, .inl (ca 1, 16, .inl fun _ => 0)), (q7, .inl (ca 0, 16, .inl fun _ => 0))] := hD
  refine lv_aload_n hx hb kd0_60 rfl (lv_at hl 0 rfl) ?_
  refine lv_iconst (v := 3) hx hb kd0_61 (by decide) ?_
  refine lv_bipush (v := 16) hx hb kd0_62 (by decide) ?_
  refine k_mna (N := 3) (M := 16) hx hb hown (hts _ (ww_c1 61 rfl rfl)) hN.2.1 (hts _ (ww_c1 53 rfl rfl)) hN.1 hP hD hS hA (by decide) (by decide) (by decide) (by decide) (by decide) (by decide) (by decide) (Nat.le_of_ble_eq_true rfl) (Nat.le_of_ble_eq_true rfl) kd0_64 (fun q8 H hP hD hS => ?_)
  have hP : va_P D ww_cl [(h0, .inr (0, [.null, .int 0, .ref q1, .ref q2, .ref q3, .ref q4, .ref q5, .ref q6, .ref q7, .null, .null])), (q1, .inl (ca 0, 16, .inl fun _ => 0)), (q2, .inl (ca 0, 16, .inl fun _ => 0)), (q3, .inl (ca 0, 16, .inl fun _ => 0)), (q4, .inl (ca 0, 16, .inl fun _ => 0)), (q5, .inl (ca 0, 16, .inl fun _ => 0)), (q6, .inl (ca 1, 16, .inl fun _ => 0)), (q7, .inl (ca 0, 16, .inl fun _ => 0)), (q8, .inl (ca 3, 3, .inr (.inr (.inr (.inr (fun i => [q8 + 1 + 0, q8 + 1 + 1, q8 + 1 + 2][i]?)))))), (q8 + 1 + 0, .inl (ca 0, 16, .inl fun _ => 0)), (q8 + 1 + 1, .inl (ca 0, 16, .inl fun _ => 0)), (q8 + 1 + 2, .inl (ca 0, 16, .inl fun _ => 0))] H := hP
  have hD : va_D A [(h0, .inr (0, [.null, .int 0, .ref q1, .ref q2, .ref q3, .ref q4, .ref q5, .ref q6, .ref q7, .null, .null])), (q1, .inl (ca 0, 16, .inl fun _ => 0)), (q2, .inl (ca 0, 16, .inl fun _ => 0)), (q3, .inl (ca 0, 16, .inl fun _ => 0)), (q4, .inl (ca 0, 16, .inl fun _ => 0)), (q5, .inl (ca 0, 16, .inl fun _ => 0)), (q6, .inl (ca 1, 16, .inl fun _ => 0)), (q7, .inl (ca 0, 16, .inl fun _ => 0)), (q8, .inl (ca 3, 3, .inr (.inr (.inr (.inr (fun i => [q8 + 1 + 0, q8 + 1 + 1, q8 + 1 + 2][i]?)))))), (q8 + 1 + 0, .inl (ca 0, 16, .inl fun _ => 0)), (q8 + 1 + 1, .inl (ca 0, 16, .inl fun _ => 0)), (q8 + 1 + 2, .inl (ca 0, 16, .inl fun _ => 0))] := hD
  refine va_putF (D := D) (ci := 0) (v := .ref q8) (ty := .array (.array (.int))) (C := RX0) (T := TX0) (N := 11) hx hb hts ww_w0 tyX0 tyX0_ok nmX0 hown hN.1 hP hD hS 0 rfl rfl 9 (by decide) (hts _ (ww_c1 72 rfl rfl)) (fun _ h9 => h9) rfl hin rfl (by decide +kernel) rfl rfl (Nat.le_of_ble_eq_true rfl) kd0_68 (fun H locs hP hD hS => ?_)
  have hP : va_P D ww_cl [(h0, .inr (0, [.null, .int 0, .ref q1, .ref q2, .ref q3, .ref q4, .ref q5, .ref q6, .ref q7, .ref q8, .null])), (q1, .inl (ca 0, 16, .inl fun _ => 0)), (q2, .inl (ca 0, 16, .inl fun _ => 0)), (q3, .inl (ca 0, 16, .inl fun _ => 0)), (q4, .inl (ca 0, 16, .inl fun _ => 0)), (q5, .inl (ca 0, 16, .inl fun _ => 0)), (q6, .inl (ca 1, 16, .inl fun _ => 0)), (q7, .inl (ca 0, 16, .inl fun _ => 0)), (q8, .inl (ca 3, 3, .inr (.inr (.inr (.inr (fun i => [q8 + 1 + 0, q8 + 1 + 1, q8 + 1 + 2][i]?)))))), (q8 + 1 + 0, .inl (ca 0, 16, .inl fun _ => 0)), (q8 + 1 + 1, .inl (ca 0, 16, .inl fun _ => 0)), (q8 + 1 + 2, .inl (ca 0, 16, .inl fun _ => 0))] H := hP
  have hD : va_D A [(h0, .inr (0, [.null, .int 0, .ref q1, .ref q2, .ref q3, .ref q4, .ref q5, .ref q6, .ref q7, .ref q8, .null])), (q1, .inl (ca 0, 16, .inl fun _ => 0)), (q2, .inl (ca 0, 16, .inl fun _ => 0)), (q3, .inl (ca 0, 16, .inl fun _ => 0)), (q4, .inl (ca 0, 16, .inl fun _ => 0)), (q5, .inl (ca 0, 16, .inl fun _ => 0)), (q6, .inl (ca 1, 16, .inl fun _ => 0)), (q7, .inl (ca 0, 16, .inl fun _ => 0)), (q8, .inl (ca 3, 3, .inr (.inr (.inr (.inr (fun i => [q8 + 1 + 0, q8 + 1 + 1, q8 + 1 + 2][i]?)))))), (q8 + 1 + 0, .inl (ca 0, 16, .inl fun _ => 0)), (q8 + 1 + 1, .inl (ca 0, 16, .inl fun _ => 0)), (q8 + 1 + 2, .inl (ca 0, 16, .inl fun _ => 0))] := hD
  refine lv_aload_n hx hb kd0_71 rfl (lv_at hl 0 rfl) ?_
  refine lv_iconst (v := 3) hx hb kd0_72 (by decide) ?_
  refine lv_bipush (v := 16) hx hb kd0_73 (by decide) ?_
  refine k_mna (N := 3) (M := 16) hx hb hown (hts _ (ww_c1 61 rfl rfl)) hN.2.1 (hts _ (ww_c1 53 rfl rfl)) hN.1 hP hD hS hA (by decide) (by decide) (by decide) (by decide) (by decide) (by decide) (by decide) (Nat.le_of_ble_eq_true rfl) (Nat.le_of_ble_eq_true rfl) kd0_75 (fun q9 H hP hD hS => ?_)
  have hP : va_P D ww_cl [(h0, .inr (0, [.null, .int 0, .ref q1, .ref q2, .ref q3, .ref q4, .ref q5, .ref q6, .ref q7, .ref q8, .null])), (q1, .inl (ca 0, 16, .inl fun _ => 0)), (q2, .inl (ca 0, 16, .inl fun _ => 0)), (q3, .inl (ca 0, 16, .inl fun _ => 0)), (q4, .inl (ca 0, 16, .inl fun _ => 0)), (q5, .inl (ca 0, 16, .inl fun _ => 0)), (q6, .inl (ca 1, 16, .inl fun _ => 0)), (q7, .inl (ca 0, 16, .inl fun _ => 0)), (q8, .inl (ca 3, 3, .inr (.inr (.inr (.inr (fun i => [q8 + 1 + 0, q8 + 1 + 1, q8 + 1 + 2][i]?)))))), (q8 + 1 + 0, .inl (ca 0, 16, .inl fun _ => 0)), (q8 + 1 + 1, .inl (ca 0, 16, .inl fun _ => 0)), (q8 + 1 + 2, .inl (ca 0, 16, .inl fun _ => 0)), (q9, .inl (ca 3, 3, .inr (.inr (.inr (.inr (fun i => [q9 + 1 + 0, q9 + 1 + 1, q9 + 1 + 2][i]?)))))), (q9 + 1 + 0, .inl (ca 0, 16, .inl fun _ => 0)), (q9 + 1 + 1, .inl (ca 0, 16, .inl fun _ => 0)), (q9 + 1 + 2, .inl (ca 0, 16, .inl fun _ => 0))] H := hP
  have hD : va_D A [(h0, .inr (0, [.null, .int 0, .ref q1, .ref q2, .ref q3, .ref q4, .ref q5, .ref q6, .ref q7, .ref q8, .null])), (q1, .inl (ca 0, 16, .inl fun _ => 0)), (q2, .inl (ca 0, 16, .inl fun _ => 0)), (q3, .inl (ca 0, 16, .inl fun _ => 0)), (q4, .inl (ca 0, 16, .inl fun _ => 0)), (q5, .inl (ca 0, 16, .inl fun _ => 0)), (q6, .inl (ca 1, 16, .inl fun _ => 0)), (q7, .inl (ca 0, 16, .inl fun _ => 0)), (q8, .inl (ca 3, 3, .inr (.inr (.inr (.inr (fun i => [q8 + 1 + 0, q8 + 1 + 1, q8 + 1 + 2][i]?)))))), (q8 + 1 + 0, .inl (ca 0, 16, .inl fun _ => 0)), (q8 + 1 + 1, .inl (ca 0, 16, .inl fun _ => 0)), (q8 + 1 + 2, .inl (ca 0, 16, .inl fun _ => 0)), (q9, .inl (ca 3, 3, .inr (.inr (.inr (.inr (fun i => [q9 + 1 + 0, q9 + 1 + 1, q9 + 1 + 2][i]?)))))), (q9 + 1 + 0, .inl (ca 0, 16, .inl fun _ => 0)), (q9 + 1 + 1, .inl (ca 0, 16, .inl fun _ => 0)), (q9 + 1 + 2, .inl (ca 0, 16, .inl fun _ => 0))] := hD
  refine va_putF (D := D) (ci := 0) (v := .ref q9) (ty := .array (.array (.int))) (C := RX0) (T := TX0) (N := 11) hx hb hts ww_w0 tyX0 tyX0_ok nmX0 hown hN.1 hP hD hS 0 rfl rfl 10 (by decide) (hts _ (ww_c1 73 rfl rfl)) (fun _ h9 => h9) rfl hin rfl (by decide +kernel) rfl rfl (Nat.le_of_ble_eq_true rfl) kd0_79 (fun H locs hP hD hS => ?_)
  have hP : va_P D ww_cl [(h0, .inr (0, [.null, .int 0, .ref q1, .ref q2, .ref q3, .ref q4, .ref q5, .ref q6, .ref q7, .ref q8, .ref q9])), (q1, .inl (ca 0, 16, .inl fun _ => 0)), (q2, .inl (ca 0, 16, .inl fun _ => 0)), (q3, .inl (ca 0, 16, .inl fun _ => 0)), (q4, .inl (ca 0, 16, .inl fun _ => 0)), (q5, .inl (ca 0, 16, .inl fun _ => 0)), (q6, .inl (ca 1, 16, .inl fun _ => 0)), (q7, .inl (ca 0, 16, .inl fun _ => 0)), (q8, .inl (ca 3, 3, .inr (.inr (.inr (.inr (fun i => [q8 + 1 + 0, q8 + 1 + 1, q8 + 1 + 2][i]?)))))), (q8 + 1 + 0, .inl (ca 0, 16, .inl fun _ => 0)), (q8 + 1 + 1, .inl (ca 0, 16, .inl fun _ => 0)), (q8 + 1 + 2, .inl (ca 0, 16, .inl fun _ => 0)), (q9, .inl (ca 3, 3, .inr (.inr (.inr (.inr (fun i => [q9 + 1 + 0, q9 + 1 + 1, q9 + 1 + 2][i]?)))))), (q9 + 1 + 0, .inl (ca 0, 16, .inl fun _ => 0)), (q9 + 1 + 1, .inl (ca 0, 16, .inl fun _ => 0)), (q9 + 1 + 2, .inl (ca 0, 16, .inl fun _ => 0))] H := hP
  have hD : va_D A [(h0, .inr (0, [.null, .int 0, .ref q1, .ref q2, .ref q3, .ref q4, .ref q5, .ref q6, .ref q7, .ref q8, .ref q9])), (q1, .inl (ca 0, 16, .inl fun _ => 0)), (q2, .inl (ca 0, 16, .inl fun _ => 0)), (q3, .inl (ca 0, 16, .inl fun _ => 0)), (q4, .inl (ca 0, 16, .inl fun _ => 0)), (q5, .inl (ca 0, 16, .inl fun _ => 0)), (q6, .inl (ca 1, 16, .inl fun _ => 0)), (q7, .inl (ca 0, 16, .inl fun _ => 0)), (q8, .inl (ca 3, 3, .inr (.inr (.inr (.inr (fun i => [q8 + 1 + 0, q8 + 1 + 1, q8 + 1 + 2][i]?)))))), (q8 + 1 + 0, .inl (ca 0, 16, .inl fun _ => 0)), (q8 + 1 + 1, .inl (ca 0, 16, .inl fun _ => 0)), (q8 + 1 + 2, .inl (ca 0, 16, .inl fun _ => 0)), (q9, .inl (ca 3, 3, .inr (.inr (.inr (.inr (fun i => [q9 + 1 + 0, q9 + 1 + 1, q9 + 1 + 2][i]?)))))), (q9 + 1 + 0, .inl (ca 0, 16, .inl fun _ => 0)), (q9 + 1 + 1, .inl (ca 0, 16, .inl fun _ => 0)), (q9 + 1 + 2, .inl (ca 0, 16, .inl fun _ => 0))] := hD
  refine lv_aload_n hx hb kd0_82 rfl (lv_at hl 0 rfl) ?_
  refine lv_aload_n hx hb kd0_83 rfl (lv_at hl 1 rfl) ?_
  refine va_putF (D := D) (ci := 0) (v := .ref r0) (ty := .object "WiringContainer$ClassTable") (C := RX0) (T := TX0) (N := 11) hx hb hts ww_w0 tyX0 tyX0_ok nmX0 hown hN.1 hP hD hS 0 rfl rfl 0 (by decide) (hts _ (ww_c1 63 rfl rfl)) (fun _ h9 => h9) rfl hin rfl (by decide +kernel) rfl rfl (Nat.le_of_ble_eq_true rfl) kd0_84 (fun H locs hP hD hS => ?_)
  have hP : va_P D ww_cl [(h0, .inr (0, [.ref r0, .int 0, .ref q1, .ref q2, .ref q3, .ref q4, .ref q5, .ref q6, .ref q7, .ref q8, .ref q9])), (q1, .inl (ca 0, 16, .inl fun _ => 0)), (q2, .inl (ca 0, 16, .inl fun _ => 0)), (q3, .inl (ca 0, 16, .inl fun _ => 0)), (q4, .inl (ca 0, 16, .inl fun _ => 0)), (q5, .inl (ca 0, 16, .inl fun _ => 0)), (q6, .inl (ca 1, 16, .inl fun _ => 0)), (q7, .inl (ca 0, 16, .inl fun _ => 0)), (q8, .inl (ca 3, 3, .inr (.inr (.inr (.inr (fun i => [q8 + 1 + 0, q8 + 1 + 1, q8 + 1 + 2][i]?)))))), (q8 + 1 + 0, .inl (ca 0, 16, .inl fun _ => 0)), (q8 + 1 + 1, .inl (ca 0, 16, .inl fun _ => 0)), (q8 + 1 + 2, .inl (ca 0, 16, .inl fun _ => 0)), (q9, .inl (ca 3, 3, .inr (.inr (.inr (.inr (fun i => [q9 + 1 + 0, q9 + 1 + 1, q9 + 1 + 2][i]?)))))), (q9 + 1 + 0, .inl (ca 0, 16, .inl fun _ => 0)), (q9 + 1 + 1, .inl (ca 0, 16, .inl fun _ => 0)), (q9 + 1 + 2, .inl (ca 0, 16, .inl fun _ => 0))] H := hP
  have hD : va_D A [(h0, .inr (0, [.ref r0, .int 0, .ref q1, .ref q2, .ref q3, .ref q4, .ref q5, .ref q6, .ref q7, .ref q8, .ref q9])), (q1, .inl (ca 0, 16, .inl fun _ => 0)), (q2, .inl (ca 0, 16, .inl fun _ => 0)), (q3, .inl (ca 0, 16, .inl fun _ => 0)), (q4, .inl (ca 0, 16, .inl fun _ => 0)), (q5, .inl (ca 0, 16, .inl fun _ => 0)), (q6, .inl (ca 1, 16, .inl fun _ => 0)), (q7, .inl (ca 0, 16, .inl fun _ => 0)), (q8, .inl (ca 3, 3, .inr (.inr (.inr (.inr (fun i => [q8 + 1 + 0, q8 + 1 + 1, q8 + 1 + 2][i]?)))))), (q8 + 1 + 0, .inl (ca 0, 16, .inl fun _ => 0)), (q8 + 1 + 1, .inl (ca 0, 16, .inl fun _ => 0)), (q8 + 1 + 2, .inl (ca 0, 16, .inl fun _ => 0)), (q9, .inl (ca 3, 3, .inr (.inr (.inr (.inr (fun i => [q9 + 1 + 0, q9 + 1 + 1, q9 + 1 + 2][i]?)))))), (q9 + 1 + 0, .inl (ca 0, 16, .inl fun _ => 0)), (q9 + 1 + 1, .inl (ca 0, 16, .inl fun _ => 0)), (q9 + 1 + 2, .inl (ca 0, 16, .inl fun _ => 0))] := hD
  refine W.widen (k := 15) (n := 214) (Nat.le_of_ble_eq_true rfl) (Nat.le_of_ble_eq_true rfl) ?_
  exact W.vret hx hb hr (fun t ht hW => ⟨⟨(), rfl, trivial, q1, q2, q3, q4, q5, q6, q7, q8, q8 + 1 + 0, q8 + 1 + 1, q8 + 1 + 2, q9, q9 + 1 + 0, q9 + 1 + 1, q9 + 1 + 2, by rw [ht]; exact hP, hD⟩, hS.F ht⟩) hS.2.2 kd0_87
