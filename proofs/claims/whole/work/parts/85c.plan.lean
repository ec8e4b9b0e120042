/-! 85c.plan -/
def kY4 : MethodName := ⟨"WiringContainer$Plan", "<init>", "(LWiringContainer$ClassTable;LWiringContainer$BeanTable;)V"⟩
abbrev kB4 : ByteArray := prog_6_method_1_code
set_option maxRecDepth 100000 in
theorem kd4_0 : decode kB4 0 = .ok (.aload_n 0, 1) := by decide +kernel
set_option maxRecDepth 100000 in
theorem kd4_1 : decode kB4 1 = .ok (.invokespecial 3, 3) := by decide +kernel
set_option maxRecDepth 100000 in
theorem kd4_4 : decode kB4 4 = .ok (.aload_n 0, 1) := by decide +kernel
set_option maxRecDepth 100000 in
theorem kd4_5 : decode kB4 5 = .ok (.iconst 3, 1) := by decide +kernel
set_option maxRecDepth 100000 in
theorem kd4_6 : decode kB4 6 = .ok (.bipush 16, 2) := by decide +kernel
set_option maxRecDepth 100000 in
theorem kd4_8 : decode kB4 8 = .ok (.multianewarray 9 2, 4) := by decide +kernel
set_option maxRecDepth 100000 in
theorem kd4_12 : decode kB4 12 = .ok (.putfield 11, 3) := by decide +kernel
set_option maxRecDepth 100000 in
theorem kd4_15 : decode kB4 15 = .ok (.aload_n 0, 1) := by decide +kernel
set_option maxRecDepth 100000 in
theorem kd4_16 : decode kB4 16 = .ok (.bipush 16, 2) := by decide +kernel
set_option maxRecDepth 100000 in
theorem kd4_18 : decode kB4 18 = .ok (.newarray .int, 2) := by decide +kernel
set_option maxRecDepth 100000 in
theorem kd4_20 : decode kB4 20 = .ok (.putfield 16, 3) := by decide +kernel
set_option maxRecDepth 100000 in
theorem kd4_23 : decode kB4 23 = .ok (.aload_n 0, 1) := by decide +kernel
set_option maxRecDepth 100000 in
theorem kd4_24 : decode kB4 24 = .ok (.bipush 16, 2) := by decide +kernel
set_option maxRecDepth 100000 in
theorem kd4_26 : decode kB4 26 = .ok (.newarray .int, 2) := by decide +kernel
set_option maxRecDepth 100000 in
theorem kd4_28 : decode kB4 28 = .ok (.putfield 20, 3) := by decide +kernel
set_option maxRecDepth 100000 in
theorem kd4_31 : decode kB4 31 = .ok (.aload_n 0, 1) := by decide +kernel
set_option maxRecDepth 100000 in
theorem kd4_32 : decode kB4 32 = .ok (.aload_n 1, 1) := by decide +kernel
set_option maxRecDepth 100000 in
theorem kd4_33 : decode kB4 33 = .ok (.putfield 23, 3) := by decide +kernel
set_option maxRecDepth 100000 in
theorem kd4_36 : decode kB4 36 = .ok (.aload_n 0, 1) := by decide +kernel
set_option maxRecDepth 100000 in
theorem kd4_37 : decode kB4 37 = .ok (.aload_n 2, 1) := by decide +kernel
set_option maxRecDepth 100000 in
theorem kd4_38 : decode kB4 38 = .ok (.putfield 27, 3) := by decide +kernel
set_option maxRecDepth 100000 in
theorem kd4_41 : decode kB4 41 = .ok (.return_, 1) := by decide +kernel
set_option maxRecDepth 100000 in
theorem kF4 : ∀ j, j < 5 → defaultValue (tyX4 j) = vp_V [.null, .null, .null, .null, .null] j := fun j hj => by
  match j, hj with
  | 0, _ => rfl
  | 1, _ => rfl
  | 2, _ => rfl
  | 3, _ => rfl
  | 4, _ => rfl
  | j + 5, hj => omega
set_option maxHeartbeats 4000000 in
set_option maxRecDepth 100000 in
theorem kCt4 (l : Launch) (D : va_G) (ca : Nat → ClassId) (h0 sz : Nat) (r0 : Nat) (r1 : Nat) : Met l kY4 (Jvm.Cond.code kY4 kB4 3 none :: ww_tbl) ({ frames := 1, cells := 6, slots := 83, locals := 12 }) (kPc D ca [.ref h0, .ref r0, .ref r1] [(h0, .inr (4, [.null, .null, .null, .null, .null]))] sz) (va_Qv (fun _ : Unit => True) (fun _ t => ∃ a1 a2 a3 a4 a5 a6 : Nat, va_P D ww_cl [(h0, .inr (4, [.ref r0, .ref r1, .ref a1, .ref a5, .ref a6])), (a1, .inl (ca 3, 3, .inr (.inr (.inr (.inr (fun i => [a2, a3, a4][i]?)))))), (a2, .inl (ca 0, 16, .inl fun _ => 0)), (a3, .inl (ca 0, 16, .inl fun _ => 0)), (a4, .inl (ca 0, 16, .inl fun _ => 0)), (a5, .inl (ca 0, 16, .inl fun _ => 0)), (a6, .inl (ca 0, 16, .inl fun _ => 0))] t.heap ∧ va_D (va_A [(h0, .inr (4, [.null, .null, .null, .null, .null]))] sz) [(h0, .inr (4, [.ref r0, .ref r1, .ref a1, .ref a5, .ref a6])), (a1, .inl (ca 3, 3, .inr (.inr (.inr (.inr (fun i => [a2, a3, a4][i]?)))))), (a2, .inl (ca 0, 16, .inl fun _ => 0)), (a3, .inl (ca 0, 16, .inl fun _ => 0)), (a4, .inl (ca 0, 16, .inl fun _ => 0)), (a5, .inl (ca 0, 16, .inl fun _ => 0)), (a6, .inl (ca 0, 16, .inl fun _ => 0))]) (va_A [(h0, .inr (4, [.null, .null, .null, .null, .null]))] sz)) 6 83 (va_A [(h0, .inr (4, [.null, .null, .null, .null, .null]))] sz) := by
  refine Met.ofW (cc := kB4) (maxL := 3) (ret := none) (by decide) rfl ?_
  intro p e s m args below meth c s₁ B hml hv
  obtain ⟨rfl, hsz, hP, hN, hD0⟩ := hv
  have hx := B.exec
  have hb := B.bytes
  have hr := B.returns
  have hts0 := atoms_spec (ws := Jvm.Cond.code kY4 kB4 3 none :: ww_tbl) B.pre
  have hts := fun w (hw : w ∈ ww_tbl) => hts0 w (List.mem_cons_of_mem _ hw)
  have hown : s.vm.findClass RX4 = some m.cls := findClass_of_methodNamed B.named
  have hlocks := B.notSynchronized
  have hin : meth.name = "<init>" := (name_of_methodNamed B.named B.method).1
  subst hsz
  have hD := hD0.self (sz := s.heap.size)
  generalize hAe : va_A [(h0, .inr (4, [.null, .null, .null, .null, .null]))] s.heap.size = A at hD ⊢
  have hA : ∀ q : Nat, s.heap.size ≤ q → A q := fun q h => by rw [← hAe]; exact Or.inr h
  have hS : va_S A s.heap s.heap [] := va_S.rf
  have hP : va_P D ww_cl [(h0, .inr (4, [.null, .null, .null, .null, .null]))] s.heap := hP
  have hl := lv_entry ([.ref h0, .ref r0, .ref r1]) (n := 3) (Nat.le_of_ble_eq_true rfl)
  rw [lg_entry_eq]
  generalize (lg_sl ([.ref h0, .ref r0, .ref r1]) ++ List.replicate (3 - (lg_sl ([.ref h0, .ref r0, .ref r1])).length) Slot.unset).toArray = ls at hl ⊢
  have hl : lv_has ls 3 [(0, .ref h0), (1, .ref r0), (2, .ref r1)] := hl
  refine lv_aload_n hx hb kd4_0 rfl (lv_at hl 0 rfl) ?_
  refine W.objInit hx hb hown (hts _ (ww_c1 102 rfl rfl)) (hts _ (ww_c1 16 rfl rfl)) (hts _ (ww_c1 17 rfl rfl)) rfl (by rw [hml]; exact hl.1) rfl kd4_1 (Nat.le_of_ble_eq_true rfl) (Nat.le_of_ble_eq_true rfl) ?_
  refine W.eq (g2 := F0 m 4 ls []) rfl ?_
  refine lv_aload_n hx hb kd4_4 rfl (lv_at hl 0 rfl) ?_
  refine lv_iconst (v := 3) hx hb kd4_5 (by decide) ?_
  refine lv_bipush (v := 16) hx hb kd4_6 (by decide) ?_
  refine k_mna (N := 3) (M := 16) hx hb hown (hts _ (ww_c1 103 rfl rfl)) hN.2.1 (hts _ (ww_c1 53 rfl rfl)) hN.1 hP hD hS hA (by decide) (by decide) (by decide) (by decide) (by decide) (by decide) (by decide) (Nat.le_of_ble_eq_true rfl) (Nat.le_of_ble_eq_true rfl) kd4_8 (fun q1 H hP hD hS => ?_)
  have hP : va_P D ww_cl [(h0, .inr (4, [.null, .null, .null, .null, .null])), (q1, .inl (ca 3, 3, .inr (.inr (.inr (.inr (fun i => [q1 + 1 + 0, q1 + 1 + 1, q1 + 1 + 2][i]?)))))), (q1 + 1 + 0, .inl (ca 0, 16, .inl fun _ => 0)), (q1 + 1 + 1, .inl (ca 0, 16, .inl fun _ => 0)), (q1 + 1 + 2, .inl (ca 0, 16, .inl fun _ => 0))] H := hP
  have hD : va_D A [(h0, .inr (4, [.null, .null, .null, .null, .null])), (q1, .inl (ca 3, 3, .inr (.inr (.inr (.inr (fun i => [q1 + 1 + 0, q1 + 1 + 1, q1 + 1 + 2][i]?)))))), (q1 + 1 + 0, .inl (ca 0, 16, .inl fun _ => 0)), (q1 + 1 + 1, .inl (ca 0, 16, .inl fun _ => 0)), (q1 + 1 + 2, .inl (ca 0, 16, .inl fun _ => 0))] := hD
  refine va_putF (D := D) (ci := 4) (v := .ref q1) (ty := .array (.array (.int))) (C := RX4) (T := TX4) (N := 5) hx hb hts ww_w4 tyX4 tyX4_ok nmX4 hown hN.1 hP hD hS 0 rfl rfl 2 (by decide) (hts _ (ww_c1 106 rfl rfl)) (fun _ h9 => h9) rfl hin rfl (by decide +kernel) rfl rfl (Nat.le_of_ble_eq_true rfl) kd4_12 (fun H locs hP hD hS => ?_)
  have hP : va_P D ww_cl [(h0, .inr (4, [.null, .null, .ref q1, .null, .null])), (q1, .inl (ca 3, 3, .inr (.inr (.inr (.inr (fun i => [q1 + 1 + 0, q1 + 1 + 1, q1 + 1 + 2][i]?)))))), (q1 + 1 + 0, .inl (ca 0, 16, .inl fun _ => 0)), (q1 + 1 + 1, .inl (ca 0, 16, .inl fun _ => 0)), (q1 + 1 + 2, .inl (ca 0, 16, .inl fun _ => 0))] H := hP
  have hD : va_D A [(h0, .inr (4, [.null, .null, .ref q1, .null, .null])), (q1, .inl (ca 3, 3, .inr (.inr (.inr (.inr (fun i => [q1 + 1 + 0, q1 + 1 + 1, q1 + 1 + 2][i]?)))))), (q1 + 1 + 0, .inl (ca 0, 16, .inl fun _ => 0)), (q1 + 1 + 1, .inl (ca 0, 16, .inl fun _ => 0)), (q1 + 1 + 2, .inl (ca 0, 16, .inl fun _ => 0))] := hD
  refine lv_aload_n hx hb kd4_15 rfl (lv_at hl 0 rfl) ?_
  refine lv_bipush (v := 16) hx hb kd4_16 (by decide) ?_
  refine k_newa (ty := .int) (N' := 16) (a0 := (16, .inl fun _ => 0)) hx hb (hts _ (ww_c1 53 rfl rfl)) rfl 0 rfl (fun _ h => h) hN.1 hP hD hS hA (fun _ => rfl) (by decide) (by decide) (by decide) (Nat.le_of_ble_eq_true rfl) (Nat.le_of_ble_eq_true rfl) kd4_18 (fun q2 H hP hD hS => ?_)
  have hP : va_P D ww_cl [(h0, .inr (4, [.null, .null, .ref q1, .null, .null])), (q1, .inl (ca 3, 3, .inr (.inr (.inr (.inr (fun i => [q1 + 1 + 0, q1 + 1 + 1, q1 + 1 + 2][i]?)))))), (q1 + 1 + 0, .inl (ca 0, 16, .inl fun _ => 0)), (q1 + 1 + 1, .inl (ca 0, 16, .inl fun _ => 0)), (q1 + 1 + 2, .inl (ca 0, 16, .inl fun _ => 0)), (q2, .inl (ca 0, 16, .inl fun _ => 0))] H := hP
  have hD : va_D A [(h0, .inr (4, [.null, .null, .ref q1, .null, .null])), (q1, .inl (ca 3, 3, .inr (.inr (.inr (.inr (fun i => [q1 + 1 + 0, q1 + 1 + 1, q1 + 1 + 2][i]?)))))), (q1 + 1 + 0, .inl (ca 0, 16, .inl fun _ => 0)), (q1 + 1 + 1, .inl (ca 0, 16, .inl fun _ => 0)), (q1 + 1 + 2, .inl (ca 0, 16, .inl fun _ => 0)), (q2, .inl (ca 0, 16, .inl fun _ => 0))] := hD
  refine va_putF (D := D) (ci := 4) (v := .ref q2) (ty := .array (.int)) (C := RX4) (T := TX4) (N := 5) hx hb hts ww_w4 tyX4 tyX4_ok nmX4 hown hN.1 hP hD hS 0 rfl rfl 3 (by decide) (hts _ (ww_c1 107 rfl rfl)) (fun _ h9 => h9) rfl hin rfl (by decide +kernel) rfl rfl (Nat.le_of_ble_eq_true rfl) kd4_20 (fun H locs hP hD hS => ?_)
  have hP : va_P D ww_cl [(h0, .inr (4, [.null, .null, .ref q1, .ref q2, .null])), (q1, .inl (ca 3, 3, .inr (.inr (.inr (.inr (fun i => [q1 + 1 + 0, q1 + 1 + 1, q1 + 1 + 2][i]?)))))), (q1 + 1 + 0, .inl (ca 0, 16, .inl fun _ => 0)), (q1 + 1 + 1, .inl (ca 0, 16, .inl fun _ => 0)), (q1 + 1 + 2, .inl (ca 0, 16, .inl fun _ => 0)), (q2, .inl (ca 0, 16, .inl fun _ => 0))] H := hP
  have hD : va_D A [(h0, .inr (4, [.null, .null, .ref q1, .ref q2, .null])), (q1, .inl (ca 3, 3, .inr (.inr (.inr (.inr (fun i => [q1 + 1 + 0, q1 + 1 + 1, q1 + 1 + 2][i]?)))))), (q1 + 1 + 0, .inl (ca 0, 16, .inl fun _ => 0)), (q1 + 1 + 1, .inl (ca 0, 16, .inl fun _ => 0)), (q1 + 1 + 2, .inl (ca 0, 16, .inl fun _ => 0)), (q2, .inl (ca 0, 16, .inl fun _ => 0))] := hD
  refine lv_aload_n hx hb kd4_23 rfl (lv_at hl 0 rfl) ?_
  refine lv_bipush (v := 16) hx hb kd4_24 (by decide) ?_
  refine k_newa (ty := .int) (N' := 16) (a0 := (16, .inl fun _ => 0)) hx hb (hts _ (ww_c1 53 rfl rfl)) rfl 0 rfl (fun _ h => h) hN.1 hP hD hS hA (fun _ => rfl) (by decide) (by decide) (by decide) (Nat.le_of_ble_eq_true rfl) (Nat.le_of_ble_eq_true rfl) kd4_26 (fun q3 H hP hD hS => ?_)
  have hP : va_P D ww_cl [(h0, .inr (4, [.null, .null, .ref q1, .ref q2, .null])), (q1, .inl (ca 3, 3, .inr (.inr (.inr (.inr (fun i => [q1 + 1 + 0, q1 + 1 + 1, q1 + 1 + 2][i]?)))))), (q1 + 1 + 0, .inl (ca 0, 16, .inl fun _ => 0)), (q1 + 1 + 1, .inl (ca 0, 16, .inl fun _ => 0)), (q1 + 1 + 2, .inl (ca 0, 16, .inl fun _ => 0)), (q2, .inl (ca 0, 16, .inl fun _ => 0)), (q3, .inl (ca 0, 16, .inl fun _ => 0))] H := hP
  have hD : va_D A [(h0, .inr (4, [.null, .null, .ref q1, .ref q2, .null])), (q1, .inl (ca 3, 3, .inr (.inr (.inr (.inr (fun i => [q1 + 1 + 0, q1 + 1 + 1, q1 + 1 + 2][i]?)))))), (q1 + 1 + 0, .inl (ca 0, 16, .inl fun _ => 0)), (q1 + 1 + 1, .inl (ca 0, 16, .inl fun _ => 0)), (q1 + 1 + 2, .inl (ca 0, 16, .inl fun _ => 0)), (q2, .inl (ca 0, 16, .inl fun _ => 0)), (q3, .inl (ca 0, 16, .inl fun _ => 0))] := hD
  refine va_putF (D := D) (ci := 4) (v := .ref q3) (ty := .array (.int)) (C := RX4) (T := TX4) (N := 5) hx hb hts ww_w4 tyX4 tyX4_ok nmX4 hown hN.1 hP hD hS 0 rfl rfl 4 (by decide) (hts _ (ww_c1 108 rfl rfl)) (fun _ h9 => h9) rfl hin rfl (by decide +kernel) rfl rfl (Nat.le_of_ble_eq_true rfl) kd4_28 (fun H locs hP hD hS => ?_)
  have hP : va_P D ww_cl [(h0, .inr (4, [.null, .null, .ref q1, .ref q2, .ref q3])), (q1, .inl (ca 3, 3, .inr (.inr (.inr (.inr (fun i => [q1 + 1 + 0, q1 + 1 + 1, q1 + 1 + 2][i]?)))))), (q1 + 1 + 0, .inl (ca 0, 16, .inl fun _ => 0)), (q1 + 1 + 1, .inl (ca 0, 16, .inl fun _ => 0)), (q1 + 1 + 2, .inl (ca 0, 16, .inl fun _ => 0)), (q2, .inl (ca 0, 16, .inl fun _ => 0)), (q3, .inl (ca 0, 16, .inl fun _ => 0))] H := hP
  have hD : va_D A [(h0, .inr (4, [.null, .null, .ref q1, .ref q2, .ref q3])), (q1, .inl (ca 3, 3, .inr (.inr (.inr (.inr (fun i => [q1 + 1 + 0, q1 + 1 + 1, q1 + 1 + 2][i]?)))))), (q1 + 1 + 0, .inl (ca 0, 16, .inl fun _ => 0)), (q1 + 1 + 1, .inl (ca 0, 16, .inl fun _ => 0)), (q1 + 1 + 2, .inl (ca 0, 16, .inl fun _ => 0)), (q2, .inl (ca 0, 16, .inl fun _ => 0)), (q3, .inl (ca 0, 16, .inl fun _ => 0))] := hD
  refine lv_aload_n hx hb kd4_31 rfl (lv_at hl 0 rfl) ?_
  refine lv_aload_n hx hb kd4_32 rfl (lv_at hl 1 rfl) ?_
  refine va_putF (D := D) (ci := 4) (v := .ref r0) (ty := .object "WiringContainer$ClassTable") (C := RX4) (T := TX4) (N := 5) hx hb hts ww_w4 tyX4 tyX4_ok nmX4 hown hN.1 hP hD hS 0 rfl rfl 0 (by decide) (hts _ (ww_c1 104 rfl rfl)) (fun _ h9 => h9) rfl hin rfl (by decide +kernel) rfl rfl (Nat.le_of_ble_eq_true rfl) kd4_33 (fun H locs hP hD hS => ?_)
  have hP : va_P D ww_cl [(h0, .inr (4, [.ref r0, .null, .ref q1, .ref q2, .ref q3])), (q1, .inl (ca 3, 3, .inr (.inr (.inr (.inr (fun i => [q1 + 1 + 0, q1 + 1 + 1, q1 + 1 + 2][i]?)))))), (q1 + 1 + 0, .inl (ca 0, 16, .inl fun _ => 0)), (q1 + 1 + 1, .inl (ca 0, 16, .inl fun _ => 0)), (q1 + 1 + 2, .inl (ca 0, 16, .inl fun _ => 0)), (q2, .inl (ca 0, 16, .inl fun _ => 0)), (q3, .inl (ca 0, 16, .inl fun _ => 0))] H := hP
  have hD : va_D A [(h0, .inr (4, [.ref r0, .null, .ref q1, .ref q2, .ref q3])), (q1, .inl (ca 3, 3, .inr (.inr (.inr (.inr (fun i => [q1 + 1 + 0, q1 + 1 + 1, q1 + 1 + 2][i]?)))))), (q1 + 1 + 0, .inl (ca 0, 16, .inl fun _ => 0)), (q1 + 1 + 1, .inl (ca 0, 16, .inl fun _ => 0)), (q1 + 1 + 2, .inl (ca 0, 16, .inl fun _ => 0)), (q2, .inl (ca 0, 16, .inl fun _ => 0)), (q3, .inl (ca 0, 16, .inl fun _ => 0))] := hD
  refine lv_aload_n hx hb kd4_36 rfl (lv_at hl 0 rfl) ?_
  refine lv_aload_n hx hb kd4_37 rfl (lv_at hl 2 rfl) ?_
  refine va_putF (D := D) (ci := 4) (v := .ref r1) (ty := .object "WiringContainer$BeanTable") (C := RX4) (T := TX4) (N := 5) hx hb hts ww_w4 tyX4 tyX4_ok nmX4 hown hN.1 hP hD hS 0 rfl rfl 1 (by decide) (hts _ (ww_c1 105 rfl rfl)) (fun _ h9 => h9) rfl hin rfl (by decide +kernel) rfl rfl (Nat.le_of_ble_eq_true rfl) kd4_38 (fun H locs hP hD hS => ?_)
  have hP : va_P D ww_cl [(h0, .inr (4, [.ref r0, .ref r1, .ref q1, .ref q2, .ref q3])), (q1, .inl (ca 3, 3, .inr (.inr (.inr (.inr (fun i => [q1 + 1 + 0, q1 + 1 + 1, q1 + 1 + 2][i]?)))))), (q1 + 1 + 0, .inl (ca 0, 16, .inl fun _ => 0)), (q1 + 1 + 1, .inl (ca 0, 16, .inl fun _ => 0)), (q1 + 1 + 2, .inl (ca 0, 16, .inl fun _ => 0)), (q2, .inl (ca 0, 16, .inl fun _ => 0)), (q3, .inl (ca 0, 16, .inl fun _ => 0))] H := hP
  have hD : va_D A [(h0, .inr (4, [.ref r0, .ref r1, .ref q1, .ref q2, .ref q3])), (q1, .inl (ca 3, 3, .inr (.inr (.inr (.inr (fun i => [q1 + 1 + 0, q1 + 1 + 1, q1 + 1 + 2][i]?)))))), (q1 + 1 + 0, .inl (ca 0, 16, .inl fun _ => 0)), (q1 + 1 + 1, .inl (ca 0, 16, .inl fun _ => 0)), (q1 + 1 + 2, .inl (ca 0, 16, .inl fun _ => 0)), (q2, .inl (ca 0, 16, .inl fun _ => 0)), (q3, .inl (ca 0, 16, .inl fun _ => 0))] := hD
  refine W.widen (k := 6) (n := 83) (Nat.le_of_ble_eq_true rfl) (Nat.le_of_ble_eq_true rfl) ?_
  exact W.vret hx hb hr (fun t ht hW => ⟨⟨(), rfl, trivial, q1, q1 + 1 + 0, q1 + 1 + 1, q1 + 1 + 2, q2, q3, by rw [ht]; exact hP, hD⟩, hS.F ht⟩) hS.2.2 kd4_41
