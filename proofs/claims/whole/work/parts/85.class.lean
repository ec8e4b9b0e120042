/-! 85.class -/
def kY1 : MethodName := ⟨"WiringContainer$ClassTable", "<init>", "()V"⟩
abbrev kB1 : ByteArray := prog_3_method_1_code
set_option maxRecDepth 100000 in
theorem kd1_0 : decode kB1 0 = .ok (.aload_n 0, 1) := by decide +kernel
set_option maxRecDepth 100000 in
theorem kd1_1 : decode kB1 1 = .ok (.invokespecial 3, 3) := by decide +kernel
set_option maxRecDepth 100000 in
theorem kd1_4 : decode kB1 4 = .ok (.aload_n 0, 1) := by decide +kernel
set_option maxRecDepth 100000 in
theorem kd1_5 : decode kB1 5 = .ok (.bipush 32, 2) := by decide +kernel
set_option maxRecDepth 100000 in
theorem kd1_7 : decode kB1 7 = .ok (.newarray .boolean, 2) := by decide +kernel
set_option maxRecDepth 100000 in
theorem kd1_9 : decode kB1 9 = .ok (.putfield 9, 3) := by decide +kernel
set_option maxRecDepth 100000 in
theorem kd1_12 : decode kB1 12 = .ok (.aload_n 0, 1) := by decide +kernel
set_option maxRecDepth 100000 in
theorem kd1_13 : decode kB1 13 = .ok (.bipush 32, 2) := by decide +kernel
set_option maxRecDepth 100000 in
theorem kd1_15 : decode kB1 15 = .ok (.newarray .boolean, 2) := by decide +kernel
set_option maxRecDepth 100000 in
theorem kd1_17 : decode kB1 17 = .ok (.putfield 15, 3) := by decide +kernel
set_option maxRecDepth 100000 in
theorem kd1_20 : decode kB1 20 = .ok (.aload_n 0, 1) := by decide +kernel
set_option maxRecDepth 100000 in
theorem kd1_21 : decode kB1 21 = .ok (.bipush 32, 2) := by decide +kernel
set_option maxRecDepth 100000 in
theorem kd1_23 : decode kB1 23 = .ok (.newarray .int, 2) := by decide +kernel
set_option maxRecDepth 100000 in
theorem kd1_25 : decode kB1 25 = .ok (.putfield 18, 3) := by decide +kernel
set_option maxRecDepth 100000 in
theorem kd1_28 : decode kB1 28 = .ok (.aload_n 0, 1) := by decide +kernel
set_option maxRecDepth 100000 in
theorem kd1_29 : decode kB1 29 = .ok (.bipush 32, 2) := by decide +kernel
set_option maxRecDepth 100000 in
theorem kd1_31 : decode kB1 31 = .ok (.newarray .int, 2) := by decide +kernel
set_option maxRecDepth 100000 in
theorem kd1_33 : decode kB1 33 = .ok (.putfield 22, 3) := by decide +kernel
set_option maxRecDepth 100000 in
theorem kd1_36 : decode kB1 36 = .ok (.aload_n 0, 1) := by decide +kernel
set_option maxRecDepth 100000 in
theorem kd1_37 : decode kB1 37 = .ok (.bipush 32, 2) := by decide +kernel
set_option maxRecDepth 100000 in
theorem kd1_39 : decode kB1 39 = .ok (.newarray .int, 2) := by decide +kernel
set_option maxRecDepth 100000 in
theorem kd1_41 : decode kB1 41 = .ok (.putfield 25, 3) := by decide +kernel
set_option maxRecDepth 100000 in
theorem kd1_44 : decode kB1 44 = .ok (.aload_n 0, 1) := by decide +kernel
set_option maxRecDepth 100000 in
theorem kd1_45 : decode kB1 45 = .ok (.bipush 32, 2) := by decide +kernel
set_option maxRecDepth 100000 in
theorem kd1_47 : decode kB1 47 = .ok (.newarray .int, 2) := by decide +kernel
set_option maxRecDepth 100000 in
theorem kd1_49 : decode kB1 49 = .ok (.putfield 28, 3) := by decide +kernel
set_option maxRecDepth 100000 in
theorem kd1_52 : decode kB1 52 = .ok (.aload_n 0, 1) := by decide +kernel
set_option maxRecDepth 100000 in
theorem kd1_53 : decode kB1 53 = .ok (.bipush 16, 2) := by decide +kernel
set_option maxRecDepth 100000 in
theorem kd1_55 : decode kB1 55 = .ok (.newarray .long, 2) := by decide +kernel
set_option maxRecDepth 100000 in
theorem kd1_57 : decode kB1 57 = .ok (.putfield 31, 3) := by decide +kernel
set_option maxRecDepth 100000 in
theorem kd1_60 : decode kB1 60 = .ok (.aload_n 0, 1) := by decide +kernel
set_option maxRecDepth 100000 in
theorem kd1_61 : decode kB1 61 = .ok (.iconst 1, 1) := by decide +kernel
set_option maxRecDepth 100000 in
theorem kd1_62 : decode kB1 62 = .ok (.putfield 35, 3) := by decide +kernel
set_option maxRecDepth 100000 in
theorem kd1_65 : decode kB1 65 = .ok (.aload_n 0, 1) := by decide +kernel
set_option maxRecDepth 100000 in
theorem kd1_66 : decode kB1 66 = .ok (.getfield 28, 3) := by decide +kernel
set_option maxRecDepth 100000 in
theorem kd1_69 : decode kB1 69 = .ok (.iconst 1, 1) := by decide +kernel
set_option maxRecDepth 100000 in
theorem kd1_70 : decode kB1 70 = .ok (.iconst 2, 1) := by decide +kernel
set_option maxRecDepth 100000 in
theorem kd1_71 : decode kB1 71 = .ok (.iastore, 1) := by decide +kernel
set_option maxRecDepth 100000 in
theorem kd1_72 : decode kB1 72 = .ok (.return_, 1) := by decide +kernel
set_option maxRecDepth 100000 in
theorem kF1 : ∀ j, j < 9 → defaultValue (tyX1 j) = vp_V [.int 0, .null, .null, .null, .null, .null, .null, .null, .int 0] j := fun j hj => by
  match j, hj with
  | 0, _ => rfl
  | 1, _ => rfl
  | 2, _ => rfl
  | 3, _ => rfl
  | 4, _ => rfl
  | 5, _ => rfl
  | 6, _ => rfl
  | 7, _ => rfl
  | 8, _ => rfl
  | j + 9, hj => omega
set_option maxHeartbeats 4000000 in
set_option maxRecDepth 100000 in
theorem kCt1 (l : Launch) (D : va_G) (ca : Nat → ClassId) (h0 sz : Nat) : Met l kY1 (Jvm.Cond.code kY1 kB1 1 none :: ww_tbl) ({ frames := 1, cells := 7, slots := 208, locals := 12 }) (kPc D ca [.ref h0] [(h0, .inr (1, [.int 0, .null, .null, .null, .null, .null, .null, .null, .int 0]))] sz) (va_Qv (fun _ : Unit => True) (fun _ t => ∃ a1 a2 a3 a4 a5 a6 a7 : Nat, va_P D ww_cl [(h0, .inr (1, [.int 1, .ref a1, .ref a2, .ref a3, .ref a4, .ref a5, .ref a6, .ref a7, .int 0])), (a1, .inl (ca 1, 32, .inl fun _ => 0)), (a2, .inl (ca 1, 32, .inl fun _ => 0)), (a3, .inl (ca 0, 32, .inl fun _ => 0)), (a4, .inl (ca 0, 32, .inl fun _ => 0)), (a5, .inl (ca 0, 32, .inl fun _ => 0)), (a6, .inl (ca 0, 32, .inl (upd (fun _ => 0) ((1 : Int32).toNatClampNeg) 2))), (a7, .inl (ca 2, 16, .inr (.inl fun _ => 0)))] t.heap ∧ va_D (va_A [(h0, .inr (1, [.int 0, .null, .null, .null, .null, .null, .null, .null, .int 0]))] sz) [(h0, .inr (1, [.int 1, .ref a1, .ref a2, .ref a3, .ref a4, .ref a5, .ref a6, .ref a7, .int 0])), (a1, .inl (ca 1, 32, .inl fun _ => 0)), (a2, .inl (ca 1, 32, .inl fun _ => 0)), (a3, .inl (ca 0, 32, .inl fun _ => 0)), (a4, .inl (ca 0, 32, .inl fun _ => 0)), (a5, .inl (ca 0, 32, .inl fun _ => 0)), (a6, .inl (ca 0, 32, .inl (upd (fun _ => 0) ((1 : Int32).toNatClampNeg) 2))), (a7, .inl (ca 2, 16, .inr (.inl fun _ => 0)))]) (va_A [(h0, .inr (1, [.int 0, .null, .null, .null, .null, .null, .null, .null, .int 0]))] sz)) 7 208 (va_A [(h0, .inr (1, [.int 0, .null, .null, .null, .null, .null, .null, .null, .int 0]))] sz) := by
  refine Met.ofW (cc := kB1) (maxL := 1) (ret := none) (by decide) rfl ?_
  intro p e s m args below meth c s₁ B hml hv
  obtain ⟨rfl, hsz, hP, hN, hD0⟩ := hv
  have hx := B.exec
  have hb := B.bytes
  have hr := B.returns
  have hts0 := atoms_spec (ws := Jvm.Cond.code kY1 kB1 1 none :: ww_tbl) B.pre
  have hts := fun w (hw : w ∈ ww_tbl) => hts0 w (List.mem_cons_of_mem _ hw)
  have hown : s.vm.findClass RX1 = some m.cls := findClass_of_methodNamed B.named
  have hlocks := B.notSynchronized
  have hin : meth.name = "<init>" := (name_of_methodNamed B.named B.method).1
  subst hsz
  have hD := hD0.self (sz := s.heap.size)
  generalize hAe : va_A [(h0, .inr (1, [.int 0, .null, .null, .null, .null, .null, .null, .null, .int 0]))] s.heap.size = A at hD ⊢
  have hA : ∀ q : Nat, s.heap.size ≤ q → A q := fun q h => by rw [← hAe]; exact Or.inr h
  have hS : va_S A s.heap s.heap [] := va_S.rf
  have hP : va_P D ww_cl [(h0, .inr (1, [.int 0, .null, .null, .null, .null, .null, .null, .null, .int 0]))] s.heap := hP
  have hl := lv_entry ([.ref h0]) (n := 1) (Nat.le_of_ble_eq_true rfl)
  rw [lg_entry_eq]
  generalize (lg_sl ([.ref h0]) ++ List.replicate (1 - (lg_sl ([.ref h0])).length) Slot.unset).toArray = ls at hl ⊢
  have hl : lv_has ls 1 [(0, .ref h0)] := hl
  refine lv_aload_n hx hb kd1_0 rfl (lv_at hl 0 rfl) ?_
  refine W.objInit hx hb hown (hts _ (ww_c1 23 rfl rfl)) (hts _ (ww_c1 16 rfl rfl)) (hts _ (ww_c1 17 rfl rfl)) rfl (by rw [hml]; exact hl.1) rfl kd1_1 (Nat.le_of_ble_eq_true rfl) (Nat.le_of_ble_eq_true rfl) ?_
  refine W.eq (g2 := F0 m 4 ls []) rfl ?_
  refine lv_aload_n hx hb kd1_4 rfl (lv_at hl 0 rfl) ?_
  refine lv_bipush (v := 32) hx hb kd1_5 (by decide) ?_
  refine k_newa (ty := .boolean) (N' := 32) (a0 := (32, .inl fun _ => 0)) hx hb (hts _ (ww_c1 52 rfl rfl)) rfl 1 rfl (fun _ h => h) hN.1 hP hD hS hA (fun _ => rfl) (by decide) (by decide) (by decide) (Nat.le_of_ble_eq_true rfl) (Nat.le_of_ble_eq_true rfl) kd1_7 (fun q1 H hP hD hS => ?_)
  have hP : va_P D ww_cl [(h0, .inr (1, [.int 0, .null, .null, .null, .null, .null, .null, .null, .int 0])), (q1, .inl (ca 1, 32, .inl fun _ => 0))] H := hP
  have hD : va_D A [(h0, .inr (1, [.int 0, .null, .null, .null, .null, .null, .null, .null, .int 0])), (q1, .inl (ca 1, 32, .inl fun _ => 0))] := hD
  refine va_putF (D := D) (ci := 1) (v := .ref q1) (ty := .array (.boolean)) (C := RX1) (T := TX1) (N := 9) hx hb hts ww_w1 tyX1 tyX1_ok nmX1 hown hN.1 hP hD hS 0 rfl rfl 1 (by decide) (hts _ (ww_c1 25 rfl rfl)) (fun _ h9 => h9) rfl hin rfl (by decide +kernel) rfl rfl (Nat.le_of_ble_eq_true rfl) kd1_9 (fun H locs hP hD hS => ?_)
  have hP : va_P D ww_cl [(h0, .inr (1, [.int 0, .ref q1, .null, .null, .null, .null, .null, .null, .int 0])), (q1, .inl (ca 1, 32, .inl fun _ => 0))] H := hP
  have hD : va_D A [(h0, .inr (1, [.int 0, .ref q1, .null, .null, .null, .null, .null, .null, .int 0])), (q1, .inl (ca 1, 32, .inl fun _ => 0))] := hD
  refine lv_aload_n hx hb kd1_12 rfl (lv_at hl 0 rfl) ?_
  refine lv_bipush (v := 32) hx hb kd1_13 (by decide) ?_
  refine k_newa (ty := .boolean) (N' := 32) (a0 := (32, .inl fun _ => 0)) hx hb (hts _ (ww_c1 52 rfl rfl)) rfl 1 rfl (fun _ h => h) hN.1 hP hD hS hA (fun _ => rfl) (by decide) (by decide) (by decide) (Nat.le_of_ble_eq_true rfl) (Nat.le_of_ble_eq_true rfl) kd1_15 (fun q2 H hP hD hS => ?_)
  have hP : va_P D ww_cl [(h0, .inr (1, [.int 0, .ref q1, .null, .null, .null, .null, .null, .null, .int 0])), (q1, .inl (ca 1, 32, .inl fun _ => 0)), (q2, .inl (ca 1, 32, .inl fun _ => 0))] H := hP
  have hD : va_D A [(h0, .inr (1, [.int 0, .ref q1, .null, .null, .null, .null, .null, .null, .int 0])), (q1, .inl (ca 1, 32, .inl fun _ => 0)), (q2, .inl (ca 1, 32, .inl fun _ => 0))] := hD
  refine va_putF (D := D) (ci := 1) (v := .ref q2) (ty := .array (.boolean)) (C := RX1) (T := TX1) (N := 9) hx hb hts ww_w1 tyX1 tyX1_ok nmX1 hown hN.1 hP hD hS 0 rfl rfl 2 (by decide) (hts _ (ww_c1 26 rfl rfl)) (fun _ h9 => h9) rfl hin rfl (by decide +kernel) rfl rfl (Nat.le_of_ble_eq_true rfl) kd1_17 (fun H locs hP hD hS => ?_)
  have hP : va_P D ww_cl [(h0, .inr (1, [.int 0, .ref q1, .ref q2, .null, .null, .null, .null, .null, .int 0])), (q1, .inl (ca 1, 32, .inl fun _ => 0)), (q2, .inl (ca 1, 32, .inl fun _ => 0))] H := hP
  have hD : va_D A [(h0, .inr (1, [.int 0, .ref q1, .ref q2, .null, .null, .null, .null, .null, .int 0])), (q1, .inl (ca 1, 32, .inl fun _ => 0)), (q2, .inl (ca 1, 32, .inl fun _ => 0))] := hD
  refine lv_aload_n hx hb kd1_20 rfl (lv_at hl 0 rfl) ?_
  refine lv_bipush (v := 32) hx hb kd1_21 (by decide) ?_
  refine k_newa (ty := .int) (N' := 32) (a0 := (32, .inl fun _ => 0)) hx hb (hts _ (ww_c1 53 rfl rfl)) rfl 0 rfl (fun _ h => h) hN.1 hP hD hS hA (fun _ => rfl) (by decide) (by decide) (by decide) (Nat.le_of_ble_eq_true rfl) (Nat.le_of_ble_eq_true rfl) kd1_23 (fun q3 H hP hD hS => ?_)
  have hP : va_P D ww_cl [(h0, .inr (1, [.int 0, .ref q1, .ref q2, .null, .null, .null, .null, .null, .int 0])), (q1, .inl (ca 1, 32, .inl fun _ => 0)), (q2, .inl (ca 1, 32, .inl fun _ => 0)), (q3, .inl (ca 0, 32, .inl fun _ => 0))] H := hP
  have hD : va_D A [(h0, .inr (1, [.int 0, .ref q1, .ref q2, .null, .null, .null, .null, .null, .int 0])), (q1, .inl (ca 1, 32, .inl fun _ => 0)), (q2, .inl (ca 1, 32, .inl fun _ => 0)), (q3, .inl (ca 0, 32, .inl fun _ => 0))] := hD
  refine va_putF (D := D) (ci := 1) (v := .ref q3) (ty := .array (.int)) (C := RX1) (T := TX1) (N := 9) hx hb hts ww_w1 tyX1 tyX1_ok nmX1 hown hN.1 hP hD hS 0 rfl rfl 3 (by decide) (hts _ (ww_c1 27 rfl rfl)) (fun _ h9 => h9) rfl hin rfl (by decide +kernel) rfl rfl (Nat.le_of_ble_eq_true rfl) kd1_25 (fun H locs hP hD hS => ?_)
  have hP : va_P D ww_cl [(h0, .inr (1, [.int 0, .ref q1, .ref q2, .ref q3, .null, .null, .null, .null, .int 0])), (q1, .inl (ca 1, 32, .inl fun _ => 0)), (q2, .inl (ca 1, 32, .inl fun _ => 0)), (q3, .inl (ca 0, 32, .inl fun _ => 0))] H := hP
  have hD : va_D A [(h0, .inr (1, [.int 0, .ref q1, .ref q2, .ref q3, .null, .null, .null, .null, .int 0])), (q1, .inl (ca 1, 32, .inl fun _ => 0)), (q2, .inl (ca 1, 32, .inl fun _ => 0)), (q3, .inl (ca 0, 32, .inl fun _ => 0))] := hD
  refine lv_aload_n hx hb kd1_28 rfl (lv_at hl 0 rfl) ?_
  refine lv_bipush (v := 32) hx hb kd1_29 (by decide) ?_
  refine k_newa (ty := .int) (N' := 32) (a0 := (32, .inl fun _ => 0)) hx hb (hts _ (ww_c1 53 rfl rfl)) rfl 0 rfl (fun _ h => h) hN.1 hP hD hS hA (fun _ => rfl) (by decide) (by decide) (by decide) (Nat.le_of_ble_eq_true rfl) (Nat.le_of_ble_eq_true rfl) kd1_31 (fun q4 H hP hD hS => ?_)
  have hP : va_P D ww_cl [(h0, .inr (1, [.int 0, .ref q1, .ref q2, .ref q3, .null, .null, .null, .null, .int 0])), (q1, .inl (ca 1, 32, .inl fun _ => 0)), (q2, .inl (ca 1, 32, .inl fun _ => 0)), (q3, .inl (ca 0, 32, .inl fun _ => 0)), (q4, .inl (ca 0, 32, .inl fun _ => 0))] H := hP
  have hD : va_D A [(h0, .inr (1, [.int 0, .ref q1, .ref q2, .ref q3, .null, .null, .null, .null, .int 0])), (q1, .inl (ca 1, 32, .inl fun _ => 0)), (q2, .inl (ca 1, 32, .inl fun _ => 0)), (q3, .inl (ca 0, 32, .inl fun _ => 0)), (q4, .inl (ca 0, 32, .inl fun _ => 0))] := hD
  refine va_putF (D := D) (ci := 1) (v := .ref q4) (ty := .array (.int)) (C := RX1) (T := TX1) (N := 9) hx hb hts ww_w1 tyX1 tyX1_ok nmX1 hown hN.1 hP hD hS 0 rfl rfl 4 (by decide) (hts _ (ww_c1 28 rfl rfl)) (fun _ h9 => h9) rfl hin rfl (by decide +kernel) rfl rfl (Nat.le_of_ble_eq_true rfl) kd1_33 (fun H locs hP hD hS => ?_)
  have hP : va_P D ww_cl [(h0, .inr (1, [.int 0, .ref q1, .ref q2, .ref q3, .ref q4, .null, .null, .null, .int 0])), (q1, .inl (ca 1, 32, .inl fun _ => 0)), (q2, .inl (ca 1, 32, .inl fun _ => 0)), (q3, .inl (ca 0, 32, .inl fun _ => 0)), (q4, .inl (ca 0, 32, .inl fun _ => 0))] H := hP
  have hD : va_D A [(h0, .inr (1, [.int 0, .ref q1, .ref q2, .ref q3, .ref q4, .null, .null, .null, .int 0])), (q1, .inl (ca 1, 32, .inl fun _ => 0)), (q2, .inl (ca 1, 32, .inl fun _ => 0)), (q3, .inl (ca 0, 32, .inl fun _ => 0)), (q4, .inl (ca 0, 32, .inl fun _ => 0))] := hD
  refine lv_aload_n hx hb kd1_36 rfl (lv_at hl 0 rfl) ?_
  refine lv_bipush (v := 32) hx hb kd1_37 (by decide) ?_
  refine k_newa (ty := .int) (N' := 32) (a0 := (32, .inl fun _ => 0)) hx hb (hts _ (ww_c1 53 rfl rfl)) rfl 0 rfl (fun _ h => h) hN.1 hP hD hS hA (fun _ => rfl) (by decide) (by decide) (by decide) (Nat.le_of_ble_eq_true rfl) (Nat.le_of_ble_eq_true rfl) kd1_39 (fun q5 H hP hD hS => ?_)
  have hP : va_P D ww_cl [(h0, .inr (1, [.int 0, .ref q1, .ref q2, .ref q3, .ref q4, .null, .null, .null, .int 0])), (q1, .inl (ca 1, 32, .inl fun _ => 0)), (q2, .inl (ca 1, 32, .inl fun _ => 0)), (q3, .inl (ca 0, 32, .inl fun _ => 0)), (q4, .inl (ca 0, 32, .inl fun _ => 0)), (q5, .inl (ca 0, 32, .inl fun _ => 0))] H := hP
  have hD : va_D A [(h0, .inr (1, [.int 0, .ref q1, .ref q2, .ref q3, .ref q4, .null, .null, .null, .int 0])), (q1, .inl (ca 1, 32, .inl fun _ => 0)), (q2, .inl (ca 1, 32, .inl fun _ => 0)), (q3, .inl (ca 0, 32, .inl fun _ => 0)), (q4, .inl (ca 0, 32, .inl fun _ => 0)), (q5, .inl (ca 0, 32, .inl fun _ => 0))] := hD
  refine va_putF (D := D) (ci := 1) (v := .ref q5) (ty := .array (.int)) (C := RX1) (T := TX1) (N := 9) hx hb hts ww_w1 tyX1 tyX1_ok nmX1 hown hN.1 hP hD hS 0 rfl rfl 5 (by decide) (hts _ (ww_c1 29 rfl rfl)) (fun _ h9 => h9) rfl hin rfl (by decide +kernel) rfl rfl (Nat.le_of_ble_eq_true rfl) kd1_41 (fun H locs hP hD hS => ?_)
  have hP : va_P D ww_cl [(h0, .inr (1, [.int 0, .ref q1, .ref q2, .ref q3, .ref q4, .ref q5, .null, .null, .int 0])), (q1, .inl (ca 1, 32, .inl fun _ => 0)), (q2, .inl (ca 1, 32, .inl fun _ => 0)), (q3, .inl (ca 0, 32, .inl fun _ => 0)), (q4, .inl (ca 0, 32, .inl fun _ => 0)), (q5, .inl (ca 0, 32, .inl fun _ => 0))] H := hP
  have hD : va_D A [(h0, .inr (1, [.int 0, .ref q1, .ref q2, .ref q3, .ref q4, .ref q5, .null, .null, .int 0])), (q1, .inl (ca 1, 32, .inl fun _ => 0)), (q2, .inl (ca 1, 32, .inl fun _ => 0)), (q3, .inl (ca 0, 32, .inl fun _ => 0)), (q4, .inl (ca 0, 32, .inl fun _ => 0)), (q5, .inl (ca 0, 32, .inl fun _ => 0))] := hD
  refine lv_aload_n hx hb kd1_44 rfl (lv_at hl 0 rfl) ?_
  refine lv_bipush (v := 32) hx hb kd1_45 (by decide) ?_
  refine k_newa (ty := .int) (N' := 32) (a0 := (32, .inl fun _ => 0)) hx hb (hts _ (ww_c1 53 rfl rfl)) rfl 0 rfl (fun _ h => h) hN.1 hP hD hS hA (fun _ => rfl) (by decide) (by decide) (by decide) (Nat.le_of_ble_eq_true rfl) (Nat.le_of_ble_eq_true rfl) kd1_47 (fun q6 H hP hD hS => ?_)
  have hP : va_P D ww_cl [(h0, .inr (1, [.int 0, .ref q1, .ref q2, .ref q3, .ref q4, .ref q5, .null, .null, .int 0])), (q1, .inl (ca 1, 32, .inl fun _ => 0)), (q2, .inl (ca 1, 32, .inl fun _ => 0)), (q3, .inl (ca 0, 32, .inl fun _ => 0)), (q4, .inl (ca 0, 32, .inl fun _ => 0)), (q5, .inl (ca 0, 32, .inl fun _ => 0)), (q6, .inl (ca 0, 32, .inl fun _ => 0))] H := hP
  have hD : va_D A [(h0, .inr (1, [.int 0, .ref q1, .ref q2, .ref q3, .ref q4, .ref q5, .null, .null, .int 0])), (q1, .inl (ca 1, 32, .inl fun _ => 0)), (q2, .inl (ca 1, 32, .inl fun _ => 0)), (q3, .inl (ca 0, 32, .inl fun _ => 0)), (q4, .inl (ca 0, 32, .inl fun _ => 0)), (q5, .inl (ca 0, 32, .inl fun _ => 0)), (q6, .inl (ca 0, 32, .inl fun _ => 0))] := hD
  refine va_putF (D := D) (ci := 1) (v := .ref q6) (ty := .array (.int)) (C := RX1) (T := TX1) (N := 9) hx hb hts ww_w1 tyX1 tyX1_ok nmX1 hown hN.1 hP hD hS 0 rfl rfl 6 (by decide) (hts _ (ww_c1 30 rfl rfl)) (fun _ h9 => h9) rfl hin rfl (by decide +kernel) rfl rfl (Nat.le_of_ble_eq_true rfl) kd1_49 (fun H locs hP hD hS => ?_)
  have hP : va_P D ww_cl [(h0, .inr (1, [.int 0, .ref q1, .ref q2, .ref q3, .ref q4, .ref q5, .ref q6, .null, .int 0])), (q1, .inl (ca 1, 32, .inl fun _ => 0)), (q2, .inl (ca 1, 32, .inl fun _ => 0)), (q3, .inl (ca 0, 32, .inl fun _ => 0)), (q4, .inl (ca 0, 32, .inl fun _ => 0)), (q5, .inl (ca 0, 32, .inl fun _ => 0)), (q6, .inl (ca 0, 32, .inl fun _ => 0))] H := hP
  have hD : va_D A [(h0, .inr (1, [.int 0, .ref q1, .ref q2, .ref q3, .ref q4, .ref q5, .ref q6, .null, .int 0])), (q1, .inl (ca 1, 32, .inl fun _ => 0)), (q2, .inl (ca 1, 32, .inl fun _ => 0)), (q3, .inl (ca 0, 32, .inl fun _ => 0)), (q4, .inl (ca 0, 32, .inl fun _ => 0)), (q5, .inl (ca 0, 32, .inl fun _ => 0)), (q6, .inl (ca 0, 32, .inl fun _ => 0))] := hD
  refine lv_aload_n hx hb kd1_52 rfl (lv_at hl 0 rfl) ?_
  refine lv_bipush (v := 16) hx hb kd1_53 (by decide) ?_
  refine k_newa (ty := .long) (N' := 16) (a0 := (16, .inr (.inl fun _ => 0))) hx hb (hts _ (ww_c1 54 rfl rfl)) rfl 2 rfl (fun _ h => h) hN.1 hP hD hS hA (fun _ => rfl) (by decide) (by decide) (by decide) (Nat.le_of_ble_eq_true rfl) (Nat.le_of_ble_eq_true rfl) kd1_55 (fun q7 H hP hD hS => ?_)
  have hP : va_P D ww_cl [(h0, .inr (1, [.int 0, .ref q1, .ref q2, .ref q3, .ref q4, .ref q5, .ref q6, .null, .int 0])), (q1, .inl (ca 1, 32, .inl fun _ => 0)), (q2, .inl (ca 1, 32, .inl fun _ => 0)), (q3, .inl (ca 0, 32, .inl fun _ => 0)), (q4, .inl (ca 0, 32, .inl fun _ => 0)), (q5, .inl (ca 0, 32, .inl fun _ => 0)), (q6, .inl (ca 0, 32, .inl fun _ => 0)), (q7, .inl (ca 2, 16, .inr (.inl fun _ => 0)))] H := hP
  have hD : va_D A [(h0, .inr (1, [.int 0, .ref q1, .ref q2, .ref q3, .ref q4, .ref q5, .ref q6, .null, .int 0])), (q1, .inl (ca 1, 32, .inl fun _ => 0)), (q2, .inl (ca 1, 32, .inl fun _ => 0)), (q3, .inl (ca 0, 32, .inl fun _ => 0)), (q4, .inl (ca 0, 32, .inl fun _ => 0)), (q5, .inl (ca 0, 32, .inl fun _ => 0)), (q6, .inl (ca 0, 32, .inl fun _ => 0)), (q7, .inl (ca 2, 16, .inr (.inl fun _ => 0)))] := hD
  refine va_putF (D := D) (ci := 1) (v := .ref q7) (ty := .array .long) (C := RX1) (T := TX1) (N := 9) hx hb hts ww_w1 tyX1 tyX1_ok nmX1 hown hN.1 hP hD hS 0 rfl rfl 7 (by decide) (hts _ (ww_c1 31 rfl rfl)) (fun _ h9 => h9) rfl hin rfl (by decide +kernel) rfl rfl (Nat.le_of_ble_eq_true rfl) kd1_57 (fun H locs hP hD hS => ?_)
  have hP : va_P D ww_cl [(h0, .inr (1, [.int 0, .ref q1, .ref q2, .ref q3, .ref q4, .ref q5, .ref q6, .ref q7, .int 0])), (q1, .inl (ca 1, 32, .inl fun _ => 0)), (q2, .inl (ca 1, 32, .inl fun _ => 0)), (q3, .inl (ca 0, 32, .inl fun _ => 0)), (q4, .inl (ca 0, 32, .inl fun _ => 0)), (q5, .inl (ca 0, 32, .inl fun _ => 0)), (q6, .inl (ca 0, 32, .inl fun _ => 0)), (q7, .inl (ca 2, 16, .inr (.inl fun _ => 0)))] H := hP
  have hD : va_D A [(h0, .inr (1, [.int 0, .ref q1, .ref q2, .ref q3, .ref q4, .ref q5, .ref q6, .ref q7, .int 0])), (q1, .inl (ca 1, 32, .inl fun _ => 0)), (q2, .inl (ca 1, 32, .inl fun _ => 0)), (q3, .inl (ca 0, 32, .inl fun _ => 0)), (q4, .inl (ca 0, 32, .inl fun _ => 0)), (q5, .inl (ca 0, 32, .inl fun _ => 0)), (q6, .inl (ca 0, 32, .inl fun _ => 0)), (q7, .inl (ca 2, 16, .inr (.inl fun _ => 0)))] := hD
  refine lv_aload_n hx hb kd1_60 rfl (lv_at hl 0 rfl) ?_
  refine lv_iconst (v := 1) hx hb kd1_61 (by decide) ?_
  refine va_put (D := D) (ci := 1) (v := .int 1) (ty := .int) (C := RX1) (T := TX1) (N := 9) hx hb hts ww_w1 tyX1 tyX1_ok nmX1 hown hN.1 hP hD hS 0 rfl rfl 0 (by decide) (hts _ (ww_c1 24 rfl rfl)) (fun _ h9 => h9) rfl (by decide +kernel) rfl rfl (Nat.le_of_ble_eq_true rfl) kd1_62 (fun H locs hP hD hS => ?_)
  have hP : va_P D ww_cl [(h0, .inr (1, [.int 1, .ref q1, .ref q2, .ref q3, .ref q4, .ref q5, .ref q6, .ref q7, .int 0])), (q1, .inl (ca 1, 32, .inl fun _ => 0)), (q2, .inl (ca 1, 32, .inl fun _ => 0)), (q3, .inl (ca 0, 32, .inl fun _ => 0)), (q4, .inl (ca 0, 32, .inl fun _ => 0)), (q5, .inl (ca 0, 32, .inl fun _ => 0)), (q6, .inl (ca 0, 32, .inl fun _ => 0)), (q7, .inl (ca 2, 16, .inr (.inl fun _ => 0)))] H := hP
  have hD : va_D A [(h0, .inr (1, [.int 1, .ref q1, .ref q2, .ref q3, .ref q4, .ref q5, .ref q6, .ref q7, .int 0])), (q1, .inl (ca 1, 32, .inl fun _ => 0)), (q2, .inl (ca 1, 32, .inl fun _ => 0)), (q3, .inl (ca 0, 32, .inl fun _ => 0)), (q4, .inl (ca 0, 32, .inl fun _ => 0)), (q5, .inl (ca 0, 32, .inl fun _ => 0)), (q6, .inl (ca 0, 32, .inl fun _ => 0)), (q7, .inl (ca 2, 16, .inr (.inl fun _ => 0)))] := hD
  refine lv_aload_n hx hb kd1_65 rfl (lv_at hl 0 rfl) ?_
  refine va_get (D := D) (ci := 1) (v := .ref q6) (C := RX1) (T := TX1) (N := 9) hx hb hts ww_w1 hown hN.1 hP 0 rfl rfl 6 (by decide) (hts _ (ww_c1 30 rfl rfl)) (fun _ h9 => h9) rfl kd1_66 ?_
  refine lv_iconst (v := 1) hx hb kd1_69 (by decide) ?_
  refine lv_iconst (v := 2) hx hb kd1_70 (by decide) ?_
  refine va_iast (n := 32) (f := fun _ => 0) hx hb hN.1 hP hD hS 6 0 rfl rfl (by unfold vp_in; decide) kd1_71 (fun H locs hP hD hS => ?_)
  have hP : va_P D ww_cl [(h0, .inr (1, [.int 1, .ref q1, .ref q2, .ref q3, .ref q4, .ref q5, .ref q6, .ref q7, .int 0])), (q1, .inl (ca 1, 32, .inl fun _ => 0)), (q2, .inl (ca 1, 32, .inl fun _ => 0)), (q3, .inl (ca 0, 32, .inl fun _ => 0)), (q4, .inl (ca 0, 32, .inl fun _ => 0)), (q5, .inl (ca 0, 32, .inl fun _ => 0)), (q6, .inl (ca 0, 32, .inl (upd (fun _ => 0) ((1 : Int32).toNatClampNeg) 2))), (q7, .inl (ca 2, 16, .inr (.inl fun _ => 0)))] H := hP
  have hD : va_D A [(h0, .inr (1, [.int 1, .ref q1, .ref q2, .ref q3, .ref q4, .ref q5, .ref q6, .ref q7, .int 0])), (q1, .inl (ca 1, 32, .inl fun _ => 0)), (q2, .inl (ca 1, 32, .inl fun _ => 0)), (q3, .inl (ca 0, 32, .inl fun _ => 0)), (q4, .inl (ca 0, 32, .inl fun _ => 0)), (q5, .inl (ca 0, 32, .inl fun _ => 0)), (q6, .inl (ca 0, 32, .inl (upd (fun _ => 0) ((1 : Int32).toNatClampNeg) 2))), (q7, .inl (ca 2, 16, .inr (.inl fun _ => 0)))] := hD
  refine W.widen (k := 7) (n := 208) (Nat.le_of_ble_eq_true rfl) (Nat.le_of_ble_eq_true rfl) ?_
  exact W.vret hx hb hr (fun t ht hW => ⟨⟨(), rfl, trivial, q1, q2, q3, q4, q5, q6, q7, by rw [ht]; exact hP, hD⟩, hS.F ht⟩) hS.2.2 kd1_72
