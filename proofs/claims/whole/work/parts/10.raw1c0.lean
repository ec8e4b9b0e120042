/-! THE CLASS, stretch by stretch, as pure equations (by program) -/
-- 0: WiringContainer$BeanTable.isFull()Z
set_option maxRecDepth 100000 in
set_option maxHeartbeats 4000000 in
theorem cp_0_g (d : Nat) (σ : mm_S) : cG (d + 1) 0 [.ref 2] σ = (if (σ.1 2 1) < (16 : Int32) then (some ((0 : Int32), 0, σ)) else (some ((1 : Int32), 0, σ))) := by
  refine (mm_entry 99999993 7 (maxL := 1) (labs := cp_0_l) (rows := cp_0_r0) (L := [.ref 2]) (rk := 3) rfl rfl rfl rfl rfl rfl).trans ?_
  refine (ex_aload_n (x := 2) rfl).trans ?_
  refine (ex_get (u := .int (σ.1 2 1)) rfl).trans ?_
  refine (ex_bipush).trans ?_
  refine (ex_ic_lt (p := 13) (q := cp_0_r1) rfl).trans (ex_ite ?_ ?_)
  · refine (ex_iconst).trans ?_
    exact ex_zreturn0
  · refine (ex_iconst).trans ?_
    refine (ex_goto (p := 14) (q := cp_0_r2) rfl).trans ?_
    exact ex_zreturn1
-- 1: WiringContainer$BeanTable.exists(I)Z
set_option maxRecDepth 100000 in
set_option maxHeartbeats 4000000 in
theorem cp_1_g (d : Nat) (σ : mm_S) (x1 : Int32) : cG (d + 1) 1 [.ref 2, .int x1] σ = (if x1 < 0 then (some ((0 : Int32), 0, σ)) else (if (σ.1 2 1) ≤ x1 then (some ((0 : Int32), 0, σ)) else (some ((1 : Int32), 0, σ)))) := by
  refine (mm_entry 99999991 9 (maxL := 2) (labs := cp_1_l) (rows := cp_1_r0) (L := [.ref 2, .int x1]) (rk := 3) rfl rfl rfl rfl rfl rfl).trans ?_
  refine (ex_iload_n (x := x1) rfl).trans ?_
  refine (ex_if_lt (p := 16) (q := cp_1_r1) rfl).trans (ex_ite ?_ ?_)
  · refine (ex_iconst).trans ?_
    exact ex_zreturn0
  · refine (ex_iload_n (x := x1) rfl).trans ?_
    refine (ex_aload_n (x := 2) rfl).trans ?_
    refine (ex_get (u := .int (σ.1 2 1)) rfl).trans ?_
    refine (ex_ic_ge (p := 16) (q := cp_1_r1) rfl).trans (ex_ite ?_ ?_)
    · refine (ex_iconst).trans ?_
      exact ex_zreturn0
    · refine (ex_iconst).trans ?_
      refine (ex_goto (p := 17) (q := cp_1_r2) rfl).trans ?_
      exact ex_zreturn1
-- 2: WiringContainer$BeanTable.size()I
set_option maxRecDepth 100000 in
set_option maxHeartbeats 4000000 in
theorem cp_2_g (d : Nat) (σ : mm_S) : cG (d + 1) 2 [.ref 2] σ = (some ((σ.1 2 1), 0, σ)) := by
  refine (mm_entry 99999997 3 (maxL := 1) (labs := cp_2_l) (rows := cp_2_r0) (L := [.ref 2]) (rk := 1) rfl rfl rfl rfl rfl rfl).trans ?_
  refine (ex_aload_n (x := 2) rfl).trans ?_
  refine (ex_get (u := .int (σ.1 2 1)) rfl).trans ?_
  exact ex_ireturn
-- 3: WiringContainer$BeanTable.add(IIII)I
set_option maxRecDepth 100000 in
set_option maxHeartbeats 4000000 in
theorem cp_3_g (d : Nat) (σ : mm_S) (x1 : Int32) (x2 : Int32) (x3 : Int32) (x4 : Int32) : cG (d + 1) 3 [.ref 2, .int x1, .int x2, .int x3, .int x4] σ = ((cG d 0 [.ref 2] σ).bind fun u1 => (if u1.1 = 0 then (if mm_in (u1.2.2.1 2 1) 16 then (if (x2 >>> ((3 : Int32) &&& 31)) = 0 then (mm_ex sc (cG d) 1 cp_3_l (99999973 + 0) cp_3_r5 [.ref 2, .int x1, .int x2, .int x3, .int x4, .int (u1.2.2.1 2 1), .int (1 : Int32)] [.int (x2 ||| (8 : Int32)), .int (u1.2.2.1 2 1), .ref 14] ((mm_w u1.2.2.1 13 ((u1.2.2.1 2 1)).toNatClampNeg x1), u1.2.2.2)) else (mm_ex sc (cG d) 1 cp_3_l (99999973 + 4) cp_3_r5 [.ref 2, .int x1, .int x2, .int x3, .int x4, .int (u1.2.2.1 2 1), .int (0 : Int32)] [.int x2, .int (u1.2.2.1 2 1), .ref 14] ((mm_w u1.2.2.1 13 ((u1.2.2.1 2 1)).toNatClampNeg x1), u1.2.2.2))) else none) else (some ((-2 : Int32), 0, u1.2.2)))) := by
  refine (mm_entry 99999973 27 (maxL := 7) (labs := cp_3_l) (rows := cp_3_r0) (L := [.ref 2, .int x1, .int x2, .int x3, .int x4, .null, .null]) (rk := 1) rfl rfl rfl rfl rfl rfl).trans ?_
  refine (ex_aload_n (x := 2) rfl).trans ?_
  refine (ex_inv_z (As := [.ref 2]) (rest := []) rfl rfl).trans (ex_bnd fun u1 => ?_)
  refine (ex_if_eq (p := 10) (q := cp_3_r1) rfl).trans (ex_ite ?_ ?_)
  · refine (ex_aload_n (x := 2) rfl).trans ?_
    refine (ex_get (u := .int (u1.2.2.1 2 1)) rfl).trans ?_
    refine (ex_istore (L2 := [.ref 2, .int x1, .int x2, .int x3, .int x4, .int (u1.2.2.1 2 1), .null]) rfl).trans ?_
    refine (ex_aload_n (x := 2) rfl).trans ?_
    refine (ex_get (u := .ref 13) rfl).trans ?_
    refine (ex_iload (x := (u1.2.2.1 2 1)) rfl).trans ?_
    refine (ex_iload_n (x := x1) rfl).trans ?_
    refine (ex_iastore (z := 16) rfl).trans (ex_ite ?_ rfl)
    refine (ex_iload_n (x := x2) rfl).trans ?_
    refine (ex_iconst).trans ?_
    refine (ex_ishr).trans ?_
    refine (ex_if_ne (p := 34) (q := cp_3_r2) rfl).trans (ex_ite ?_ ?_)
    · refine (ex_iconst).trans ?_
      refine (ex_goto (p := 35) (q := cp_3_r3) rfl).trans ?_
      refine (ex_istore (L2 := [.ref 2, .int x1, .int x2, .int x3, .int x4, .int (u1.2.2.1 2 1), .int (1 : Int32)]) rfl).trans ?_
      refine (ex_aload_n (x := 2) rfl).trans ?_
      refine (ex_get (u := .ref 14) rfl).trans ?_
      refine (ex_iload (x := (u1.2.2.1 2 1)) rfl).trans ?_
      refine (ex_iload (x := (1 : Int32)) rfl).trans ?_
      refine (ex_if_eq (p := 55) (q := cp_3_r4) rfl).trans (ex_f (by decide) ?_)
      refine (ex_iload_n (x := x2) rfl).trans ?_
      refine (ex_bipush).trans ?_
      refine (ex_ior).trans ?_
      refine (ex_goto (p := 56) (q := cp_3_r5) rfl).trans ?_
      exact rfl
    · refine (ex_iconst).trans ?_
      refine (ex_istore (L2 := [.ref 2, .int x1, .int x2, .int x3, .int x4, .int (u1.2.2.1 2 1), .int (0 : Int32)]) rfl).trans ?_
      refine (ex_aload_n (x := 2) rfl).trans ?_
      refine (ex_get (u := .ref 14) rfl).trans ?_
      refine (ex_iload (x := (u1.2.2.1 2 1)) rfl).trans ?_
      refine (ex_iload (x := (0 : Int32)) rfl).trans ?_
      refine (ex_if_eq (p := 55) (q := cp_3_r4) rfl).trans (ex_t (by decide) ?_)
      refine (ex_iload_n (x := x2) rfl).trans ?_
      exact rfl
  · refine (ex_bipush).trans ?_
    exact ex_ireturn
set_option maxRecDepth 100000 in
set_option maxHeartbeats 4000000 in
theorem cp_3_h5 (d n : Nat) (σ : mm_S) (x1 : Int32) (x2 : Int32) (x3 : Int32) (x4 : Int32) (x5 : Int32) (x6 : Int32) (xs0 : Int32) (xs1 : Int32) : mm_ex sc (cG d) 1 cp_3_l (n + 24) cp_3_r5 [.ref 2, .int x1, .int x2, .int x3, .int x4, .int x5, .int x6] [.int xs0, .int xs1, .ref 14] σ = (if mm_in xs1 16 then (if mm_in x5 16 then (if mm_in x5 16 then (if mm_in x5 16 then (some (x5, 0, ((mm_w (mm_w (mm_w (mm_w (mm_w σ.1 14 (xs1).toNatClampNeg xs0) 15 (x5).toNatClampNeg x3) 16 (x5).toNatClampNeg x4) 17 (x5).toNatClampNeg (-1 : Int32)) 2 1 (((mm_w (mm_w (mm_w (mm_w σ.1 14 (xs1).toNatClampNeg xs0) 15 (x5).toNatClampNeg x3) 16 (x5).toNatClampNeg x4) 17 (x5).toNatClampNeg (-1 : Int32)) 2 1) + (1 : Int32))), σ.2))) else none) else none) else none) else none) := by
  refine (ex_iastore (z := 16) rfl).trans (ex_ite ?_ rfl)
  refine (ex_aload_n (x := 2) rfl).trans ?_
  refine (ex_get (u := .ref 15) rfl).trans ?_
  refine (ex_iload (x := x5) rfl).trans ?_
  refine (ex_iload_n (x := x3) rfl).trans ?_
  refine (ex_iastore (z := 16) rfl).trans (ex_ite ?_ rfl)
  refine (ex_aload_n (x := 2) rfl).trans ?_
  refine (ex_get (u := .ref 16) rfl).trans ?_
  refine (ex_iload (x := x5) rfl).trans ?_
  refine (ex_iload (x := x4) rfl).trans ?_
  refine (ex_iastore (z := 16) rfl).trans (ex_ite ?_ rfl)
  refine (ex_aload_n (x := 2) rfl).trans ?_
  refine (ex_get (u := .ref 17) rfl).trans ?_
  refine (ex_iload (x := x5) rfl).trans ?_
  refine (ex_iconst).trans ?_
  refine (ex_iastore (z := 16) rfl).trans (ex_ite ?_ rfl)
  refine (ex_aload_n (x := 2) rfl).trans ?_
  refine (ex_dup).trans ?_
  refine (ex_get (u := .int ((mm_w (mm_w (mm_w (mm_w σ.1 14 (xs1).toNatClampNeg xs0) 15 (x5).toNatClampNeg x3) 16 (x5).toNatClampNeg x4) 17 (x5).toNatClampNeg (-1 : Int32)) 2 1)) rfl).trans ?_
  refine (ex_iconst).trans ?_
  refine (ex_iadd).trans ?_
  refine (ex_put (u := ()) rfl).trans ?_
  refine (ex_iload (x := x5) rfl).trans ?_
  exact ex_ireturn
-- 4: WiringContainer$BeanTable.setManaged(I)V
set_option maxRecDepth 100000 in
set_option maxHeartbeats 4000000 in
theorem cp_4_g (d : Nat) (σ : mm_S) (x1 : Int32) : cG (d + 1) 4 [.ref 2, .int x1] σ = ((cG d 1 [.ref 2, .int x1] σ).bind fun u1 => (if u1.1 = 0 then (some (0, 0, u1.2.2)) else (if mm_in x1 16 then (some (0, 0, ((mm_w u1.2.2.1 18 (x1).toNatClampNeg (1 : Int32)), u1.2.2.2))) else none))) := by
  refine (mm_entry 99999990 10 (maxL := 2) (labs := cp_4_l) (rows := cp_4_r0) (L := [.ref 2, .int x1]) (rk := 0) rfl rfl rfl rfl rfl rfl).trans ?_
  refine (ex_aload_n (x := 2) rfl).trans ?_
  refine (ex_iload_n (x := x1) rfl).trans ?_
  refine (ex_inv_z (As := [.ref 2, .int x1]) (rest := []) rfl rfl).trans (ex_bnd fun u1 => ?_)
  refine (ex_if_eq (p := 15) (q := cp_4_r1) rfl).trans (ex_ite ?_ ?_)
  · exact ex_return
  · refine (ex_aload_n (x := 2) rfl).trans ?_
    refine (ex_get (u := .ref 18) rfl).trans ?_
    refine (ex_iload_n (x := x1) rfl).trans ?_
    refine (ex_iconst).trans ?_
    refine (ex_bastore (z := 16) rfl).trans (ex_ite ((if_pos (by decide)).trans ?_) rfl)
    exact ex_return
-- 5: WiringContainer$BeanTable.setHome(II)V
set_option maxRecDepth 100000 in
set_option maxHeartbeats 4000000 in
theorem cp_5_g (d : Nat) (σ : mm_S) (x1 : Int32) (x2 : Int32) : cG (d + 1) 5 [.ref 2, .int x1, .int x2] σ = ((cG d 1 [.ref 2, .int x1] σ).bind fun u1 => (if u1.1 = 0 then (some (0, 0, u1.2.2)) else ((cG d 15 [.ref 2, .int x2] u1.2.2).bind fun u2 => (if u2.1 = 0 then (some (0, 0, u2.2.2)) else (if mm_in x1 16 then (some (0, 0, ((mm_w u2.2.2.1 17 (x1).toNatClampNeg x2), u2.2.2.2))) else none))))) := by
  refine (mm_entry 99999986 14 (maxL := 3) (labs := cp_5_l) (rows := cp_5_r0) (L := [.ref 2, .int x1, .int x2]) (rk := 0) rfl rfl rfl rfl rfl rfl).trans ?_
  refine (ex_aload_n (x := 2) rfl).trans ?_
  refine (ex_iload_n (x := x1) rfl).trans ?_
  refine (ex_inv_z (As := [.ref 2, .int x1]) (rest := []) rfl rfl).trans (ex_bnd fun u1 => ?_)
  refine (ex_if_eq (p := 23) (q := cp_5_r1) rfl).trans (ex_ite ?_ ?_)
  · exact ex_return
  · refine (ex_aload_n (x := 2) rfl).trans ?_
    refine (ex_iload_n (x := x2) rfl).trans ?_
    refine (ex_inv_z (As := [.ref 2, .int x2]) (rest := []) rfl rfl).trans (ex_bnd fun u2 => ?_)
    refine (ex_if_eq (p := 23) (q := cp_5_r1) rfl).trans (ex_ite ?_ ?_)
    · exact ex_return
    · refine (ex_aload_n (x := 2) rfl).trans ?_
      refine (ex_get (u := .ref 17) rfl).trans ?_
      refine (ex_iload_n (x := x1) rfl).trans ?_
      refine (ex_iload_n (x := x2) rfl).trans ?_
      refine (ex_iastore (z := 16) rfl).trans (ex_ite ?_ rfl)
      exact ex_return
-- 6: WiringContainer$BeanTable.addPoint(III)I
set_option maxRecDepth 100000 in
set_option maxHeartbeats 4000000 in
theorem cp_6_g (d : Nat) (σ : mm_S) (x1 : Int32) (x2 : Int32) (x3 : Int32) : cG (d + 1) 6 [.ref 2, .int x1, .int x2, .int x3] σ = ((cG d 1 [.ref 2, .int x1] σ).bind fun u1 => (if u1.1 = 0 then (some ((-2 : Int32), 0, u1.2.2)) else (if mm_in x1 16 then (if (u1.2.2.1 19 (x1).toNatClampNeg) < (3 : Int32) then (if mm_in x1 16 then ((mm_grid sc 20 (u1.2.2.1 19 (x1).toNatClampNeg)).bind fun q2 => ((mm_arr sc q2 0).bind fun z3 => if mm_in x1 z3 then ((mm_grid sc 24 (u1.2.2.1 19 (x1).toNatClampNeg)).bind fun q4 => ((mm_arr sc q4 0).bind fun z5 => if mm_in x1 z5 then (if mm_in x1 16 then (if mm_in x1 16 then (some ((u1.2.2.1 19 (x1).toNatClampNeg), 0, ((mm_w (mm_w (mm_w u1.2.2.1 q2 (x1).toNatClampNeg x2) q4 (x1).toNatClampNeg x3) 19 (x1).toNatClampNeg (((mm_w (mm_w u1.2.2.1 q2 (x1).toNatClampNeg x2) q4 (x1).toNatClampNeg x3) 19 (x1).toNatClampNeg) + (1 : Int32))), u1.2.2.2))) else none) else none) else none)) else none)) else none) else (some ((-2 : Int32), 0, u1.2.2))) else none))) := by
  refine (mm_entry 99999961 39 (maxL := 5) (labs := cp_6_l) (rows := cp_6_r0) (L := [.ref 2, .int x1, .int x2, .int x3, .null]) (rk := 1) rfl rfl rfl rfl rfl rfl).trans ?_
  refine (ex_aload_n (x := 2) rfl).trans ?_
  refine (ex_iload_n (x := x1) rfl).trans ?_
  refine (ex_inv_z (As := [.ref 2, .int x1]) (rest := []) rfl rfl).trans (ex_bnd fun u1 => ?_)
  refine (ex_if_eq (p := 18) (q := cp_6_r1) rfl).trans (ex_ite ?_ ?_)
  · refine (ex_bipush).trans ?_
    exact ex_ireturn
  · refine (ex_aload_n (x := 2) rfl).trans ?_
    refine (ex_get (u := .ref 19) rfl).trans ?_
    refine (ex_iload_n (x := x1) rfl).trans ?_
    refine (ex_iaload (z := 16) rfl).trans (ex_ite ?_ rfl)
    refine (ex_iconst).trans ?_
    refine (ex_ic_lt (p := 21) (q := cp_6_r2) rfl).trans (ex_ite ?_ ?_)
    · refine (ex_aload_n (x := 2) rfl).trans ?_
      refine (ex_get (u := .ref 19) rfl).trans ?_
      refine (ex_iload_n (x := x1) rfl).trans ?_
      refine (ex_iaload (z := 16) rfl).trans (ex_ite ?_ rfl)
      refine (ex_istore (L2 := [.ref 2, .int x1, .int x2, .int x3, .int (u1.2.2.1 19 (x1).toNatClampNeg)]) rfl).trans ?_
      refine (ex_aload_n (x := 2) rfl).trans ?_
      refine (ex_get (u := .ref 20) rfl).trans ?_
      refine (ex_iload (x := (u1.2.2.1 19 (x1).toNatClampNeg)) rfl).trans ?_
      refine ex_aaload.trans (ex_bnd fun q2 => ?_)
      refine (ex_iload_n (x := x1) rfl).trans ?_
      refine (ex_iload_n (x := x2) rfl).trans ?_
      refine ex_iastore_b.trans (ex_bnd fun z3 => ex_ite ?_ rfl)
      refine (ex_aload_n (x := 2) rfl).trans ?_
      refine (ex_get (u := .ref 24) rfl).trans ?_
      refine (ex_iload (x := (u1.2.2.1 19 (x1).toNatClampNeg)) rfl).trans ?_
      refine ex_aaload.trans (ex_bnd fun q4 => ?_)
      refine (ex_iload_n (x := x1) rfl).trans ?_
      refine (ex_iload_n (x := x3) rfl).trans ?_
      refine ex_iastore_b.trans (ex_bnd fun z5 => ex_ite ?_ rfl)
      refine (ex_aload_n (x := 2) rfl).trans ?_
      refine (ex_get (u := .ref 19) rfl).trans ?_
      refine (ex_iload_n (x := x1) rfl).trans ?_
      refine (ex_dup2).trans ?_
      refine (ex_iaload (z := 16) rfl).trans (ex_ite ?_ rfl)
      refine (ex_iconst).trans ?_
      refine (ex_iadd).trans ?_
      refine (ex_iastore (z := 16) rfl).trans (ex_ite ?_ rfl)
      refine (ex_iload (x := (u1.2.2.1 19 (x1).toNatClampNeg)) rfl).trans ?_
      exact ex_ireturn
    · refine (ex_bipush).trans ?_
      exact ex_ireturn
-- 7: WiringContainer$BeanTable.typeOf(I)I
set_option maxRecDepth 100000 in
set_option maxHeartbeats 4000000 in
theorem cp_7_g (d : Nat) (σ : mm_S) (x1 : Int32) : cG (d + 1) 7 [.ref 2, .int x1] σ = ((cG d 1 [.ref 2, .int x1] σ).bind fun u1 => (if u1.1 = 0 then (some ((0 : Int32), 0, u1.2.2)) else (if mm_in x1 16 then (some ((u1.2.2.1 13 (x1).toNatClampNeg), 0, u1.2.2)) else none))) := by
  refine (mm_entry 99999990 10 (maxL := 2) (labs := cp_7_l) (rows := cp_7_r0) (L := [.ref 2, .int x1]) (rk := 1) rfl rfl rfl rfl rfl rfl).trans ?_
  refine (ex_aload_n (x := 2) rfl).trans ?_
  refine (ex_iload_n (x := x1) rfl).trans ?_
  refine (ex_inv_z (As := [.ref 2, .int x1]) (rest := []) rfl rfl).trans (ex_bnd fun u1 => ?_)
  refine (ex_if_eq (p := 17) (q := cp_7_r1) rfl).trans (ex_ite ?_ ?_)
  · refine (ex_iconst).trans ?_
    exact ex_ireturn
  · refine (ex_aload_n (x := 2) rfl).trans ?_
    refine (ex_get (u := .ref 13) rfl).trans ?_
    refine (ex_iload_n (x := x1) rfl).trans ?_
    refine (ex_iaload (z := 16) rfl).trans (ex_ite ?_ rfl)
    refine (ex_goto (p := 18) (q := cp_7_r2) rfl).trans ?_
    exact ex_ireturn
-- 8: WiringContainer$BeanTable.nameOf(I)I
set_option maxRecDepth 100000 in
set_option maxHeartbeats 4000000 in
theorem cp_8_g (d : Nat) (σ : mm_S) (x1 : Int32) : cG (d + 1) 8 [.ref 2, .int x1] σ = ((cG d 1 [.ref 2, .int x1] σ).bind fun u1 => (if u1.1 = 0 then (some ((0 : Int32), 0, u1.2.2)) else (if mm_in x1 16 then (some (((u1.2.2.1 14 (x1).toNatClampNeg) &&& (7 : Int32)), 0, u1.2.2)) else none))) := by
  refine (mm_entry 99999988 12 (maxL := 2) (labs := cp_8_l) (rows := cp_8_r0) (L := [.ref 2, .int x1]) (rk := 1) rfl rfl rfl rfl rfl rfl).trans ?_
  refine (ex_aload_n (x := 2) rfl).trans ?_
  refine (ex_iload_n (x := x1) rfl).trans ?_
  refine (ex_inv_z (As := [.ref 2, .int x1]) (rest := []) rfl rfl).trans (ex_bnd fun u1 => ?_)
  refine (ex_if_eq (p := 20) (q := cp_8_r1) rfl).trans (ex_ite ?_ ?_)
  · refine (ex_iconst).trans ?_
    exact ex_ireturn
  · refine (ex_aload_n (x := 2) rfl).trans ?_
    refine (ex_get (u := .ref 14) rfl).trans ?_
    refine (ex_iload_n (x := x1) rfl).trans ?_
    refine (ex_iaload (z := 16) rfl).trans (ex_ite ?_ rfl)
    refine (ex_bipush).trans ?_
    refine (ex_iand).trans ?_
    refine (ex_goto (p := 21) (q := cp_8_r2) rfl).trans ?_
    exact ex_ireturn
-- 9: WiringContainer$BeanTable.scopeOf(I)I
set_option maxRecDepth 100000 in
set_option maxHeartbeats 4000000 in
theorem cp_9_g (d : Nat) (σ : mm_S) (x1 : Int32) : cG (d + 1) 9 [.ref 2, .int x1] σ = ((cG d 1 [.ref 2, .int x1] σ).bind fun u1 => (if u1.1 = 0 then (some ((0 : Int32), 0, u1.2.2)) else (if mm_in x1 16 then (some ((u1.2.2.1 15 (x1).toNatClampNeg), 0, u1.2.2)) else none))) := by
  refine (mm_entry 99999990 10 (maxL := 2) (labs := cp_9_l) (rows := cp_9_r0) (L := [.ref 2, .int x1]) (rk := 1) rfl rfl rfl rfl rfl rfl).trans ?_
  refine (ex_aload_n (x := 2) rfl).trans ?_
  refine (ex_iload_n (x := x1) rfl).trans ?_
  refine (ex_inv_z (As := [.ref 2, .int x1]) (rest := []) rfl rfl).trans (ex_bnd fun u1 => ?_)
  refine (ex_if_eq (p := 17) (q := cp_9_r1) rfl).trans (ex_ite ?_ ?_)
  · refine (ex_iconst).trans ?_
    exact ex_ireturn
  · refine (ex_aload_n (x := 2) rfl).trans ?_
    refine (ex_get (u := .ref 15) rfl).trans ?_
    refine (ex_iload_n (x := x1) rfl).trans ?_
    refine (ex_iaload (z := 16) rfl).trans (ex_ite ?_ rfl)
    refine (ex_goto (p := 18) (q := cp_9_r2) rfl).trans ?_
    exact ex_ireturn
-- 10: WiringContainer$BeanTable.homeOf(I)I
set_option maxRecDepth 100000 in
set_option maxHeartbeats 4000000 in
theorem cp_10_g (d : Nat) (σ : mm_S) (x1 : Int32) : cG (d + 1) 10 [.ref 2, .int x1] σ = ((cG d 1 [.ref 2, .int x1] σ).bind fun u1 => (if u1.1 = 0 then (some ((-1 : Int32), 0, u1.2.2)) else (if mm_in x1 16 then (some ((u1.2.2.1 17 (x1).toNatClampNeg), 0, u1.2.2)) else none))) := by
  refine (mm_entry 99999990 10 (maxL := 2) (labs := cp_10_l) (rows := cp_10_r0) (L := [.ref 2, .int x1]) (rk := 1) rfl rfl rfl rfl rfl rfl).trans ?_
  refine (ex_aload_n (x := 2) rfl).trans ?_
  refine (ex_iload_n (x := x1) rfl).trans ?_
  refine (ex_inv_z (As := [.ref 2, .int x1]) (rest := []) rfl rfl).trans (ex_bnd fun u1 => ?_)
  refine (ex_if_eq (p := 17) (q := cp_10_r1) rfl).trans (ex_ite ?_ ?_)
  · refine (ex_iconst).trans ?_
    exact ex_ireturn
  · refine (ex_aload_n (x := 2) rfl).trans ?_
    refine (ex_get (u := .ref 17) rfl).trans ?_
    refine (ex_iload_n (x := x1) rfl).trans ?_
    refine (ex_iaload (z := 16) rfl).trans (ex_ite ?_ rfl)
    refine (ex_goto (p := 18) (q := cp_10_r2) rfl).trans ?_
    exact ex_ireturn
-- 11: WiringContainer$BeanTable.pointCount(I)I
set_option maxRecDepth 100000 in
set_option maxHeartbeats 4000000 in
theorem cp_11_g (d : Nat) (σ : mm_S) (x1 : Int32) : cG (d + 1) 11 [.ref 2, .int x1] σ = ((cG d 1 [.ref 2, .int x1] σ).bind fun u1 => (if u1.1 = 0 then (some ((0 : Int32), 0, u1.2.2)) else (if mm_in x1 16 then (some ((u1.2.2.1 19 (x1).toNatClampNeg), 0, u1.2.2)) else none))) := by
  refine (mm_entry 99999990 10 (maxL := 2) (labs := cp_11_l) (rows := cp_11_r0) (L := [.ref 2, .int x1]) (rk := 1) rfl rfl rfl rfl rfl rfl).trans ?_
  refine (ex_aload_n (x := 2) rfl).trans ?_
  refine (ex_iload_n (x := x1) rfl).trans ?_
  refine (ex_inv_z (As := [.ref 2, .int x1]) (rest := []) rfl rfl).trans (ex_bnd fun u1 => ?_)
  refine (ex_if_eq (p := 17) (q := cp_11_r1) rfl).trans (ex_ite ?_ ?_)
  · refine (ex_iconst).trans ?_
    exact ex_ireturn
  · refine (ex_aload_n (x := 2) rfl).trans ?_
    refine (ex_get (u := .ref 19) rfl).trans ?_
    refine (ex_iload_n (x := x1) rfl).trans ?_
    refine (ex_iaload (z := 16) rfl).trans (ex_ite ?_ rfl)
    refine (ex_goto (p := 18) (q := cp_11_r2) rfl).trans ?_
    exact ex_ireturn
-- 12: WiringContainer$BeanTable.hasPoint(II)Z
set_option maxRecDepth 100000 in
set_option maxHeartbeats 4000000 in
theorem cp_12_g (d : Nat) (σ : mm_S) (x1 : Int32) (x2 : Int32) : cG (d + 1) 12 [.ref 2, .int x1, .int x2] σ = (if x2 < 0 then (some ((0 : Int32), 0, σ)) else ((cG d 11 [.ref 2, .int x1] σ).bind fun u1 => (if u1.1 ≤ x2 then (some ((0 : Int32), 0, u1.2.2)) else (some ((1 : Int32), 0, u1.2.2))))) := by
  refine (mm_entry 99999990 10 (maxL := 3) (labs := cp_12_l) (rows := cp_12_r0) (L := [.ref 2, .int x1, .int x2]) (rk := 3) rfl rfl rfl rfl rfl rfl).trans ?_
  refine (ex_iload_n (x := x2) rfl).trans ?_
  refine (ex_if_lt (p := 17) (q := cp_12_r1) rfl).trans (ex_ite ?_ ?_)
  · refine (ex_iconst).trans ?_
    exact ex_zreturn0
  · refine (ex_iload_n (x := x2) rfl).trans ?_
    refine (ex_aload_n (x := 2) rfl).trans ?_
    refine (ex_iload_n (x := x1) rfl).trans ?_
    refine (ex_inv_i (As := [.ref 2, .int x1]) (rest := [.int x2]) rfl rfl).trans (ex_bnd fun u1 => ?_)
    refine (ex_ic_ge (p := 17) (q := cp_12_r1) rfl).trans (ex_ite ?_ ?_)
    · refine (ex_iconst).trans ?_
      exact ex_zreturn0
    · refine (ex_iconst).trans ?_
      refine (ex_goto (p := 18) (q := cp_12_r2) rfl).trans ?_
      exact ex_zreturn1
-- 13: WiringContainer$BeanTable.pointTypeOf(II)I
set_option maxRecDepth 100000 in
set_option maxHeartbeats 4000000 in
theorem cp_13_g (d : Nat) (σ : mm_S) (x1 : Int32) (x2 : Int32) : cG (d + 1) 13 [.ref 2, .int x1, .int x2] σ = ((cG d 12 [.ref 2, .int x1, .int x2] σ).bind fun u1 => (if u1.1 = 0 then (some ((0 : Int32), 0, u1.2.2)) else ((mm_grid sc 20 x2).bind fun q2 => ((mm_arr sc q2 0).bind fun z3 => if mm_in x1 z3 then (some ((u1.2.2.1 q2 (x1).toNatClampNeg), 0, u1.2.2)) else none)))) := by
  refine (mm_entry 99999987 13 (maxL := 3) (labs := cp_13_l) (rows := cp_13_r0) (L := [.ref 2, .int x1, .int x2]) (rk := 1) rfl rfl rfl rfl rfl rfl).trans ?_
  refine (ex_aload_n (x := 2) rfl).trans ?_
  refine (ex_iload_n (x := x1) rfl).trans ?_
  refine (ex_iload_n (x := x2) rfl).trans ?_
  refine (ex_inv_z (As := [.ref 2, .int x1, .int x2]) (rest := []) rfl rfl).trans (ex_bnd fun u1 => ?_)
  refine (ex_if_eq (p := 20) (q := cp_13_r1) rfl).trans (ex_ite ?_ ?_)
  · refine (ex_iconst).trans ?_
    exact ex_ireturn
  · refine (ex_aload_n (x := 2) rfl).trans ?_
    refine (ex_get (u := .ref 20) rfl).trans ?_
    refine (ex_iload_n (x := x2) rfl).trans ?_
    refine ex_aaload.trans (ex_bnd fun q2 => ?_)
    refine (ex_iload_n (x := x1) rfl).trans ?_
    refine ex_iaload_b.trans (ex_bnd fun z3 => ex_ite ?_ rfl)
    refine (ex_goto (p := 21) (q := cp_13_r2) rfl).trans ?_
    exact ex_ireturn
-- 14: WiringContainer$BeanTable.pointMarksOf(II)I
set_option maxRecDepth 100000 in
set_option maxHeartbeats 4000000 in
theorem cp_14_g (d : Nat) (σ : mm_S) (x1 : Int32) (x2 : Int32) : cG (d + 1) 14 [.ref 2, .int x1, .int x2] σ = ((cG d 12 [.ref 2, .int x1, .int x2] σ).bind fun u1 => (if u1.1 = 0 then (some ((0 : Int32), 0, u1.2.2)) else ((mm_grid sc 24 x2).bind fun q2 => ((mm_arr sc q2 0).bind fun z3 => if mm_in x1 z3 then (some ((u1.2.2.1 q2 (x1).toNatClampNeg), 0, u1.2.2)) else none)))) := by
  refine (mm_entry 99999987 13 (maxL := 3) (labs := cp_14_l) (rows := cp_14_r0) (L := [.ref 2, .int x1, .int x2]) (rk := 1) rfl rfl rfl rfl rfl rfl).trans ?_
  refine (ex_aload_n (x := 2) rfl).trans ?_
  refine (ex_iload_n (x := x1) rfl).trans ?_
  refine (ex_iload_n (x := x2) rfl).trans ?_
  refine (ex_inv_z (As := [.ref 2, .int x1, .int x2]) (rest := []) rfl rfl).trans (ex_bnd fun u1 => ?_)
  refine (ex_if_eq (p := 20) (q := cp_14_r1) rfl).trans (ex_ite ?_ ?_)
  · refine (ex_iconst).trans ?_
    exact ex_ireturn
  · refine (ex_aload_n (x := 2) rfl).trans ?_
    refine (ex_get (u := .ref 24) rfl).trans ?_
    refine (ex_iload_n (x := x2) rfl).trans ?_
    refine ex_aaload.trans (ex_bnd fun q2 => ?_)
    refine (ex_iload_n (x := x1) rfl).trans ?_
    refine ex_iaload_b.trans (ex_bnd fun z3 => ex_ite ?_ rfl)
    refine (ex_goto (p := 21) (q := cp_14_r2) rfl).trans ?_
    exact ex_ireturn
-- 15: WiringContainer$BeanTable.mayBeHome(I)Z
set_option maxRecDepth 100000 in
set_option maxHeartbeats 4000000 in
theorem cp_15_g (d : Nat) (σ : mm_S) (x1 : Int32) : cG (d + 1) 15 [.ref 2, .int x1] σ = ((cG d 1 [.ref 2, .int x1] σ).bind fun u1 => (if u1.1 = 0 then (some ((0 : Int32), 0, u1.2.2)) else (if mm_in x1 16 then (if (u1.2.2.1 18 (x1).toNatClampNeg) = 0 then (some ((0 : Int32), 0, u1.2.2)) else (if mm_in x1 16 then (if (u1.2.2.1 15 (x1).toNatClampNeg) = 0 then (some ((1 : Int32), 0, u1.2.2)) else (some ((0 : Int32), 0, u1.2.2))) else none)) else none))) := by
  refine (mm_entry 99999983 17 (maxL := 2) (labs := cp_15_l) (rows := cp_15_r0) (L := [.ref 2, .int x1]) (rk := 3) rfl rfl rfl rfl rfl rfl).trans ?_
  refine (ex_aload_n (x := 2) rfl).trans ?_
  refine (ex_iload_n (x := x1) rfl).trans ?_
  refine (ex_inv_z (As := [.ref 2, .int x1]) (rest := []) rfl rfl).trans (ex_bnd fun u1 => ?_)
  refine (ex_if_eq (p := 30) (q := cp_15_r1) rfl).trans (ex_ite ?_ ?_)
  · refine (ex_iconst).trans ?_
    exact ex_zreturn0
  · refine (ex_aload_n (x := 2) rfl).trans ?_
    refine (ex_get (u := .ref 18) rfl).trans ?_
    refine (ex_iload_n (x := x1) rfl).trans ?_
    refine (ex_baload (z := 16) rfl).trans (ex_ite ?_ rfl)
    refine (ex_if_eq (p := 30) (q := cp_15_r1) rfl).trans (ex_ite ?_ ?_)
    · refine (ex_iconst).trans ?_
      exact ex_zreturn0
    · refine (ex_aload_n (x := 2) rfl).trans ?_
      refine (ex_get (u := .ref 15) rfl).trans ?_
      refine (ex_iload_n (x := x1) rfl).trans ?_
      refine (ex_iaload (z := 16) rfl).trans (ex_ite ?_ rfl)
      refine (ex_if_ne (p := 30) (q := cp_15_r1) rfl).trans (ex_ite ?_ ?_)
      · refine (ex_iconst).trans ?_
        refine (ex_goto (p := 31) (q := cp_15_r2) rfl).trans ?_
        exact ex_zreturn1
      · refine (ex_iconst).trans ?_
        exact ex_zreturn0
-- 16: WiringContainer$BeanTable.isDependent(I)Z
set_option maxRecDepth 100000 in
set_option maxHeartbeats 4000000 in
theorem cp_16_g (d : Nat) (σ : mm_S) (x1 : Int32) : cG (d + 1) 16 [.ref 2, .int x1] σ = ((cG d 1 [.ref 2, .int x1] σ).bind fun u1 => (if u1.1 = 0 then (some ((0 : Int32), 0, u1.2.2)) else (if mm_in x1 16 then (if (u1.2.2.1 15 (x1).toNatClampNeg) = 0 then (some ((1 : Int32), 0, u1.2.2)) else (some ((0 : Int32), 0, u1.2.2))) else none))) := by
  refine (mm_entry 99999988 12 (maxL := 2) (labs := cp_16_l) (rows := cp_16_r0) (L := [.ref 2, .int x1]) (rk := 3) rfl rfl rfl rfl rfl rfl).trans ?_
  refine (ex_aload_n (x := 2) rfl).trans ?_
  refine (ex_iload_n (x := x1) rfl).trans ?_
  refine (ex_inv_z (As := [.ref 2, .int x1]) (rest := []) rfl rfl).trans (ex_bnd fun u1 => ?_)
  refine (ex_if_eq (p := 21) (q := cp_16_r1) rfl).trans (ex_ite ?_ ?_)
  · refine (ex_iconst).trans ?_
    exact ex_zreturn0
  · refine (ex_aload_n (x := 2) rfl).trans ?_
    refine (ex_get (u := .ref 15) rfl).trans ?_
    refine (ex_iload_n (x := x1) rfl).trans ?_
    refine (ex_iaload (z := 16) rfl).trans (ex_ite ?_ rfl)
    refine (ex_if_ne (p := 21) (q := cp_16_r1) rfl).trans (ex_ite ?_ ?_)
    · refine (ex_iconst).trans ?_
      refine (ex_goto (p := 22) (q := cp_16_r2) rfl).trans ?_
      exact ex_zreturn1
    · refine (ex_iconst).trans ?_
      exact ex_zreturn0
-- 17: WiringContainer$BeanTable.isNormal(I)Z
set_option maxRecDepth 100000 in
set_option maxHeartbeats 4000000 in
theorem cp_17_g (d : Nat) (σ : mm_S) (x1 : Int32) : cG (d + 1) 17 [.ref 2, .int x1] σ = ((cG d 1 [.ref 2, .int x1] σ).bind fun u1 => (if u1.1 = 0 then (some ((0 : Int32), 0, u1.2.2)) else (if mm_in x1 16 then (if (u1.2.2.1 15 (x1).toNatClampNeg) = 0 then (some ((0 : Int32), 0, u1.2.2)) else (some ((1 : Int32), 0, u1.2.2))) else none))) := by
  refine (mm_entry 99999988 12 (maxL := 2) (labs := cp_17_l) (rows := cp_17_r0) (L := [.ref 2, .int x1]) (rk := 3) rfl rfl rfl rfl rfl rfl).trans ?_
  refine (ex_aload_n (x := 2) rfl).trans ?_
  refine (ex_iload_n (x := x1) rfl).trans ?_
  refine (ex_inv_z (As := [.ref 2, .int x1]) (rest := []) rfl rfl).trans (ex_bnd fun u1 => ?_)
  refine (ex_if_eq (p := 21) (q := cp_17_r1) rfl).trans (ex_ite ?_ ?_)
  · refine (ex_iconst).trans ?_
    exact ex_zreturn0
  · refine (ex_aload_n (x := 2) rfl).trans ?_
    refine (ex_get (u := .ref 15) rfl).trans ?_
    refine (ex_iload_n (x := x1) rfl).trans ?_
    refine (ex_iaload (z := 16) rfl).trans (ex_ite ?_ rfl)
    refine (ex_if_eq (p := 21) (q := cp_17_r1) rfl).trans (ex_ite ?_ ?_)
    · refine (ex_iconst).trans ?_
      exact ex_zreturn0
    · refine (ex_iconst).trans ?_
      refine (ex_goto (p := 22) (q := cp_17_r2) rfl).trans ?_
      exact ex_zreturn1
-- 18: WiringContainer$BeanTable.isEnabled(I)Z
set_option maxRecDepth 100000 in
set_option maxHeartbeats 4000000 in
theorem cp_18_g (d : Nat) (σ : mm_S) (x1 : Int32) : cG (d + 1) 18 [.ref 2, .int x1] σ = ((cG d 1 [.ref 2, .int x1] σ).bind fun u1 => (if u1.1 = 0 then (some ((0 : Int32), 0, u1.2.2)) else (if mm_in x1 16 then (if (u1.2.2.1 16 (x1).toNatClampNeg) = (-1 : Int32) then (some ((0 : Int32), 0, u1.2.2)) else (if mm_in x1 16 then ((cG d 1 [.ref 2, .int (u1.2.2.1 17 (x1).toNatClampNeg)] u1.2.2).bind fun u2 => (if u2.1 = 0 then (some ((1 : Int32), 0, u2.2.2)) else (if mm_in (u1.2.2.1 17 (x1).toNatClampNeg) 16 then (if (u2.2.2.1 16 ((u1.2.2.1 17 (x1).toNatClampNeg)).toNatClampNeg) = (-1 : Int32) then (some ((0 : Int32), 0, u2.2.2)) else (some ((1 : Int32), 0, u2.2.2))) else none))) else none)) else none))) := by
  refine (mm_entry 99999972 28 (maxL := 3) (labs := cp_18_l) (rows := cp_18_r0) (L := [.ref 2, .int x1, .null]) (rk := 3) rfl rfl rfl rfl rfl rfl).trans ?_
  refine (ex_aload_n (x := 2) rfl).trans ?_
  refine (ex_iload_n (x := x1) rfl).trans ?_
  refine (ex_inv_z (As := [.ref 2, .int x1]) (rest := []) rfl rfl).trans (ex_bnd fun u1 => ?_)
  refine (ex_if_eq (p := 18) (q := cp_18_r1) rfl).trans (ex_ite ?_ ?_)
  · refine (ex_iconst).trans ?_
    exact ex_zreturn0
  · refine (ex_aload_n (x := 2) rfl).trans ?_
    refine (ex_get (u := .ref 16) rfl).trans ?_
    refine (ex_iload_n (x := x1) rfl).trans ?_
    refine (ex_iaload (z := 16) rfl).trans (ex_ite ?_ rfl)
    refine (ex_iconst).trans ?_
    refine (ex_ic_ne (p := 20) (q := cp_18_r2) rfl).trans (ex_ite ?_ ?_)
    · refine (ex_iconst).trans ?_
      exact ex_zreturn0
    · refine (ex_aload_n (x := 2) rfl).trans ?_
      refine (ex_get (u := .ref 17) rfl).trans ?_
      refine (ex_iload_n (x := x1) rfl).trans ?_
      refine (ex_iaload (z := 16) rfl).trans (ex_ite ?_ rfl)
      refine (ex_istore_n (L2 := [.ref 2, .int x1, .int (u1.2.2.1 17 (x1).toNatClampNeg)]) rfl).trans ?_
      refine (ex_aload_n (x := 2) rfl).trans ?_
      refine (ex_iload_n (x := (u1.2.2.1 17 (x1).toNatClampNeg)) rfl).trans ?_
      refine (ex_inv_z (As := [.ref 2, .int (u1.2.2.1 17 (x1).toNatClampNeg)]) (rest := []) rfl rfl).trans (ex_bnd fun u2 => ?_)
      refine (ex_if_eq (p := 45) (q := cp_18_r3) rfl).trans (ex_ite ?_ ?_)
      · refine (ex_iconst).trans ?_
        refine (ex_goto (p := 50) (q := cp_18_r5) rfl).trans ?_
        exact ex_zreturn1
      · refine (ex_aload_n (x := 2) rfl).trans ?_
        refine (ex_get (u := .ref 16) rfl).trans ?_
        refine (ex_iload_n (x := (u1.2.2.1 17 (x1).toNatClampNeg)) rfl).trans ?_
        refine (ex_iaload (z := 16) rfl).trans (ex_ite ?_ rfl)
        refine (ex_iconst).trans ?_
        refine (ex_ic_eq (p := 49) (q := cp_18_r4) rfl).trans (ex_ite ?_ ?_)
        · refine (ex_iconst).trans ?_
          exact ex_zreturn0
        · refine (ex_iconst).trans ?_
          refine (ex_goto (p := 50) (q := cp_18_r5) rfl).trans ?_
          exact ex_zreturn1
-- 19: WiringContainer$BeanTable.find(II)I
set_option maxRecDepth 100000 in
set_option maxHeartbeats 4000000 in
theorem cp_19_g (d : Nat) (σ : mm_S) (x1 : Int32) (x2 : Int32) : cG (d + 1) 19 [.ref 2, .int x1, .int x2] σ = ((cG d 20 [.ref 2, .int x1, .int x2] σ).bind fun u1 => (if u1.1 = 0 then (some ((-4 : Int32), 0, u1.2.2)) else ((cG d 21 [.ref 2, .int u1.1] u1.2.2).bind fun u2 => ((cG d 100 [.int u2.1] u2.2.2).bind fun u3 => (if u3.1 = (1 : Int32) then ((cG d 100 [.int (u2.1 - (1 : Int32))] u3.2.2).bind fun u4 => (some (u4.1, 0, u4.2.2))) else (some ((-5 : Int32), 0, u3.2.2))))))) := by
  refine (mm_entry 99999979 21 (maxL := 5) (labs := cp_19_l) (rows := cp_19_r0) (L := [.ref 2, .int x1, .int x2, .null, .null]) (rk := 1) rfl rfl rfl rfl rfl rfl).trans ?_
  refine (ex_aload_n (x := 2) rfl).trans ?_
  refine (ex_iload_n (x := x1) rfl).trans ?_
  refine (ex_iload_n (x := x2) rfl).trans ?_
  refine (ex_inv_i (As := [.ref 2, .int x1, .int x2]) (rest := []) rfl rfl).trans (ex_bnd fun u1 => ?_)
  refine (ex_istore_n (L2 := [.ref 2, .int x1, .int x2, .int u1.1, .null]) rfl).trans ?_
  refine (ex_iload_n (x := u1.1) rfl).trans ?_
  refine (ex_if_ne (p := 14) (q := cp_19_r1) rfl).trans (ex_ite ?_ ?_)
  · refine (ex_bipush).trans ?_
    exact ex_ireturn
  · refine (ex_aload_n (x := 2) rfl).trans ?_
    refine (ex_iload_n (x := u1.1) rfl).trans ?_
    refine (ex_inv_i (As := [.ref 2, .int u1.1]) (rest := []) rfl rfl).trans (ex_bnd fun u2 => ?_)
    refine (ex_istore (L2 := [.ref 2, .int x1, .int x2, .int u1.1, .int u2.1]) rfl).trans ?_
    refine (ex_iload (x := u2.1) rfl).trans ?_
    refine (ex_sta_i (As := [.int u2.1]) (rest := []) (by decide) (by decide) rfl rfl).trans (ex_bnd fun u3 => ?_)
    refine (ex_iconst).trans ?_
    refine (ex_ic_ne (p := 40) (q := cp_19_r2) rfl).trans (ex_ite ?_ ?_)
    · refine (ex_iload (x := u2.1) rfl).trans ?_
      refine (ex_iconst).trans ?_
      refine (ex_isub).trans ?_
      refine (ex_sta_i (As := [.int (u2.1 - (1 : Int32))]) (rest := []) (by decide) (by decide) rfl rfl).trans (ex_bnd fun u4 => ?_)
      refine (ex_goto (p := 42) (q := cp_19_r3) rfl).trans ?_
      exact ex_ireturn
    · refine (ex_bipush).trans ?_
      exact ex_ireturn
-- 20: WiringContainer$BeanTable.candidateSet(II)I
set_option maxRecDepth 100000 in
set_option maxHeartbeats 4000000 in
theorem cp_20_g (d : Nat) (σ : mm_S) (x1 : Int32) (x2 : Int32) : cG (d + 1) 20 [.ref 2, .int x1, .int x2] σ = (mm_ex sc (cG d) 1 cp_20_l (99999996 + 0) cp_20_r1 [.ref 2, .int x1, .int x2, .int (0 : Int32), .int (0 : Int32)] [] σ) := by
  refine (mm_entry 99999996 4 (maxL := 5) (labs := cp_20_l) (rows := cp_20_r0) (L := [.ref 2, .int x1, .int x2, .null, .null]) (rk := 1) rfl rfl rfl rfl rfl rfl).trans ?_
  refine (ex_iconst).trans ?_
  refine (ex_istore_n (L2 := [.ref 2, .int x1, .int x2, .int (0 : Int32), .null]) rfl).trans ?_
  refine (ex_iconst).trans ?_
  refine (ex_istore (L2 := [.ref 2, .int x1, .int x2, .int (0 : Int32), .int (0 : Int32)]) rfl).trans ?_
  exact rfl
set_option maxRecDepth 100000 in
set_option maxHeartbeats 4000000 in
theorem cp_20_h1 (d n : Nat) (σ : mm_S) (x1 : Int32) (x2 : Int32) (x3 : Int32) (x4 : Int32) : mm_ex sc (cG d) 1 cp_20_l (n + 33) cp_20_r1 [.ref 2, .int x1, .int x2, .int x3, .int x4] [] σ = (if (σ.1 2 1) ≤ x4 then (some (x3, 0, σ)) else ((cG d 18 [.ref 2, .int x4] σ).bind fun u1 => (if u1.1 = 0 then (mm_ex sc (cG d) 1 cp_20_l (n + 23) cp_20_r1 [.ref 2, .int x1, .int x2, .int x3, .int (x4 + (1 : Int32))] [] u1.2.2) else ((cG d 23 [.ref 2, .int x4, .int x2] u1.2.2).bind fun u2 => (if u2.1 = 0 then (mm_ex sc (cG d) 1 cp_20_l (n + 18) cp_20_r1 [.ref 2, .int x1, .int x2, .int x3, .int (x4 + (1 : Int32))] [] u2.2.2) else (if mm_in x4 16 then ((cG d 34 [.ref 1, .long (x1).toInt64, .long ((u2.2.2.1 13 (x4).toNatClampNeg)).toInt64, .int (0 : Int32)] u2.2.2).bind fun u3 => (if u3.1 = 0 then (mm_ex sc (cG d) 1 cp_20_l (n + 6) cp_20_r1 [.ref 2, .int x1, .int x2, .int x3, .int (x4 + (1 : Int32))] [] u3.2.2) else (mm_ex sc (cG d) 1 cp_20_l (n + 0) cp_20_r1 [.ref 2, .int x1, .int x2, .int (x3 ||| ((1 : Int32) <<< (x4 &&& 31))), .int (x4 + (1 : Int32))] [] u3.2.2))) else none)))))) := by
  refine (ex_iload (x := x4) rfl).trans ?_
  refine (ex_aload_n (x := 2) rfl).trans ?_
  refine (ex_get (u := .int (σ.1 2 1)) rfl).trans ?_
  refine (ex_ic_ge (p := 67) (q := cp_20_r3) rfl).trans (ex_ite ?_ ?_)
  · refine (ex_iload_n (x := x3) rfl).trans ?_
    exact ex_ireturn
  · refine (ex_aload_n (x := 2) rfl).trans ?_
    refine (ex_iload (x := x4) rfl).trans ?_
    refine (ex_inv_z (As := [.ref 2, .int x4]) (rest := []) rfl rfl).trans (ex_bnd fun u1 => ?_)
    refine (ex_if_eq (p := 61) (q := cp_20_r2) rfl).trans (ex_ite ?_ ?_)
    · refine (ex_iinc (L2 := [.ref 2, .int x1, .int x2, .int x3, .int (x4 + (1 : Int32))]) rfl rfl).trans ?_
      refine (ex_goto (p := 5) (q := cp_20_r1) rfl).trans ?_
      exact rfl
    · refine (ex_aload_n (x := 2) rfl).trans ?_
      refine (ex_iload (x := x4) rfl).trans ?_
      refine (ex_iload_n (x := x2) rfl).trans ?_
      refine (ex_inv_z (As := [.ref 2, .int x4, .int x2]) (rest := []) rfl rfl).trans (ex_bnd fun u2 => ?_)
      refine (ex_if_eq (p := 61) (q := cp_20_r2) rfl).trans (ex_ite ?_ ?_)
      · refine (ex_iinc (L2 := [.ref 2, .int x1, .int x2, .int x3, .int (x4 + (1 : Int32))]) rfl rfl).trans ?_
        refine (ex_goto (p := 5) (q := cp_20_r1) rfl).trans ?_
        exact rfl
      · refine (ex_aload_n (x := 2) rfl).trans ?_
        refine (ex_get (u := .ref 1) rfl).trans ?_
        refine (ex_iload_n (x := x1) rfl).trans ?_
        refine (ex_i2l).trans ?_
        refine (ex_aload_n (x := 2) rfl).trans ?_
        refine (ex_get (u := .ref 13) rfl).trans ?_
        refine (ex_iload (x := x4) rfl).trans ?_
        refine (ex_iaload (z := 16) rfl).trans (ex_ite ?_ rfl)
        refine (ex_i2l).trans ?_
        refine (ex_iconst).trans ?_
        refine (ex_inv_z (As := [.ref 1, .long (x1).toInt64, .long ((u2.2.2.1 13 (x4).toNatClampNeg)).toInt64, .int (0 : Int32)]) (rest := []) rfl rfl).trans (ex_bnd fun u3 => ?_)
        refine (ex_if_eq (p := 61) (q := cp_20_r2) rfl).trans (ex_ite ?_ ?_)
        · refine (ex_iinc (L2 := [.ref 2, .int x1, .int x2, .int x3, .int (x4 + (1 : Int32))]) rfl rfl).trans ?_
          refine (ex_goto (p := 5) (q := cp_20_r1) rfl).trans ?_
          exact rfl
        · refine (ex_iload_n (x := x3) rfl).trans ?_
          refine (ex_iconst).trans ?_
          refine (ex_iload (x := x4) rfl).trans ?_
          refine (ex_ishl).trans ?_
          refine (ex_ior).trans ?_
          refine (ex_istore_n (L2 := [.ref 2, .int x1, .int x2, .int (x3 ||| ((1 : Int32) <<< (x4 &&& 31))), .int x4]) rfl).trans ?_
          refine (ex_iinc (L2 := [.ref 2, .int x1, .int x2, .int (x3 ||| ((1 : Int32) <<< (x4 &&& 31))), .int (x4 + (1 : Int32))]) rfl rfl).trans ?_
          refine (ex_goto (p := 5) (q := cp_20_r1) rfl).trans ?_
          exact rfl
-- 21: WiringContainer$BeanTable.narrow(I)I
set_option maxRecDepth 100000 in
set_option maxHeartbeats 4000000 in
theorem cp_21_g (d : Nat) (σ : mm_S) (x1 : Int32) : cG (d + 1) 21 [.ref 2, .int x1] σ = (mm_ex sc (cG d) 1 cp_21_l (99999994 + 0) cp_21_r1 [.ref 2, .int x1, .int (0 : Int32), .int (0 : Int32), .int (0 : Int32), .null] [] σ) := by
  refine (mm_entry 99999994 6 (maxL := 6) (labs := cp_21_l) (rows := cp_21_r0) (L := [.ref 2, .int x1, .null, .null, .null, .null]) (rk := 1) rfl rfl rfl rfl rfl rfl).trans ?_
  refine (ex_iconst).trans ?_
  refine (ex_istore_n (L2 := [.ref 2, .int x1, .int (0 : Int32), .null, .null, .null]) rfl).trans ?_
  refine (ex_iconst).trans ?_
  refine (ex_istore_n (L2 := [.ref 2, .int x1, .int (0 : Int32), .int (0 : Int32), .null, .null]) rfl).trans ?_
  refine (ex_iconst).trans ?_
  refine (ex_istore (L2 := [.ref 2, .int x1, .int (0 : Int32), .int (0 : Int32), .int (0 : Int32), .null]) rfl).trans ?_
  exact rfl
set_option maxRecDepth 100000 in
set_option maxHeartbeats 4000000 in
theorem cp_21_h1 (d n : Nat) (σ : mm_S) (x1 : Int32) (x2 : Int32) (x3 : Int32) (x4 : Int32) : mm_ex sc (cG d) 1 cp_21_l (n + 33) cp_21_r1 [.ref 2, .int x1, .int x2, .int x3, .int x4, .null] [] σ = (if (σ.1 2 1) ≤ x4 then (some (x3, 0, σ)) else (if ((x1 >>> (x4 &&& 31)) &&& (1 : Int32)) = (1 : Int32) then ((cG d 22 [.ref 2, .int x4] σ).bind fun u1 => (if u1.1 ≤ x2 then (if u1.1 = x2 then (mm_ex sc (cG d) 1 cp_21_l (n + 4) cp_21_r1 [.ref 2, .int x1, .int x2, .int (x3 ||| ((1 : Int32) <<< (x4 &&& 31))), .int (x4 + (1 : Int32)), .int u1.1] [] u1.2.2) else (mm_ex sc (cG d) 1 cp_21_l (n + 10) cp_21_r1 [.ref 2, .int x1, .int x2, .int x3, .int (x4 + (1 : Int32)), .int u1.1] [] u1.2.2)) else (if u1.1 = u1.1 then (mm_ex sc (cG d) 1 cp_21_l (n + 0) cp_21_r1 [.ref 2, .int x1, .int u1.1, .int ((0 : Int32) ||| ((1 : Int32) <<< (x4 &&& 31))), .int (x4 + (1 : Int32)), .int u1.1] [] u1.2.2) else (mm_ex sc (cG d) 1 cp_21_l (n + 6) cp_21_r1 [.ref 2, .int x1, .int u1.1, .int (0 : Int32), .int (x4 + (1 : Int32)), .int u1.1] [] u1.2.2)))) else (mm_ex sc (cG d) 1 cp_21_l (n + 20) cp_21_r1 [.ref 2, .int x1, .int x2, .int x3, .int (x4 + (1 : Int32)), .null] [] σ))) := by
  refine (ex_iload (x := x4) rfl).trans ?_
  refine (ex_aload_n (x := 2) rfl).trans ?_
  refine (ex_get (u := .int (σ.1 2 1)) rfl).trans ?_
  refine (ex_ic_ge (p := 64) (q := cp_21_r4) rfl).trans (ex_ite ?_ ?_)
  · refine (ex_iload_n (x := x3) rfl).trans ?_
    exact ex_ireturn
  · refine (ex_iload_n (x := x1) rfl).trans ?_
    refine (ex_iload (x := x4) rfl).trans ?_
    refine (ex_ishr).trans ?_
    refine (ex_iconst).trans ?_
    refine (ex_iand).trans ?_
    refine (ex_iconst).trans ?_
    refine (ex_ic_ne (p := 58) (q := cp_21_r3) rfl).trans (ex_ite ?_ ?_)
    · refine (ex_aload_n (x := 2) rfl).trans ?_
      refine (ex_iload (x := x4) rfl).trans ?_
      refine (ex_inv_i (As := [.ref 2, .int x4]) (rest := []) rfl rfl).trans (ex_bnd fun u1 => ?_)
      refine (ex_istore (L2 := [.ref 2, .int x1, .int x2, .int x3, .int x4, .int u1.1]) rfl).trans ?_
      refine (ex_iload (x := u1.1) rfl).trans ?_
      refine (ex_iload_n (x := x2) rfl).trans ?_
      refine (ex_ic_le (p := 45) (q := cp_21_r2) rfl).trans (ex_ite ?_ ?_)
      · refine (ex_iload (x := u1.1) rfl).trans ?_
        refine (ex_iload_n (x := x2) rfl).trans ?_
        refine (ex_ic_ne (p := 58) (q := cp_21_r3) rfl).trans (ex_ite ?_ ?_)
        · refine (ex_iload_n (x := x3) rfl).trans ?_
          refine (ex_iconst).trans ?_
          refine (ex_iload (x := x4) rfl).trans ?_
          refine (ex_ishl).trans ?_
          refine (ex_ior).trans ?_
          refine (ex_istore_n (L2 := [.ref 2, .int x1, .int x2, .int (x3 ||| ((1 : Int32) <<< (x4 &&& 31))), .int x4, .int u1.1]) rfl).trans ?_
          refine (ex_iinc (L2 := [.ref 2, .int x1, .int x2, .int (x3 ||| ((1 : Int32) <<< (x4 &&& 31))), .int (x4 + (1 : Int32)), .int u1.1]) rfl rfl).trans ?_
          refine (ex_goto (p := 7) (q := cp_21_r1) rfl).trans ?_
          exact rfl
        · refine (ex_iinc (L2 := [.ref 2, .int x1, .int x2, .int x3, .int (x4 + (1 : Int32)), .int u1.1]) rfl rfl).trans ?_
          refine (ex_goto (p := 7) (q := cp_21_r1) rfl).trans ?_
          exact rfl
      · refine (ex_iload (x := u1.1) rfl).trans ?_
        refine (ex_istore_n (L2 := [.ref 2, .int x1, .int u1.1, .int x3, .int x4, .int u1.1]) rfl).trans ?_
        refine (ex_iconst).trans ?_
        refine (ex_istore_n (L2 := [.ref 2, .int x1, .int u1.1, .int (0 : Int32), .int x4, .int u1.1]) rfl).trans ?_
        refine (ex_iload (x := u1.1) rfl).trans ?_
        refine (ex_iload_n (x := u1.1) rfl).trans ?_
        refine (ex_ic_ne (p := 58) (q := cp_21_r3) rfl).trans (ex_ite ?_ ?_)
        · refine (ex_iload_n (x := (0 : Int32)) rfl).trans ?_
          refine (ex_iconst).trans ?_
          refine (ex_iload (x := x4) rfl).trans ?_
          refine (ex_ishl).trans ?_
          refine (ex_ior).trans ?_
          refine (ex_istore_n (L2 := [.ref 2, .int x1, .int u1.1, .int ((0 : Int32) ||| ((1 : Int32) <<< (x4 &&& 31))), .int x4, .int u1.1]) rfl).trans ?_
          refine (ex_iinc (L2 := [.ref 2, .int x1, .int u1.1, .int ((0 : Int32) ||| ((1 : Int32) <<< (x4 &&& 31))), .int (x4 + (1 : Int32)), .int u1.1]) rfl rfl).trans ?_
          refine (ex_goto (p := 7) (q := cp_21_r1) rfl).trans ?_
          exact rfl
        · refine (ex_iinc (L2 := [.ref 2, .int x1, .int u1.1, .int (0 : Int32), .int (x4 + (1 : Int32)), .int u1.1]) rfl rfl).trans ?_
          refine (ex_goto (p := 7) (q := cp_21_r1) rfl).trans ?_
          exact rfl
    · refine (ex_iinc (L2 := [.ref 2, .int x1, .int x2, .int x3, .int (x4 + (1 : Int32)), .null]) rfl rfl).trans ?_
      refine (ex_goto (p := 7) (q := cp_21_r1) rfl).trans ?_
      exact rfl
-- 22: WiringContainer$BeanTable.rankOf(I)I
set_option maxRecDepth 100000 in
set_option maxHeartbeats 4000000 in
theorem cp_22_g (d : Nat) (σ : mm_S) (x1 : Int32) : cG (d + 1) 22 [.ref 2, .int x1] σ = (if mm_in x1 16 then (if mm_in x1 16 then (if 0 < (σ.1 16 (x1).toNatClampNeg) then (if mm_in x1 16 then (some ((if (σ.1 16 (x1).toNatClampNeg) < (0 : Int32) then (0 : Int32) else (σ.1 16 (x1).toNatClampNeg)), 0, σ)) else none) else ((cG d 1 [.ref 2, .int (σ.1 17 (x1).toNatClampNeg)] σ).bind fun u1 => (if u1.1 = 0 then (if mm_in x1 16 then (some ((if (u1.2.2.1 16 (x1).toNatClampNeg) < (0 : Int32) then (0 : Int32) else (u1.2.2.1 16 (x1).toNatClampNeg)), 0, u1.2.2)) else none) else (if mm_in (σ.1 17 (x1).toNatClampNeg) 16 then (some ((if (u1.2.2.1 16 ((σ.1 17 (x1).toNatClampNeg)).toNatClampNeg) < (0 : Int32) then (0 : Int32) else (u1.2.2.1 16 ((σ.1 17 (x1).toNatClampNeg)).toNatClampNeg)), 0, u1.2.2)) else none)))) else none) else none) := by
  refine (mm_entry 99999979 21 (maxL := 3) (labs := cp_22_l) (rows := cp_22_r0) (L := [.ref 2, .int x1, .null]) (rk := 1) rfl rfl rfl rfl rfl rfl).trans ?_
  refine (ex_aload_n (x := 2) rfl).trans ?_
  refine (ex_get (u := .ref 17) rfl).trans ?_
  refine (ex_iload_n (x := x1) rfl).trans ?_
  refine (ex_iaload (z := 16) rfl).trans (ex_ite ?_ rfl)
  refine (ex_istore_n (L2 := [.ref 2, .int x1, .int (σ.1 17 (x1).toNatClampNeg)]) rfl).trans ?_
  refine (ex_aload_n (x := 2) rfl).trans ?_
  refine (ex_get (u := .ref 16) rfl).trans ?_
  refine (ex_iload_n (x := x1) rfl).trans ?_
  refine (ex_iaload (z := 16) rfl).trans (ex_ite ?_ rfl)
  refine (ex_if_gt (p := 24) (q := cp_22_r1) rfl).trans (ex_ite ?_ ?_)
  · refine (ex_aload_n (x := 2) rfl).trans ?_
    refine (ex_get (u := .ref 16) rfl).trans ?_
    refine (ex_iload_n (x := x1) rfl).trans ?_
    refine (ex_iaload (z := 16) rfl).trans (ex_ite ?_ rfl)
    refine (ex_iconst).trans ?_
    refine (ex_max (by decide)).trans ?_
    exact ex_ireturn
  · refine (ex_aload_n (x := 2) rfl).trans ?_
    refine (ex_iload_n (x := (σ.1 17 (x1).toNatClampNeg)) rfl).trans ?_
    refine (ex_inv_z (As := [.ref 2, .int (σ.1 17 (x1).toNatClampNeg)]) (rest := []) rfl rfl).trans (ex_bnd fun u1 => ?_)
    refine (ex_if_ne (p := 35) (q := cp_22_r2) rfl).trans (ex_ite ?_ ?_)
    · refine (ex_aload_n (x := 2) rfl).trans ?_
      refine (ex_get (u := .ref 16) rfl).trans ?_
      refine (ex_iload_n (x := x1) rfl).trans ?_
      refine (ex_iaload (z := 16) rfl).trans (ex_ite ?_ rfl)
      refine (ex_iconst).trans ?_
      refine (ex_max (by decide)).trans ?_
      exact ex_ireturn
    · refine (ex_aload_n (x := 2) rfl).trans ?_
      refine (ex_get (u := .ref 16) rfl).trans ?_
      refine (ex_iload_n (x := (σ.1 17 (x1).toNatClampNeg)) rfl).trans ?_
      refine (ex_iaload (z := 16) rfl).trans (ex_ite ?_ rfl)
      refine (ex_iconst).trans ?_
      refine (ex_max (by decide)).trans ?_
      exact ex_ireturn
-- 23: WiringContainer$BeanTable.carries(II)Z
set_option maxRecDepth 100000 in
set_option maxHeartbeats 4000000 in
theorem cp_23_g (d : Nat) (σ : mm_S) (x1 : Int32) (x2 : Int32) : cG (d + 1) 23 [.ref 2, .int x1, .int x2] σ = (if x2 = (-1 : Int32) then (some ((1 : Int32), 0, σ)) else (if x2 = 0 then (mm_ex sc (cG d) 3 cp_23_l (99999993 + 0) cp_23_r3 [.ref 2, .int x1, .int x2, .null, .null, .null, .null, .null] [.int (8 : Int32)] σ) else (mm_ex sc (cG d) 3 cp_23_l (99999993 + 1) cp_23_r3 [.ref 2, .int x1, .int x2, .null, .null, .null, .null, .null] [.int x2] σ))) := by
  refine (mm_entry 99999993 7 (maxL := 8) (labs := cp_23_l) (rows := cp_23_r0) (L := [.ref 2, .int x1, .int x2, .null, .null, .null, .null, .null]) (rk := 3) rfl rfl rfl rfl rfl rfl).trans ?_
  refine (ex_iload_n (x := x2) rfl).trans ?_
  refine (ex_iconst).trans ?_
  refine (ex_ic_ne (p := 7) (q := cp_23_r1) rfl).trans (ex_ite ?_ ?_)
  · refine (ex_iconst).trans ?_
    exact ex_zreturn1
  · refine (ex_iload_n (x := x2) rfl).trans ?_
    refine (ex_if_ne (p := 16) (q := cp_23_r2) rfl).trans (ex_ite ?_ ?_)
    · refine (ex_bipush).trans ?_
      refine (ex_goto (p := 17) (q := cp_23_r3) rfl).trans ?_
      exact rfl
    · refine (ex_iload_n (x := x2) rfl).trans ?_
      exact rfl
set_option maxRecDepth 100000 in
set_option maxHeartbeats 4000000 in
theorem cp_23_h3 (d n : Nat) (σ : mm_S) (x1 : Int32) (x2 : Int32) (xs0 : Int32) : mm_ex sc (cG d) 3 cp_23_l (n + 3) cp_23_r3 [.ref 2, .int x1, .int x2, .null, .null, .null, .null, .null] [.int xs0] σ = (mm_ex sc (cG d) 3 cp_23_l (n + 0) cp_23_r4 [.ref 2, .int x1, .int x2, .int xs0, .int (0 : Int32), .null, .null, .null] [] σ) := by
  refine (ex_istore_n (L2 := [.ref 2, .int x1, .int x2, .int xs0, .null, .null, .null, .null]) rfl).trans ?_
  refine (ex_iconst).trans ?_
  refine (ex_istore (L2 := [.ref 2, .int x1, .int x2, .int xs0, .int (0 : Int32), .null, .null, .null]) rfl).trans ?_
  exact rfl
set_option maxRecDepth 100000 in
set_option maxHeartbeats 4000000 in
theorem cp_23_h4 (d n : Nat) (σ : mm_S) (x1 : Int32) (x2 : Int32) (x3 : Int32) (x4 : Int32) : mm_ex sc (cG d) 3 cp_23_l (n + 31) cp_23_r4 [.ref 2, .int x1, .int x2, .int x3, .int x4, .null, .null, .null] [] σ = (if (5 : Int32) ≤ x4 then (some ((1 : Int32), 0, σ)) else ((cG d 91 [.int x3, .int x4] σ).bind fun u1 => (if mm_in x1 16 then ((cG d 91 [.int (u1.2.2.1 14 (x1).toNatClampNeg), .int x4] u1.2.2).bind fun u2 => (if u2.1 = u1.1 then (if u1.1 = 0 then (mm_ex sc (cG d) 3 cp_23_l (n + 7) cp_23_r4 [.ref 2, .int x1, .int x2, .int x3, .int (x4 + (1 : Int32)), .int u1.1, .int u2.1, .int (1 : Int32)] [] u2.2.2) else (mm_ex sc (cG d) 3 cp_23_l (n + 5) cp_23_r4 [.ref 2, .int x1, .int x2, .int x3, .int (x4 + (1 : Int32)), .int u1.1, .int u2.1, .int (1 : Int32)] [] u2.2.2)) else (if u2.1 = 0 then (if u1.1 = 0 then (mm_ex sc (cG d) 3 cp_23_l (n + 6) cp_23_r4 [.ref 2, .int x1, .int x2, .int x3, .int (x4 + (1 : Int32)), .int u1.1, .int u2.1, .int (0 : Int32)] [] u2.2.2) else (some ((0 : Int32), 0, u2.2.2))) else (if x4 = (4 : Int32) then (if u1.1 = 0 then (mm_ex sc (cG d) 3 cp_23_l (n + 2) cp_23_r4 [.ref 2, .int x1, .int x2, .int x3, .int (x4 + (1 : Int32)), .int u1.1, .int u2.1, .int (1 : Int32)] [] u2.2.2) else (mm_ex sc (cG d) 3 cp_23_l (n + 0) cp_23_r4 [.ref 2, .int x1, .int x2, .int x3, .int (x4 + (1 : Int32)), .int u1.1, .int u2.1, .int (1 : Int32)] [] u2.2.2)) else (if u1.1 = 0 then (mm_ex sc (cG d) 3 cp_23_l (n + 3) cp_23_r4 [.ref 2, .int x1, .int x2, .int x3, .int (x4 + (1 : Int32)), .int u1.1, .int u2.1, .int (0 : Int32)] [] u2.2.2) else (some ((0 : Int32), 0, u2.2.2))))))) else none))) := by
  refine (ex_iload (x := x4) rfl).trans ?_
  refine (ex_iconst).trans ?_
  refine (ex_ic_ge (p := 91) (q := cp_23_r9) rfl).trans (ex_ite ?_ ?_)
  · refine (ex_iconst).trans ?_
    exact ex_zreturn1
  · refine (ex_iload_n (x := x3) rfl).trans ?_
    refine (ex_iload (x := x4) rfl).trans ?_
    refine (ex_sta_i (As := [.int x3, .int x4]) (rest := []) (by decide) (by decide) rfl rfl).trans (ex_bnd fun u1 => ?_)
    refine (ex_istore (L2 := [.ref 2, .int x1, .int x2, .int x3, .int x4, .int u1.1, .null, .null]) rfl).trans ?_
    refine (ex_aload_n (x := 2) rfl).trans ?_
    refine (ex_get (u := .ref 14) rfl).trans ?_
    refine (ex_iload_n (x := x1) rfl).trans ?_
    refine (ex_iaload (z := 16) rfl).trans (ex_ite ?_ rfl)
    refine (ex_iload (x := x4) rfl).trans ?_
    refine (ex_sta_i (As := [.int (u1.2.2.1 14 (x1).toNatClampNeg), .int x4]) (rest := []) (by decide) (by decide) rfl rfl).trans (ex_bnd fun u2 => ?_)
    refine (ex_istore (L2 := [.ref 2, .int x1, .int x2, .int x3, .int x4, .int u1.1, .int u2.1, .null]) rfl).trans ?_
    refine (ex_iload (x := u2.1) rfl).trans ?_
    refine (ex_iload (x := u1.1) rfl).trans ?_
    refine (ex_ic_eq (p := 66) (q := cp_23_r5) rfl).trans (ex_ite ?_ ?_)
    · refine (ex_iconst).trans ?_
      refine (ex_goto (p := 71) (q := cp_23_r7) rfl).trans ?_
      refine (ex_istore (L2 := [.ref 2, .int x1, .int x2, .int x3, .int x4, .int u1.1, .int u2.1, .int (1 : Int32)]) rfl).trans ?_
      refine (ex_iload (x := u1.1) rfl).trans ?_
      refine (ex_if_eq (p := 85) (q := cp_23_r8) rfl).trans (ex_ite ?_ ?_)
      · refine (ex_iinc (L2 := [.ref 2, .int x1, .int x2, .int x3, .int (x4 + (1 : Int32)), .int u1.1, .int u2.1, .int (1 : Int32)]) rfl rfl).trans ?_
        refine (ex_goto (p := 21) (q := cp_23_r4) rfl).trans ?_
        exact rfl
      · refine (ex_iload (x := (1 : Int32)) rfl).trans ?_
        refine (ex_if_ne (p := 85) (q := cp_23_r8) rfl).trans (ex_f (by decide) ?_)
        refine (ex_iinc (L2 := [.ref 2, .int x1, .int x2, .int x3, .int (x4 + (1 : Int32)), .int u1.1, .int u2.1, .int (1 : Int32)]) rfl rfl).trans ?_
        refine (ex_goto (p := 21) (q := cp_23_r4) rfl).trans ?_
        exact rfl
    · refine (ex_iload (x := u2.1) rfl).trans ?_
      refine (ex_if_eq (p := 70) (q := cp_23_r6) rfl).trans (ex_ite ?_ ?_)
      · refine (ex_iconst).trans ?_
        refine (ex_istore (L2 := [.ref 2, .int x1, .int x2, .int x3, .int x4, .int u1.1, .int u2.1, .int (0 : Int32)]) rfl).trans ?_
        refine (ex_iload (x := u1.1) rfl).trans ?_
        refine (ex_if_eq (p := 85) (q := cp_23_r8) rfl).trans (ex_ite ?_ ?_)
        · refine (ex_iinc (L2 := [.ref 2, .int x1, .int x2, .int x3, .int (x4 + (1 : Int32)), .int u1.1, .int u2.1, .int (0 : Int32)]) rfl rfl).trans ?_
          refine (ex_goto (p := 21) (q := cp_23_r4) rfl).trans ?_
          exact rfl
        · refine (ex_iload (x := (0 : Int32)) rfl).trans ?_
          refine (ex_if_ne (p := 85) (q := cp_23_r8) rfl).trans (ex_t (by decide) ?_)
          refine (ex_iconst).trans ?_
          exact ex_zreturn0
      · refine (ex_iload (x := x4) rfl).trans ?_
        refine (ex_iconst).trans ?_
        refine (ex_ic_ne (p := 70) (q := cp_23_r6) rfl).trans (ex_ite ?_ ?_)
        · refine (ex_iconst).trans ?_
          refine (ex_goto (p := 71) (q := cp_23_r7) rfl).trans ?_
          refine (ex_istore (L2 := [.ref 2, .int x1, .int x2, .int x3, .int x4, .int u1.1, .int u2.1, .int (1 : Int32)]) rfl).trans ?_
          refine (ex_iload (x := u1.1) rfl).trans ?_
          refine (ex_if_eq (p := 85) (q := cp_23_r8) rfl).trans (ex_ite ?_ ?_)
          · refine (ex_iinc (L2 := [.ref 2, .int x1, .int x2, .int x3, .int (x4 + (1 : Int32)), .int u1.1, .int u2.1, .int (1 : Int32)]) rfl rfl).trans ?_
            refine (ex_goto (p := 21) (q := cp_23_r4) rfl).trans ?_
            exact rfl
          · refine (ex_iload (x := (1 : Int32)) rfl).trans ?_
            refine (ex_if_ne (p := 85) (q := cp_23_r8) rfl).trans (ex_f (by decide) ?_)
            refine (ex_iinc (L2 := [.ref 2, .int x1, .int x2, .int x3, .int (x4 + (1 : Int32)), .int u1.1, .int u2.1, .int (1 : Int32)]) rfl rfl).trans ?_
            refine (ex_goto (p := 21) (q := cp_23_r4) rfl).trans ?_
            exact rfl
        · refine (ex_iconst).trans ?_
          refine (ex_istore (L2 := [.ref 2, .int x1, .int x2, .int x3, .int x4, .int u1.1, .int u2.1, .int (0 : Int32)]) rfl).trans ?_
          refine (ex_iload (x := u1.1) rfl).trans ?_
          refine (ex_if_eq (p := 85) (q := cp_23_r8) rfl).trans (ex_ite ?_ ?_)
          · refine (ex_iinc (L2 := [.ref 2, .int x1, .int x2, .int x3, .int (x4 + (1 : Int32)), .int u1.1, .int u2.1, .int (0 : Int32)]) rfl rfl).trans ?_
            refine (ex_goto (p := 21) (q := cp_23_r4) rfl).trans ?_
            exact rfl
          · refine (ex_iload (x := (0 : Int32)) rfl).trans ?_
            refine (ex_if_ne (p := 85) (q := cp_23_r8) rfl).trans (ex_t (by decide) ?_)
            refine (ex_iconst).trans ?_
            exact ex_zreturn0
-- 24: WiringContainer$ClassTable.isFull()Z
set_option maxRecDepth 100000 in
set_option maxHeartbeats 4000000 in
theorem cp_24_g (d : Nat) (σ : mm_S) : cG (d + 1) 24 [.ref 1] σ = (if (σ.1 1 0) < (13 : Int32) then (some ((0 : Int32), 0, σ)) else (some ((1 : Int32), 0, σ))) := by
  refine (mm_entry 99999993 7 (maxL := 1) (labs := cp_24_l) (rows := cp_24_r0) (L := [.ref 1]) (rk := 3) rfl rfl rfl rfl rfl rfl).trans ?_
  refine (ex_aload_n (x := 1) rfl).trans ?_
  refine (ex_get (u := .int (σ.1 1 0)) rfl).trans ?_
  refine (ex_bipush).trans ?_
  refine (ex_ic_lt (p := 13) (q := cp_24_r1) rfl).trans (ex_ite ?_ ?_)
  · refine (ex_iconst).trans ?_
    exact ex_zreturn0
  · refine (ex_iconst).trans ?_
    refine (ex_goto (p := 14) (q := cp_24_r2) rfl).trans ?_
    exact ex_zreturn1
-- 25: WiringContainer$ClassTable.isClass(I)Z
set_option maxRecDepth 100000 in
set_option maxHeartbeats 4000000 in
theorem cp_25_g (d : Nat) (σ : mm_S) (x1 : Int32) : cG (d + 1) 25 [.ref 1, .int x1] σ = (if x1 < (1 : Int32) then (some ((0 : Int32), 0, σ)) else (if (σ.1 1 0) < x1 then (some ((0 : Int32), 0, σ)) else (some ((1 : Int32), 0, σ)))) := by
  refine (mm_entry 99999990 10 (maxL := 2) (labs := cp_25_l) (rows := cp_25_r0) (L := [.ref 1, .int x1]) (rk := 3) rfl rfl rfl rfl rfl rfl).trans ?_
  refine (ex_iload_n (x := x1) rfl).trans ?_
  refine (ex_iconst).trans ?_
  refine (ex_ic_lt (p := 17) (q := cp_25_r1) rfl).trans (ex_ite ?_ ?_)
  · refine (ex_iconst).trans ?_
    exact ex_zreturn0
  · refine (ex_iload_n (x := x1) rfl).trans ?_
    refine (ex_aload_n (x := 1) rfl).trans ?_
    refine (ex_get (u := .int (σ.1 1 0)) rfl).trans ?_
    refine (ex_ic_gt (p := 17) (q := cp_25_r1) rfl).trans (ex_ite ?_ ?_)
    · refine (ex_iconst).trans ?_
      exact ex_zreturn0
    · refine (ex_iconst).trans ?_
      refine (ex_goto (p := 18) (q := cp_25_r2) rfl).trans ?_
      exact ex_zreturn1
-- 26: WiringContainer$ClassTable.isHeadClosed(I)Z
set_option maxRecDepth 100000 in
set_option maxHeartbeats 4000000 in
theorem cp_26_g (d : Nat) (σ : mm_S) (x1 : Int32) : cG (d + 1) 26 [.ref 1, .int x1] σ = (if mm_in (x1 &&& (31 : Int32)) 32 then (if (σ.1 7 ((x1 &&& (31 : Int32))).toNatClampNeg) = 0 ∨ (σ.1 7 ((x1 &&& (31 : Int32))).toNatClampNeg) = 1 then some ((σ.1 7 ((x1 &&& (31 : Int32))).toNatClampNeg), 0, σ) else none) else none) := by
  refine (mm_entry 99999993 7 (maxL := 2) (labs := cp_26_l) (rows := cp_26_r0) (L := [.ref 1, .int x1]) (rk := 3) rfl rfl rfl rfl rfl rfl).trans ?_
  refine (ex_aload_n (x := 1) rfl).trans ?_
  refine (ex_get (u := .ref 7) rfl).trans ?_
  refine (ex_iload_n (x := x1) rfl).trans ?_
  refine (ex_bipush).trans ?_
  refine (ex_iand).trans ?_
  refine (ex_baload (z := 32) rfl).trans (ex_ite ?_ rfl)
  exact ex_zreturn
-- 27: WiringContainer$ClassTable.isParentCode(IZ)Z
set_option maxRecDepth 100000 in
set_option maxHeartbeats 4000000 in
theorem cp_27_g (d : Nat) (σ : mm_S) (x1 : Int32) (x2 : Int32) : cG (d + 1) 27 [.ref 1, .int x1, .int x2] σ = ((cG d 38 [.ref 1, .int x1, .int (3 : Int32), .int (0 : Int32), .int x2] σ).bind fun u1 => (if u1.1 = 0 then (some ((0 : Int32), 0, u1.2.2)) else (if (x1 &&& (31 : Int32)) = (1 : Int32) then (some ((0 : Int32), 0, u1.2.2)) else (if mm_in (x1 &&& (31 : Int32)) 32 then (if (u1.2.2.1 7 ((x1 &&& (31 : Int32))).toNatClampNeg) = 0 then (some ((1 : Int32), 0, u1.2.2)) else (some ((0 : Int32), 0, u1.2.2))) else none)))) := by
  refine (mm_entry 99999978 22 (maxL := 4) (labs := cp_27_l) (rows := cp_27_r0) (L := [.ref 1, .int x1, .int x2, .null]) (rk := 3) rfl rfl rfl rfl rfl rfl).trans ?_
  refine (ex_iload_n (x := x1) rfl).trans ?_
  refine (ex_bipush).trans ?_
  refine (ex_iand).trans ?_
  refine (ex_istore_n (L2 := [.ref 1, .int x1, .int x2, .int (x1 &&& (31 : Int32))]) rfl).trans ?_
  refine (ex_aload_n (x := 1) rfl).trans ?_
  refine (ex_iload_n (x := x1) rfl).trans ?_
  refine (ex_iconst).trans ?_
  refine (ex_iconst).trans ?_
  refine (ex_iload_n (x := x2) rfl).trans ?_
  refine (ex_inv_z (As := [.ref 1, .int x1, .int (3 : Int32), .int (0 : Int32), .int x2]) (rest := []) rfl rfl).trans (ex_bnd fun u1 => ?_)
  refine (ex_if_eq (p := 34) (q := cp_27_r1) rfl).trans (ex_ite ?_ ?_)
  · refine (ex_iconst).trans ?_
    exact ex_zreturn0
  · refine (ex_iload_n (x := (x1 &&& (31 : Int32))) rfl).trans ?_
    refine (ex_iconst).trans ?_
    refine (ex_ic_eq (p := 34) (q := cp_27_r1) rfl).trans (ex_ite ?_ ?_)
    · refine (ex_iconst).trans ?_
      exact ex_zreturn0
    · refine (ex_aload_n (x := 1) rfl).trans ?_
      refine (ex_get (u := .ref 7) rfl).trans ?_
      refine (ex_iload_n (x := (x1 &&& (31 : Int32))) rfl).trans ?_
      refine (ex_baload (z := 32) rfl).trans (ex_ite ?_ rfl)
      refine (ex_if_ne (p := 34) (q := cp_27_r1) rfl).trans (ex_ite ?_ ?_)
      · refine (ex_iconst).trans ?_
        refine (ex_goto (p := 35) (q := cp_27_r2) rfl).trans ?_
        exact ex_zreturn1
      · refine (ex_iconst).trans ?_
        exact ex_zreturn0
-- 28: WiringContainer$ClassTable.isProductCode(I)Z
set_option maxRecDepth 100000 in
set_option maxHeartbeats 4000000 in
theorem cp_28_g (d : Nat) (σ : mm_S) (x1 : Int32) : cG (d + 1) 28 [.ref 1, .int x1] σ = ((cG d 38 [.ref 1, .int x1, .int (4 : Int32), .int (0 : Int32), .int (1 : Int32)] σ).bind fun u1 => (if u1.1 = 0 ∨ u1.1 = 1 then some (u1.1, 0, u1.2.2) else none)) := by
  refine (mm_entry 99999993 7 (maxL := 2) (labs := cp_28_l) (rows := cp_28_r0) (L := [.ref 1, .int x1]) (rk := 3) rfl rfl rfl rfl rfl rfl).trans ?_
  refine (ex_aload_n (x := 1) rfl).trans ?_
  refine (ex_iload_n (x := x1) rfl).trans ?_
  refine (ex_iconst).trans ?_
  refine (ex_iconst).trans ?_
  refine (ex_iconst).trans ?_
  refine (ex_inv_z (As := [.ref 1, .int x1, .int (4 : Int32), .int (0 : Int32), .int (1 : Int32)]) (rest := []) rfl rfl).trans (ex_bnd fun u1 => ?_)
  exact ex_zreturn
-- 29: WiringContainer$ClassTable.isRequiredCode(I)Z
set_option maxRecDepth 100000 in
set_option maxHeartbeats 4000000 in
theorem cp_29_g (d : Nat) (σ : mm_S) (x1 : Int32) : cG (d + 1) 29 [.ref 1, .int x1] σ = ((cG d 38 [.ref 1, .int x1, .int (6 : Int32), .int (1 : Int32), .int (0 : Int32)] σ).bind fun u1 => (if u1.1 = 0 ∨ u1.1 = 1 then some (u1.1, 0, u1.2.2) else none)) := by
  refine (mm_entry 99999993 7 (maxL := 2) (labs := cp_29_l) (rows := cp_29_r0) (L := [.ref 1, .int x1]) (rk := 3) rfl rfl rfl rfl rfl rfl).trans ?_
  refine (ex_aload_n (x := 1) rfl).trans ?_
  refine (ex_iload_n (x := x1) rfl).trans ?_
  refine (ex_bipush).trans ?_
  refine (ex_iconst).trans ?_
  refine (ex_iconst).trans ?_
  refine (ex_inv_z (As := [.ref 1, .int x1, .int (6 : Int32), .int (1 : Int32), .int (0 : Int32)]) (rest := []) rfl rfl).trans (ex_bnd fun u1 => ?_)
  exact ex_zreturn
-- 30: WiringContainer$ClassTable.levelBelow(II)I
set_option maxRecDepth 100000 in
set_option maxHeartbeats 4000000 in
theorem cp_30_g (d : Nat) (σ : mm_S) (x1 : Int32) (x2 : Int32) : cG (d + 1) 30 [.ref 1, .int x1, .int x2] σ = (if x1 = 0 then (if x2 = 0 then (some ((if (0 : Int32) < (0 : Int32) then (0 : Int32) else (0 : Int32)), 0, σ)) else (if mm_in (x2 &&& (31 : Int32)) 32 then (some ((if (0 : Int32) < ((σ.1 8 ((x2 &&& (31 : Int32))).toNatClampNeg) + (1 : Int32)) then ((σ.1 8 ((x2 &&& (31 : Int32))).toNatClampNeg) + (1 : Int32)) else (0 : Int32)), 0, σ)) else none)) else (if mm_in (x1 &&& (31 : Int32)) 32 then (if x2 = 0 then (some ((if ((σ.1 8 ((x1 &&& (31 : Int32))).toNatClampNeg) + (1 : Int32)) < (0 : Int32) then (0 : Int32) else ((σ.1 8 ((x1 &&& (31 : Int32))).toNatClampNeg) + (1 : Int32))), 0, σ)) else (if mm_in (x2 &&& (31 : Int32)) 32 then (some ((if ((σ.1 8 ((x1 &&& (31 : Int32))).toNatClampNeg) + (1 : Int32)) < ((σ.1 8 ((x2 &&& (31 : Int32))).toNatClampNeg) + (1 : Int32)) then ((σ.1 8 ((x2 &&& (31 : Int32))).toNatClampNeg) + (1 : Int32)) else ((σ.1 8 ((x1 &&& (31 : Int32))).toNatClampNeg) + (1 : Int32))), 0, σ)) else none)) else none)) := by
  refine (mm_entry 99999974 26 (maxL := 5) (labs := cp_30_l) (rows := cp_30_r0) (L := [.ref 1, .int x1, .int x2, .null, .null]) (rk := 1) rfl rfl rfl rfl rfl rfl).trans ?_
  refine (ex_iload_n (x := x1) rfl).trans ?_
  refine (ex_if_ne (p := 8) (q := cp_30_r1) rfl).trans (ex_ite ?_ ?_)
  · refine (ex_iconst).trans ?_
    refine (ex_goto (p := 19) (q := cp_30_r2) rfl).trans ?_
    refine (ex_istore_n (L2 := [.ref 1, .int x1, .int x2, .int (0 : Int32), .null]) rfl).trans ?_
    refine (ex_iload_n (x := x2) rfl).trans ?_
    refine (ex_if_ne (p := 28) (q := cp_30_r3) rfl).trans (ex_ite ?_ ?_)
    · refine (ex_iconst).trans ?_
      refine (ex_goto (p := 39) (q := cp_30_r4) rfl).trans ?_
      refine (ex_istore (L2 := [.ref 1, .int x1, .int x2, .int (0 : Int32), .int (0 : Int32)]) rfl).trans ?_
      refine (ex_iload_n (x := (0 : Int32)) rfl).trans ?_
      refine (ex_iload (x := (0 : Int32)) rfl).trans ?_
      refine (ex_max (by decide)).trans ?_
      exact ex_ireturn
    · refine (ex_aload_n (x := 1) rfl).trans ?_
      refine (ex_get (u := .ref 8) rfl).trans ?_
      refine (ex_iload_n (x := x2) rfl).trans ?_
      refine (ex_bipush).trans ?_
      refine (ex_iand).trans ?_
      refine (ex_iaload (z := 32) rfl).trans (ex_ite ?_ rfl)
      refine (ex_iconst).trans ?_
      refine (ex_iadd).trans ?_
      refine (ex_istore (L2 := [.ref 1, .int x1, .int x2, .int (0 : Int32), .int ((σ.1 8 ((x2 &&& (31 : Int32))).toNatClampNeg) + (1 : Int32))]) rfl).trans ?_
      refine (ex_iload_n (x := (0 : Int32)) rfl).trans ?_
      refine (ex_iload (x := ((σ.1 8 ((x2 &&& (31 : Int32))).toNatClampNeg) + (1 : Int32))) rfl).trans ?_
      refine (ex_max (by decide)).trans ?_
      exact ex_ireturn
  · refine (ex_aload_n (x := 1) rfl).trans ?_
    refine (ex_get (u := .ref 8) rfl).trans ?_
    refine (ex_iload_n (x := x1) rfl).trans ?_
    refine (ex_bipush).trans ?_
    refine (ex_iand).trans ?_
    refine (ex_iaload (z := 32) rfl).trans (ex_ite ?_ rfl)
    refine (ex_iconst).trans ?_
    refine (ex_iadd).trans ?_
    refine (ex_istore_n (L2 := [.ref 1, .int x1, .int x2, .int ((σ.1 8 ((x1 &&& (31 : Int32))).toNatClampNeg) + (1 : Int32)), .null]) rfl).trans ?_
    refine (ex_iload_n (x := x2) rfl).trans ?_
    refine (ex_if_ne (p := 28) (q := cp_30_r3) rfl).trans (ex_ite ?_ ?_)
    · refine (ex_iconst).trans ?_
      refine (ex_goto (p := 39) (q := cp_30_r4) rfl).trans ?_
      refine (ex_istore (L2 := [.ref 1, .int x1, .int x2, .int ((σ.1 8 ((x1 &&& (31 : Int32))).toNatClampNeg) + (1 : Int32)), .int (0 : Int32)]) rfl).trans ?_
      refine (ex_iload_n (x := ((σ.1 8 ((x1 &&& (31 : Int32))).toNatClampNeg) + (1 : Int32))) rfl).trans ?_
      refine (ex_iload (x := (0 : Int32)) rfl).trans ?_
      refine (ex_max (by decide)).trans ?_
      exact ex_ireturn
    · refine (ex_aload_n (x := 1) rfl).trans ?_
      refine (ex_get (u := .ref 8) rfl).trans ?_
      refine (ex_iload_n (x := x2) rfl).trans ?_
      refine (ex_bipush).trans ?_
      refine (ex_iand).trans ?_
      refine (ex_iaload (z := 32) rfl).trans (ex_ite ?_ rfl)
      refine (ex_iconst).trans ?_
      refine (ex_iadd).trans ?_
      refine (ex_istore (L2 := [.ref 1, .int x1, .int x2, .int ((σ.1 8 ((x1 &&& (31 : Int32))).toNatClampNeg) + (1 : Int32)), .int ((σ.1 8 ((x2 &&& (31 : Int32))).toNatClampNeg) + (1 : Int32))]) rfl).trans ?_
      refine (ex_iload_n (x := ((σ.1 8 ((x1 &&& (31 : Int32))).toNatClampNeg) + (1 : Int32))) rfl).trans ?_
      refine (ex_iload (x := ((σ.1 8 ((x2 &&& (31 : Int32))).toNatClampNeg) + (1 : Int32))) rfl).trans ?_
      refine (ex_max (by decide)).trans ?_
      exact ex_ireturn
-- 31: WiringContainer$ClassTable.add(IIZZ)I
set_option maxRecDepth 100000 in
set_option maxHeartbeats 4000000 in
theorem cp_31_g (d : Nat) (σ : mm_S) (x1 : Int32) (x2 : Int32) (x3 : Int32) (x4 : Int32) : cG (d + 1) 31 [.ref 1, .int x1, .int x2, .int x3, .int x4] σ = ((cG d 24 [.ref 1] σ).bind fun u1 => (if u1.1 = 0 then (if mm_in ((mm_w u1.2.2.1 1 0 ((u1.2.2.1 1 0) + (1 : Int32))) 1 0) 32 then (if x3 = 0 ∨ x3 = 1 then (if mm_in ((mm_w (mm_w u1.2.2.1 1 0 ((u1.2.2.1 1 0) + (1 : Int32))) 6 (((mm_w u1.2.2.1 1 0 ((u1.2.2.1 1 0) + (1 : Int32))) 1 0)).toNatClampNeg x3) 1 0) 32 then (if x4 = 0 ∨ x4 = 1 then ((cG d 30 [.ref 1, .int x1, .int x2] ((mm_w (mm_w (mm_w u1.2.2.1 1 0 ((u1.2.2.1 1 0) + (1 : Int32))) 6 (((mm_w u1.2.2.1 1 0 ((u1.2.2.1 1 0) + (1 : Int32))) 1 0)).toNatClampNeg x3) 7 (((mm_w (mm_w u1.2.2.1 1 0 ((u1.2.2.1 1 0) + (1 : Int32))) 6 (((mm_w u1.2.2.1 1 0 ((u1.2.2.1 1 0) + (1 : Int32))) 1 0)).toNatClampNeg x3) 1 0)).toNatClampNeg x4), u1.2.2.2)).bind fun u2 => (if mm_in ((mm_w (mm_w (mm_w u1.2.2.1 1 0 ((u1.2.2.1 1 0) + (1 : Int32))) 6 (((mm_w u1.2.2.1 1 0 ((u1.2.2.1 1 0) + (1 : Int32))) 1 0)).toNatClampNeg x3) 7 (((mm_w (mm_w u1.2.2.1 1 0 ((u1.2.2.1 1 0) + (1 : Int32))) 6 (((mm_w u1.2.2.1 1 0 ((u1.2.2.1 1 0) + (1 : Int32))) 1 0)).toNatClampNeg x3) 1 0)).toNatClampNeg x4) 1 0) 32 then (if mm_in ((mm_w u2.2.2.1 8 (((mm_w (mm_w (mm_w u1.2.2.1 1 0 ((u1.2.2.1 1 0) + (1 : Int32))) 6 (((mm_w u1.2.2.1 1 0 ((u1.2.2.1 1 0) + (1 : Int32))) 1 0)).toNatClampNeg x3) 7 (((mm_w (mm_w u1.2.2.1 1 0 ((u1.2.2.1 1 0) + (1 : Int32))) 6 (((mm_w u1.2.2.1 1 0 ((u1.2.2.1 1 0) + (1 : Int32))) 1 0)).toNatClampNeg x3) 1 0)).toNatClampNeg x4) 1 0)).toNatClampNeg u2.1) 1 0) 32 then (if mm_in ((mm_w (mm_w u2.2.2.1 8 (((mm_w (mm_w (mm_w u1.2.2.1 1 0 ((u1.2.2.1 1 0) + (1 : Int32))) 6 (((mm_w u1.2.2.1 1 0 ((u1.2.2.1 1 0) + (1 : Int32))) 1 0)).toNatClampNeg x3) 7 (((mm_w (mm_w u1.2.2.1 1 0 ((u1.2.2.1 1 0) + (1 : Int32))) 6 (((mm_w u1.2.2.1 1 0 ((u1.2.2.1 1 0) + (1 : Int32))) 1 0)).toNatClampNeg x3) 1 0)).toNatClampNeg x4) 1 0)).toNatClampNeg u2.1) 9 (((mm_w u2.2.2.1 8 (((mm_w (mm_w (mm_w u1.2.2.1 1 0 ((u1.2.2.1 1 0) + (1 : Int32))) 6 (((mm_w u1.2.2.1 1 0 ((u1.2.2.1 1 0) + (1 : Int32))) 1 0)).toNatClampNeg x3) 7 (((mm_w (mm_w u1.2.2.1 1 0 ((u1.2.2.1 1 0) + (1 : Int32))) 6 (((mm_w u1.2.2.1 1 0 ((u1.2.2.1 1 0) + (1 : Int32))) 1 0)).toNatClampNeg x3) 1 0)).toNatClampNeg x4) 1 0)).toNatClampNeg u2.1) 1 0)).toNatClampNeg x1) 1 0) 32 then (if mm_in (x1 &&& (31 : Int32)) 32 then (if mm_in (x2 &&& (31 : Int32)) 32 then (if mm_in ((mm_w (mm_w (mm_w u2.2.2.1 8 (((mm_w (mm_w (mm_w u1.2.2.1 1 0 ((u1.2.2.1 1 0) + (1 : Int32))) 6 (((mm_w u1.2.2.1 1 0 ((u1.2.2.1 1 0) + (1 : Int32))) 1 0)).toNatClampNeg x3) 7 (((mm_w (mm_w u1.2.2.1 1 0 ((u1.2.2.1 1 0) + (1 : Int32))) 6 (((mm_w u1.2.2.1 1 0 ((u1.2.2.1 1 0) + (1 : Int32))) 1 0)).toNatClampNeg x3) 1 0)).toNatClampNeg x4) 1 0)).toNatClampNeg u2.1) 9 (((mm_w u2.2.2.1 8 (((mm_w (mm_w (mm_w u1.2.2.1 1 0 ((u1.2.2.1 1 0) + (1 : Int32))) 6 (((mm_w u1.2.2.1 1 0 ((u1.2.2.1 1 0) + (1 : Int32))) 1 0)).toNatClampNeg x3) 7 (((mm_w (mm_w u1.2.2.1 1 0 ((u1.2.2.1 1 0) + (1 : Int32))) 6 (((mm_w u1.2.2.1 1 0 ((u1.2.2.1 1 0) + (1 : Int32))) 1 0)).toNatClampNeg x3) 1 0)).toNatClampNeg x4) 1 0)).toNatClampNeg u2.1) 1 0)).toNatClampNeg x1) 10 (((mm_w (mm_w u2.2.2.1 8 (((mm_w (mm_w (mm_w u1.2.2.1 1 0 ((u1.2.2.1 1 0) + (1 : Int32))) 6 (((mm_w u1.2.2.1 1 0 ((u1.2.2.1 1 0) + (1 : Int32))) 1 0)).toNatClampNeg x3) 7 (((mm_w (mm_w u1.2.2.1 1 0 ((u1.2.2.1 1 0) + (1 : Int32))) 6 (((mm_w u1.2.2.1 1 0 ((u1.2.2.1 1 0) + (1 : Int32))) 1 0)).toNatClampNeg x3) 1 0)).toNatClampNeg x4) 1 0)).toNatClampNeg u2.1) 9 (((mm_w u2.2.2.1 8 (((mm_w (mm_w (mm_w u1.2.2.1 1 0 ((u1.2.2.1 1 0) + (1 : Int32))) 6 (((mm_w u1.2.2.1 1 0 ((u1.2.2.1 1 0) + (1 : Int32))) 1 0)).toNatClampNeg x3) 7 (((mm_w (mm_w u1.2.2.1 1 0 ((u1.2.2.1 1 0) + (1 : Int32))) 6 (((mm_w u1.2.2.1 1 0 ((u1.2.2.1 1 0) + (1 : Int32))) 1 0)).toNatClampNeg x3) 1 0)).toNatClampNeg x4) 1 0)).toNatClampNeg u2.1) 1 0)).toNatClampNeg x1) 1 0)).toNatClampNeg x2) 1 0) 32 then (some (((mm_w (mm_w (mm_w (mm_w u2.2.2.1 8 (((mm_w (mm_w (mm_w u1.2.2.1 1 0 ((u1.2.2.1 1 0) + (1 : Int32))) 6 (((mm_w u1.2.2.1 1 0 ((u1.2.2.1 1 0) + (1 : Int32))) 1 0)).toNatClampNeg x3) 7 (((mm_w (mm_w u1.2.2.1 1 0 ((u1.2.2.1 1 0) + (1 : Int32))) 6 (((mm_w u1.2.2.1 1 0 ((u1.2.2.1 1 0) + (1 : Int32))) 1 0)).toNatClampNeg x3) 1 0)).toNatClampNeg x4) 1 0)).toNatClampNeg u2.1) 9 (((mm_w u2.2.2.1 8 (((mm_w (mm_w (mm_w u1.2.2.1 1 0 ((u1.2.2.1 1 0) + (1 : Int32))) 6 (((mm_w u1.2.2.1 1 0 ((u1.2.2.1 1 0) + (1 : Int32))) 1 0)).toNatClampNeg x3) 7 (((mm_w (mm_w u1.2.2.1 1 0 ((u1.2.2.1 1 0) + (1 : Int32))) 6 (((mm_w u1.2.2.1 1 0 ((u1.2.2.1 1 0) + (1 : Int32))) 1 0)).toNatClampNeg x3) 1 0)).toNatClampNeg x4) 1 0)).toNatClampNeg u2.1) 1 0)).toNatClampNeg x1) 10 (((mm_w (mm_w u2.2.2.1 8 (((mm_w (mm_w (mm_w u1.2.2.1 1 0 ((u1.2.2.1 1 0) + (1 : Int32))) 6 (((mm_w u1.2.2.1 1 0 ((u1.2.2.1 1 0) + (1 : Int32))) 1 0)).toNatClampNeg x3) 7 (((mm_w (mm_w u1.2.2.1 1 0 ((u1.2.2.1 1 0) + (1 : Int32))) 6 (((mm_w u1.2.2.1 1 0 ((u1.2.2.1 1 0) + (1 : Int32))) 1 0)).toNatClampNeg x3) 1 0)).toNatClampNeg x4) 1 0)).toNatClampNeg u2.1) 9 (((mm_w u2.2.2.1 8 (((mm_w (mm_w (mm_w u1.2.2.1 1 0 ((u1.2.2.1 1 0) + (1 : Int32))) 6 (((mm_w u1.2.2.1 1 0 ((u1.2.2.1 1 0) + (1 : Int32))) 1 0)).toNatClampNeg x3) 7 (((mm_w (mm_w u1.2.2.1 1 0 ((u1.2.2.1 1 0) + (1 : Int32))) 6 (((mm_w u1.2.2.1 1 0 ((u1.2.2.1 1 0) + (1 : Int32))) 1 0)).toNatClampNeg x3) 1 0)).toNatClampNeg x4) 1 0)).toNatClampNeg u2.1) 1 0)).toNatClampNeg x1) 1 0)).toNatClampNeg x2) 11 (((mm_w (mm_w (mm_w u2.2.2.1 8 (((mm_w (mm_w (mm_w u1.2.2.1 1 0 ((u1.2.2.1 1 0) + (1 : Int32))) 6 (((mm_w u1.2.2.1 1 0 ((u1.2.2.1 1 0) + (1 : Int32))) 1 0)).toNatClampNeg x3) 7 (((mm_w (mm_w u1.2.2.1 1 0 ((u1.2.2.1 1 0) + (1 : Int32))) 6 (((mm_w u1.2.2.1 1 0 ((u1.2.2.1 1 0) + (1 : Int32))) 1 0)).toNatClampNeg x3) 1 0)).toNatClampNeg x4) 1 0)).toNatClampNeg u2.1) 9 (((mm_w u2.2.2.1 8 (((mm_w (mm_w (mm_w u1.2.2.1 1 0 ((u1.2.2.1 1 0) + (1 : Int32))) 6 (((mm_w u1.2.2.1 1 0 ((u1.2.2.1 1 0) + (1 : Int32))) 1 0)).toNatClampNeg x3) 7 (((mm_w (mm_w u1.2.2.1 1 0 ((u1.2.2.1 1 0) + (1 : Int32))) 6 (((mm_w u1.2.2.1 1 0 ((u1.2.2.1 1 0) + (1 : Int32))) 1 0)).toNatClampNeg x3) 1 0)).toNatClampNeg x4) 1 0)).toNatClampNeg u2.1) 1 0)).toNatClampNeg x1) 10 (((mm_w (mm_w u2.2.2.1 8 (((mm_w (mm_w (mm_w u1.2.2.1 1 0 ((u1.2.2.1 1 0) + (1 : Int32))) 6 (((mm_w u1.2.2.1 1 0 ((u1.2.2.1 1 0) + (1 : Int32))) 1 0)).toNatClampNeg x3) 7 (((mm_w (mm_w u1.2.2.1 1 0 ((u1.2.2.1 1 0) + (1 : Int32))) 6 (((mm_w u1.2.2.1 1 0 ((u1.2.2.1 1 0) + (1 : Int32))) 1 0)).toNatClampNeg x3) 1 0)).toNatClampNeg x4) 1 0)).toNatClampNeg u2.1) 9 (((mm_w u2.2.2.1 8 (((mm_w (mm_w (mm_w u1.2.2.1 1 0 ((u1.2.2.1 1 0) + (1 : Int32))) 6 (((mm_w u1.2.2.1 1 0 ((u1.2.2.1 1 0) + (1 : Int32))) 1 0)).toNatClampNeg x3) 7 (((mm_w (mm_w u1.2.2.1 1 0 ((u1.2.2.1 1 0) + (1 : Int32))) 6 (((mm_w u1.2.2.1 1 0 ((u1.2.2.1 1 0) + (1 : Int32))) 1 0)).toNatClampNeg x3) 1 0)).toNatClampNeg x4) 1 0)).toNatClampNeg u2.1) 1 0)).toNatClampNeg x1) 1 0)).toNatClampNeg x2) 1 0)).toNatClampNeg (((((1 : Int32) <<< (((mm_w (mm_w (mm_w u2.2.2.1 8 (((mm_w (mm_w (mm_w u1.2.2.1 1 0 ((u1.2.2.1 1 0) + (1 : Int32))) 6 (((mm_w u1.2.2.1 1 0 ((u1.2.2.1 1 0) + (1 : Int32))) 1 0)).toNatClampNeg x3) 7 (((mm_w (mm_w u1.2.2.1 1 0 ((u1.2.2.1 1 0) + (1 : Int32))) 6 (((mm_w u1.2.2.1 1 0 ((u1.2.2.1 1 0) + (1 : Int32))) 1 0)).toNatClampNeg x3) 1 0)).toNatClampNeg x4) 1 0)).toNatClampNeg u2.1) 9 (((mm_w u2.2.2.1 8 (((mm_w (mm_w (mm_w u1.2.2.1 1 0 ((u1.2.2.1 1 0) + (1 : Int32))) 6 (((mm_w u1.2.2.1 1 0 ((u1.2.2.1 1 0) + (1 : Int32))) 1 0)).toNatClampNeg x3) 7 (((mm_w (mm_w u1.2.2.1 1 0 ((u1.2.2.1 1 0) + (1 : Int32))) 6 (((mm_w u1.2.2.1 1 0 ((u1.2.2.1 1 0) + (1 : Int32))) 1 0)).toNatClampNeg x3) 1 0)).toNatClampNeg x4) 1 0)).toNatClampNeg u2.1) 1 0)).toNatClampNeg x1) 10 (((mm_w (mm_w u2.2.2.1 8 (((mm_w (mm_w (mm_w u1.2.2.1 1 0 ((u1.2.2.1 1 0) + (1 : Int32))) 6 (((mm_w u1.2.2.1 1 0 ((u1.2.2.1 1 0) + (1 : Int32))) 1 0)).toNatClampNeg x3) 7 (((mm_w (mm_w u1.2.2.1 1 0 ((u1.2.2.1 1 0) + (1 : Int32))) 6 (((mm_w u1.2.2.1 1 0 ((u1.2.2.1 1 0) + (1 : Int32))) 1 0)).toNatClampNeg x3) 1 0)).toNatClampNeg x4) 1 0)).toNatClampNeg u2.1) 9 (((mm_w u2.2.2.1 8 (((mm_w (mm_w (mm_w u1.2.2.1 1 0 ((u1.2.2.1 1 0) + (1 : Int32))) 6 (((mm_w u1.2.2.1 1 0 ((u1.2.2.1 1 0) + (1 : Int32))) 1 0)).toNatClampNeg x3) 7 (((mm_w (mm_w u1.2.2.1 1 0 ((u1.2.2.1 1 0) + (1 : Int32))) 6 (((mm_w u1.2.2.1 1 0 ((u1.2.2.1 1 0) + (1 : Int32))) 1 0)).toNatClampNeg x3) 1 0)).toNatClampNeg x4) 1 0)).toNatClampNeg u2.1) 1 0)).toNatClampNeg x1) 1 0)).toNatClampNeg x2) 1 0) &&& 31)) ||| (2 : Int32)) ||| ((mm_w (mm_w (mm_w u2.2.2.1 8 (((mm_w (mm_w (mm_w u1.2.2.1 1 0 ((u1.2.2.1 1 0) + (1 : Int32))) 6 (((mm_w u1.2.2.1 1 0 ((u1.2.2.1 1 0) + (1 : Int32))) 1 0)).toNatClampNeg x3) 7 (((mm_w (mm_w u1.2.2.1 1 0 ((u1.2.2.1 1 0) + (1 : Int32))) 6 (((mm_w u1.2.2.1 1 0 ((u1.2.2.1 1 0) + (1 : Int32))) 1 0)).toNatClampNeg x3) 1 0)).toNatClampNeg x4) 1 0)).toNatClampNeg u2.1) 9 (((mm_w u2.2.2.1 8 (((mm_w (mm_w (mm_w u1.2.2.1 1 0 ((u1.2.2.1 1 0) + (1 : Int32))) 6 (((mm_w u1.2.2.1 1 0 ((u1.2.2.1 1 0) + (1 : Int32))) 1 0)).toNatClampNeg x3) 7 (((mm_w (mm_w u1.2.2.1 1 0 ((u1.2.2.1 1 0) + (1 : Int32))) 6 (((mm_w u1.2.2.1 1 0 ((u1.2.2.1 1 0) + (1 : Int32))) 1 0)).toNatClampNeg x3) 1 0)).toNatClampNeg x4) 1 0)).toNatClampNeg u2.1) 1 0)).toNatClampNeg x1) 10 (((mm_w (mm_w u2.2.2.1 8 (((mm_w (mm_w (mm_w u1.2.2.1 1 0 ((u1.2.2.1 1 0) + (1 : Int32))) 6 (((mm_w u1.2.2.1 1 0 ((u1.2.2.1 1 0) + (1 : Int32))) 1 0)).toNatClampNeg x3) 7 (((mm_w (mm_w u1.2.2.1 1 0 ((u1.2.2.1 1 0) + (1 : Int32))) 6 (((mm_w u1.2.2.1 1 0 ((u1.2.2.1 1 0) + (1 : Int32))) 1 0)).toNatClampNeg x3) 1 0)).toNatClampNeg x4) 1 0)).toNatClampNeg u2.1) 9 (((mm_w u2.2.2.1 8 (((mm_w (mm_w (mm_w u1.2.2.1 1 0 ((u1.2.2.1 1 0) + (1 : Int32))) 6 (((mm_w u1.2.2.1 1 0 ((u1.2.2.1 1 0) + (1 : Int32))) 1 0)).toNatClampNeg x3) 7 (((mm_w (mm_w u1.2.2.1 1 0 ((u1.2.2.1 1 0) + (1 : Int32))) 6 (((mm_w u1.2.2.1 1 0 ((u1.2.2.1 1 0) + (1 : Int32))) 1 0)).toNatClampNeg x3) 1 0)).toNatClampNeg x4) 1 0)).toNatClampNeg u2.1) 1 0)).toNatClampNeg x1) 1 0)).toNatClampNeg x2) 11 ((x1 &&& (31 : Int32))).toNatClampNeg)) ||| ((mm_w (mm_w (mm_w u2.2.2.1 8 (((mm_w (mm_w (mm_w u1.2.2.1 1 0 ((u1.2.2.1 1 0) + (1 : Int32))) 6 (((mm_w u1.2.2.1 1 0 ((u1.2.2.1 1 0) + (1 : Int32))) 1 0)).toNatClampNeg x3) 7 (((mm_w (mm_w u1.2.2.1 1 0 ((u1.2.2.1 1 0) + (1 : Int32))) 6 (((mm_w u1.2.2.1 1 0 ((u1.2.2.1 1 0) + (1 : Int32))) 1 0)).toNatClampNeg x3) 1 0)).toNatClampNeg x4) 1 0)).toNatClampNeg u2.1) 9 (((mm_w u2.2.2.1 8 (((mm_w (mm_w (mm_w u1.2.2.1 1 0 ((u1.2.2.1 1 0) + (1 : Int32))) 6 (((mm_w u1.2.2.1 1 0 ((u1.2.2.1 1 0) + (1 : Int32))) 1 0)).toNatClampNeg x3) 7 (((mm_w (mm_w u1.2.2.1 1 0 ((u1.2.2.1 1 0) + (1 : Int32))) 6 (((mm_w u1.2.2.1 1 0 ((u1.2.2.1 1 0) + (1 : Int32))) 1 0)).toNatClampNeg x3) 1 0)).toNatClampNeg x4) 1 0)).toNatClampNeg u2.1) 1 0)).toNatClampNeg x1) 10 (((mm_w (mm_w u2.2.2.1 8 (((mm_w (mm_w (mm_w u1.2.2.1 1 0 ((u1.2.2.1 1 0) + (1 : Int32))) 6 (((mm_w u1.2.2.1 1 0 ((u1.2.2.1 1 0) + (1 : Int32))) 1 0)).toNatClampNeg x3) 7 (((mm_w (mm_w u1.2.2.1 1 0 ((u1.2.2.1 1 0) + (1 : Int32))) 6 (((mm_w u1.2.2.1 1 0 ((u1.2.2.1 1 0) + (1 : Int32))) 1 0)).toNatClampNeg x3) 1 0)).toNatClampNeg x4) 1 0)).toNatClampNeg u2.1) 9 (((mm_w u2.2.2.1 8 (((mm_w (mm_w (mm_w u1.2.2.1 1 0 ((u1.2.2.1 1 0) + (1 : Int32))) 6 (((mm_w u1.2.2.1 1 0 ((u1.2.2.1 1 0) + (1 : Int32))) 1 0)).toNatClampNeg x3) 7 (((mm_w (mm_w u1.2.2.1 1 0 ((u1.2.2.1 1 0) + (1 : Int32))) 6 (((mm_w u1.2.2.1 1 0 ((u1.2.2.1 1 0) + (1 : Int32))) 1 0)).toNatClampNeg x3) 1 0)).toNatClampNeg x4) 1 0)).toNatClampNeg u2.1) 1 0)).toNatClampNeg x1) 1 0)).toNatClampNeg x2) 11 ((x2 &&& (31 : Int32))).toNatClampNeg))) 1 0), 0, ((mm_w (mm_w (mm_w (mm_w u2.2.2.1 8 (((mm_w (mm_w (mm_w u1.2.2.1 1 0 ((u1.2.2.1 1 0) + (1 : Int32))) 6 (((mm_w u1.2.2.1 1 0 ((u1.2.2.1 1 0) + (1 : Int32))) 1 0)).toNatClampNeg x3) 7 (((mm_w (mm_w u1.2.2.1 1 0 ((u1.2.2.1 1 0) + (1 : Int32))) 6 (((mm_w u1.2.2.1 1 0 ((u1.2.2.1 1 0) + (1 : Int32))) 1 0)).toNatClampNeg x3) 1 0)).toNatClampNeg x4) 1 0)).toNatClampNeg u2.1) 9 (((mm_w u2.2.2.1 8 (((mm_w (mm_w (mm_w u1.2.2.1 1 0 ((u1.2.2.1 1 0) + (1 : Int32))) 6 (((mm_w u1.2.2.1 1 0 ((u1.2.2.1 1 0) + (1 : Int32))) 1 0)).toNatClampNeg x3) 7 (((mm_w (mm_w u1.2.2.1 1 0 ((u1.2.2.1 1 0) + (1 : Int32))) 6 (((mm_w u1.2.2.1 1 0 ((u1.2.2.1 1 0) + (1 : Int32))) 1 0)).toNatClampNeg x3) 1 0)).toNatClampNeg x4) 1 0)).toNatClampNeg u2.1) 1 0)).toNatClampNeg x1) 10 (((mm_w (mm_w u2.2.2.1 8 (((mm_w (mm_w (mm_w u1.2.2.1 1 0 ((u1.2.2.1 1 0) + (1 : Int32))) 6 (((mm_w u1.2.2.1 1 0 ((u1.2.2.1 1 0) + (1 : Int32))) 1 0)).toNatClampNeg x3) 7 (((mm_w (mm_w u1.2.2.1 1 0 ((u1.2.2.1 1 0) + (1 : Int32))) 6 (((mm_w u1.2.2.1 1 0 ((u1.2.2.1 1 0) + (1 : Int32))) 1 0)).toNatClampNeg x3) 1 0)).toNatClampNeg x4) 1 0)).toNatClampNeg u2.1) 9 (((mm_w u2.2.2.1 8 (((mm_w (mm_w (mm_w u1.2.2.1 1 0 ((u1.2.2.1 1 0) + (1 : Int32))) 6 (((mm_w u1.2.2.1 1 0 ((u1.2.2.1 1 0) + (1 : Int32))) 1 0)).toNatClampNeg x3) 7 (((mm_w (mm_w u1.2.2.1 1 0 ((u1.2.2.1 1 0) + (1 : Int32))) 6 (((mm_w u1.2.2.1 1 0 ((u1.2.2.1 1 0) + (1 : Int32))) 1 0)).toNatClampNeg x3) 1 0)).toNatClampNeg x4) 1 0)).toNatClampNeg u2.1) 1 0)).toNatClampNeg x1) 1 0)).toNatClampNeg x2) 11 (((mm_w (mm_w (mm_w u2.2.2.1 8 (((mm_w (mm_w (mm_w u1.2.2.1 1 0 ((u1.2.2.1 1 0) + (1 : Int32))) 6 (((mm_w u1.2.2.1 1 0 ((u1.2.2.1 1 0) + (1 : Int32))) 1 0)).toNatClampNeg x3) 7 (((mm_w (mm_w u1.2.2.1 1 0 ((u1.2.2.1 1 0) + (1 : Int32))) 6 (((mm_w u1.2.2.1 1 0 ((u1.2.2.1 1 0) + (1 : Int32))) 1 0)).toNatClampNeg x3) 1 0)).toNatClampNeg x4) 1 0)).toNatClampNeg u2.1) 9 (((mm_w u2.2.2.1 8 (((mm_w (mm_w (mm_w u1.2.2.1 1 0 ((u1.2.2.1 1 0) + (1 : Int32))) 6 (((mm_w u1.2.2.1 1 0 ((u1.2.2.1 1 0) + (1 : Int32))) 1 0)).toNatClampNeg x3) 7 (((mm_w (mm_w u1.2.2.1 1 0 ((u1.2.2.1 1 0) + (1 : Int32))) 6 (((mm_w u1.2.2.1 1 0 ((u1.2.2.1 1 0) + (1 : Int32))) 1 0)).toNatClampNeg x3) 1 0)).toNatClampNeg x4) 1 0)).toNatClampNeg u2.1) 1 0)).toNatClampNeg x1) 10 (((mm_w (mm_w u2.2.2.1 8 (((mm_w (mm_w (mm_w u1.2.2.1 1 0 ((u1.2.2.1 1 0) + (1 : Int32))) 6 (((mm_w u1.2.2.1 1 0 ((u1.2.2.1 1 0) + (1 : Int32))) 1 0)).toNatClampNeg x3) 7 (((mm_w (mm_w u1.2.2.1 1 0 ((u1.2.2.1 1 0) + (1 : Int32))) 6 (((mm_w u1.2.2.1 1 0 ((u1.2.2.1 1 0) + (1 : Int32))) 1 0)).toNatClampNeg x3) 1 0)).toNatClampNeg x4) 1 0)).toNatClampNeg u2.1) 9 (((mm_w u2.2.2.1 8 (((mm_w (mm_w (mm_w u1.2.2.1 1 0 ((u1.2.2.1 1 0) + (1 : Int32))) 6 (((mm_w u1.2.2.1 1 0 ((u1.2.2.1 1 0) + (1 : Int32))) 1 0)).toNatClampNeg x3) 7 (((mm_w (mm_w u1.2.2.1 1 0 ((u1.2.2.1 1 0) + (1 : Int32))) 6 (((mm_w u1.2.2.1 1 0 ((u1.2.2.1 1 0) + (1 : Int32))) 1 0)).toNatClampNeg x3) 1 0)).toNatClampNeg x4) 1 0)).toNatClampNeg u2.1) 1 0)).toNatClampNeg x1) 1 0)).toNatClampNeg x2) 1 0)).toNatClampNeg (((((1 : Int32) <<< (((mm_w (mm_w (mm_w u2.2.2.1 8 (((mm_w (mm_w (mm_w u1.2.2.1 1 0 ((u1.2.2.1 1 0) + (1 : Int32))) 6 (((mm_w u1.2.2.1 1 0 ((u1.2.2.1 1 0) + (1 : Int32))) 1 0)).toNatClampNeg x3) 7 (((mm_w (mm_w u1.2.2.1 1 0 ((u1.2.2.1 1 0) + (1 : Int32))) 6 (((mm_w u1.2.2.1 1 0 ((u1.2.2.1 1 0) + (1 : Int32))) 1 0)).toNatClampNeg x3) 1 0)).toNatClampNeg x4) 1 0)).toNatClampNeg u2.1) 9 (((mm_w u2.2.2.1 8 (((mm_w (mm_w (mm_w u1.2.2.1 1 0 ((u1.2.2.1 1 0) + (1 : Int32))) 6 (((mm_w u1.2.2.1 1 0 ((u1.2.2.1 1 0) + (1 : Int32))) 1 0)).toNatClampNeg x3) 7 (((mm_w (mm_w u1.2.2.1 1 0 ((u1.2.2.1 1 0) + (1 : Int32))) 6 (((mm_w u1.2.2.1 1 0 ((u1.2.2.1 1 0) + (1 : Int32))) 1 0)).toNatClampNeg x3) 1 0)).toNatClampNeg x4) 1 0)).toNatClampNeg u2.1) 1 0)).toNatClampNeg x1) 10 (((mm_w (mm_w u2.2.2.1 8 (((mm_w (mm_w (mm_w u1.2.2.1 1 0 ((u1.2.2.1 1 0) + (1 : Int32))) 6 (((mm_w u1.2.2.1 1 0 ((u1.2.2.1 1 0) + (1 : Int32))) 1 0)).toNatClampNeg x3) 7 (((mm_w (mm_w u1.2.2.1 1 0 ((u1.2.2.1 1 0) + (1 : Int32))) 6 (((mm_w u1.2.2.1 1 0 ((u1.2.2.1 1 0) + (1 : Int32))) 1 0)).toNatClampNeg x3) 1 0)).toNatClampNeg x4) 1 0)).toNatClampNeg u2.1) 9 (((mm_w u2.2.2.1 8 (((mm_w (mm_w (mm_w u1.2.2.1 1 0 ((u1.2.2.1 1 0) + (1 : Int32))) 6 (((mm_w u1.2.2.1 1 0 ((u1.2.2.1 1 0) + (1 : Int32))) 1 0)).toNatClampNeg x3) 7 (((mm_w (mm_w u1.2.2.1 1 0 ((u1.2.2.1 1 0) + (1 : Int32))) 6 (((mm_w u1.2.2.1 1 0 ((u1.2.2.1 1 0) + (1 : Int32))) 1 0)).toNatClampNeg x3) 1 0)).toNatClampNeg x4) 1 0)).toNatClampNeg u2.1) 1 0)).toNatClampNeg x1) 1 0)).toNatClampNeg x2) 1 0) &&& 31)) ||| (2 : Int32)) ||| ((mm_w (mm_w (mm_w u2.2.2.1 8 (((mm_w (mm_w (mm_w u1.2.2.1 1 0 ((u1.2.2.1 1 0) + (1 : Int32))) 6 (((mm_w u1.2.2.1 1 0 ((u1.2.2.1 1 0) + (1 : Int32))) 1 0)).toNatClampNeg x3) 7 (((mm_w (mm_w u1.2.2.1 1 0 ((u1.2.2.1 1 0) + (1 : Int32))) 6 (((mm_w u1.2.2.1 1 0 ((u1.2.2.1 1 0) + (1 : Int32))) 1 0)).toNatClampNeg x3) 1 0)).toNatClampNeg x4) 1 0)).toNatClampNeg u2.1) 9 (((mm_w u2.2.2.1 8 (((mm_w (mm_w (mm_w u1.2.2.1 1 0 ((u1.2.2.1 1 0) + (1 : Int32))) 6 (((mm_w u1.2.2.1 1 0 ((u1.2.2.1 1 0) + (1 : Int32))) 1 0)).toNatClampNeg x3) 7 (((mm_w (mm_w u1.2.2.1 1 0 ((u1.2.2.1 1 0) + (1 : Int32))) 6 (((mm_w u1.2.2.1 1 0 ((u1.2.2.1 1 0) + (1 : Int32))) 1 0)).toNatClampNeg x3) 1 0)).toNatClampNeg x4) 1 0)).toNatClampNeg u2.1) 1 0)).toNatClampNeg x1) 10 (((mm_w (mm_w u2.2.2.1 8 (((mm_w (mm_w (mm_w u1.2.2.1 1 0 ((u1.2.2.1 1 0) + (1 : Int32))) 6 (((mm_w u1.2.2.1 1 0 ((u1.2.2.1 1 0) + (1 : Int32))) 1 0)).toNatClampNeg x3) 7 (((mm_w (mm_w u1.2.2.1 1 0 ((u1.2.2.1 1 0) + (1 : Int32))) 6 (((mm_w u1.2.2.1 1 0 ((u1.2.2.1 1 0) + (1 : Int32))) 1 0)).toNatClampNeg x3) 1 0)).toNatClampNeg x4) 1 0)).toNatClampNeg u2.1) 9 (((mm_w u2.2.2.1 8 (((mm_w (mm_w (mm_w u1.2.2.1 1 0 ((u1.2.2.1 1 0) + (1 : Int32))) 6 (((mm_w u1.2.2.1 1 0 ((u1.2.2.1 1 0) + (1 : Int32))) 1 0)).toNatClampNeg x3) 7 (((mm_w (mm_w u1.2.2.1 1 0 ((u1.2.2.1 1 0) + (1 : Int32))) 6 (((mm_w u1.2.2.1 1 0 ((u1.2.2.1 1 0) + (1 : Int32))) 1 0)).toNatClampNeg x3) 1 0)).toNatClampNeg x4) 1 0)).toNatClampNeg u2.1) 1 0)).toNatClampNeg x1) 1 0)).toNatClampNeg x2) 11 ((x1 &&& (31 : Int32))).toNatClampNeg)) ||| ((mm_w (mm_w (mm_w u2.2.2.1 8 (((mm_w (mm_w (mm_w u1.2.2.1 1 0 ((u1.2.2.1 1 0) + (1 : Int32))) 6 (((mm_w u1.2.2.1 1 0 ((u1.2.2.1 1 0) + (1 : Int32))) 1 0)).toNatClampNeg x3) 7 (((mm_w (mm_w u1.2.2.1 1 0 ((u1.2.2.1 1 0) + (1 : Int32))) 6 (((mm_w u1.2.2.1 1 0 ((u1.2.2.1 1 0) + (1 : Int32))) 1 0)).toNatClampNeg x3) 1 0)).toNatClampNeg x4) 1 0)).toNatClampNeg u2.1) 9 (((mm_w u2.2.2.1 8 (((mm_w (mm_w (mm_w u1.2.2.1 1 0 ((u1.2.2.1 1 0) + (1 : Int32))) 6 (((mm_w u1.2.2.1 1 0 ((u1.2.2.1 1 0) + (1 : Int32))) 1 0)).toNatClampNeg x3) 7 (((mm_w (mm_w u1.2.2.1 1 0 ((u1.2.2.1 1 0) + (1 : Int32))) 6 (((mm_w u1.2.2.1 1 0 ((u1.2.2.1 1 0) + (1 : Int32))) 1 0)).toNatClampNeg x3) 1 0)).toNatClampNeg x4) 1 0)).toNatClampNeg u2.1) 1 0)).toNatClampNeg x1) 10 (((mm_w (mm_w u2.2.2.1 8 (((mm_w (mm_w (mm_w u1.2.2.1 1 0 ((u1.2.2.1 1 0) + (1 : Int32))) 6 (((mm_w u1.2.2.1 1 0 ((u1.2.2.1 1 0) + (1 : Int32))) 1 0)).toNatClampNeg x3) 7 (((mm_w (mm_w u1.2.2.1 1 0 ((u1.2.2.1 1 0) + (1 : Int32))) 6 (((mm_w u1.2.2.1 1 0 ((u1.2.2.1 1 0) + (1 : Int32))) 1 0)).toNatClampNeg x3) 1 0)).toNatClampNeg x4) 1 0)).toNatClampNeg u2.1) 9 (((mm_w u2.2.2.1 8 (((mm_w (mm_w (mm_w u1.2.2.1 1 0 ((u1.2.2.1 1 0) + (1 : Int32))) 6 (((mm_w u1.2.2.1 1 0 ((u1.2.2.1 1 0) + (1 : Int32))) 1 0)).toNatClampNeg x3) 7 (((mm_w (mm_w u1.2.2.1 1 0 ((u1.2.2.1 1 0) + (1 : Int32))) 6 (((mm_w u1.2.2.1 1 0 ((u1.2.2.1 1 0) + (1 : Int32))) 1 0)).toNatClampNeg x3) 1 0)).toNatClampNeg x4) 1 0)).toNatClampNeg u2.1) 1 0)).toNatClampNeg x1) 1 0)).toNatClampNeg x2) 11 ((x2 &&& (31 : Int32))).toNatClampNeg))), u2.2.2.2))) else none) else none) else none) else none) else none) else none)) else none) else none) else none) else none) else (some ((-2 : Int32), 0, u1.2.2)))) := by
  refine (mm_entry 99999930 70 (maxL := 5) (labs := cp_31_l) (rows := cp_31_r0) (L := [.ref 1, .int x1, .int x2, .int x3, .int x4]) (rk := 1) rfl rfl rfl rfl rfl rfl).trans ?_
  refine (ex_aload_n (x := 1) rfl).trans ?_
  refine (ex_inv_z (As := [.ref 1]) (rest := []) rfl rfl).trans (ex_bnd fun u1 => ?_)
  refine (ex_if_eq (p := 10) (q := cp_31_r1) rfl).trans (ex_ite ?_ ?_)
  · refine (ex_aload_n (x := 1) rfl).trans ?_
    refine (ex_dup).trans ?_
    refine (ex_get (u := .int (u1.2.2.1 1 0)) rfl).trans ?_
    refine (ex_iconst).trans ?_
    refine (ex_iadd).trans ?_
    refine (ex_put (u := ()) rfl).trans ?_
    refine (ex_aload_n (x := 1) rfl).trans ?_
    refine (ex_get (u := .ref 6) rfl).trans ?_
    refine (ex_aload_n (x := 1) rfl).trans ?_
    refine (ex_get (u := .int ((mm_w u1.2.2.1 1 0 ((u1.2.2.1 1 0) + (1 : Int32))) 1 0)) rfl).trans ?_
    refine (ex_iload_n (x := x3) rfl).trans ?_
    refine (ex_bastore (z := 32) rfl).trans (ex_ite (ex_ite ?_ rfl) rfl)
    refine (ex_aload_n (x := 1) rfl).trans ?_
    refine (ex_get (u := .ref 7) rfl).trans ?_
    refine (ex_aload_n (x := 1) rfl).trans ?_
    refine (ex_get (u := .int ((mm_w (mm_w u1.2.2.1 1 0 ((u1.2.2.1 1 0) + (1 : Int32))) 6 (((mm_w u1.2.2.1 1 0 ((u1.2.2.1 1 0) + (1 : Int32))) 1 0)).toNatClampNeg x3) 1 0)) rfl).trans ?_
    refine (ex_iload (x := x4) rfl).trans ?_
    refine (ex_bastore (z := 32) rfl).trans (ex_ite (ex_ite ?_ rfl) rfl)
    refine (ex_aload_n (x := 1) rfl).trans ?_
    refine (ex_get (u := .ref 8) rfl).trans ?_
    refine (ex_aload_n (x := 1) rfl).trans ?_
    refine (ex_get (u := .int ((mm_w (mm_w (mm_w u1.2.2.1 1 0 ((u1.2.2.1 1 0) + (1 : Int32))) 6 (((mm_w u1.2.2.1 1 0 ((u1.2.2.1 1 0) + (1 : Int32))) 1 0)).toNatClampNeg x3) 7 (((mm_w (mm_w u1.2.2.1 1 0 ((u1.2.2.1 1 0) + (1 : Int32))) 6 (((mm_w u1.2.2.1 1 0 ((u1.2.2.1 1 0) + (1 : Int32))) 1 0)).toNatClampNeg x3) 1 0)).toNatClampNeg x4) 1 0)) rfl).trans ?_
    refine (ex_aload_n (x := 1) rfl).trans ?_
    refine (ex_iload_n (x := x1) rfl).trans ?_
    refine (ex_iload_n (x := x2) rfl).trans ?_
    refine (ex_inv_i (As := [.ref 1, .int x1, .int x2]) (rest := [.int ((mm_w (mm_w (mm_w u1.2.2.1 1 0 ((u1.2.2.1 1 0) + (1 : Int32))) 6 (((mm_w u1.2.2.1 1 0 ((u1.2.2.1 1 0) + (1 : Int32))) 1 0)).toNatClampNeg x3) 7 (((mm_w (mm_w u1.2.2.1 1 0 ((u1.2.2.1 1 0) + (1 : Int32))) 6 (((mm_w u1.2.2.1 1 0 ((u1.2.2.1 1 0) + (1 : Int32))) 1 0)).toNatClampNeg x3) 1 0)).toNatClampNeg x4) 1 0), .ref 8]) rfl rfl).trans (ex_bnd fun u2 => ?_)
    refine (ex_iastore (z := 32) rfl).trans (ex_ite ?_ rfl)
    refine (ex_aload_n (x := 1) rfl).trans ?_
    refine (ex_get (u := .ref 9) rfl).trans ?_
    refine (ex_aload_n (x := 1) rfl).trans ?_
    refine (ex_get (u := .int ((mm_w u2.2.2.1 8 (((mm_w (mm_w (mm_w u1.2.2.1 1 0 ((u1.2.2.1 1 0) + (1 : Int32))) 6 (((mm_w u1.2.2.1 1 0 ((u1.2.2.1 1 0) + (1 : Int32))) 1 0)).toNatClampNeg x3) 7 (((mm_w (mm_w u1.2.2.1 1 0 ((u1.2.2.1 1 0) + (1 : Int32))) 6 (((mm_w u1.2.2.1 1 0 ((u1.2.2.1 1 0) + (1 : Int32))) 1 0)).toNatClampNeg x3) 1 0)).toNatClampNeg x4) 1 0)).toNatClampNeg u2.1) 1 0)) rfl).trans ?_
    refine (ex_iload_n (x := x1) rfl).trans ?_
    refine (ex_iastore (z := 32) rfl).trans (ex_ite ?_ rfl)
    refine (ex_aload_n (x := 1) rfl).trans ?_
    refine (ex_get (u := .ref 10) rfl).trans ?_
    refine (ex_aload_n (x := 1) rfl).trans ?_
    refine (ex_get (u := .int ((mm_w (mm_w u2.2.2.1 8 (((mm_w (mm_w (mm_w u1.2.2.1 1 0 ((u1.2.2.1 1 0) + (1 : Int32))) 6 (((mm_w u1.2.2.1 1 0 ((u1.2.2.1 1 0) + (1 : Int32))) 1 0)).toNatClampNeg x3) 7 (((mm_w (mm_w u1.2.2.1 1 0 ((u1.2.2.1 1 0) + (1 : Int32))) 6 (((mm_w u1.2.2.1 1 0 ((u1.2.2.1 1 0) + (1 : Int32))) 1 0)).toNatClampNeg x3) 1 0)).toNatClampNeg x4) 1 0)).toNatClampNeg u2.1) 9 (((mm_w u2.2.2.1 8 (((mm_w (mm_w (mm_w u1.2.2.1 1 0 ((u1.2.2.1 1 0) + (1 : Int32))) 6 (((mm_w u1.2.2.1 1 0 ((u1.2.2.1 1 0) + (1 : Int32))) 1 0)).toNatClampNeg x3) 7 (((mm_w (mm_w u1.2.2.1 1 0 ((u1.2.2.1 1 0) + (1 : Int32))) 6 (((mm_w u1.2.2.1 1 0 ((u1.2.2.1 1 0) + (1 : Int32))) 1 0)).toNatClampNeg x3) 1 0)).toNatClampNeg x4) 1 0)).toNatClampNeg u2.1) 1 0)).toNatClampNeg x1) 1 0)) rfl).trans ?_
    refine (ex_iload_n (x := x2) rfl).trans ?_
    refine (ex_iastore (z := 32) rfl).trans (ex_ite ?_ rfl)
    refine (ex_aload_n (x := 1) rfl).trans ?_
    refine (ex_get (u := .ref 11) rfl).trans ?_
    refine (ex_aload_n (x := 1) rfl).trans ?_
    refine (ex_get (u := .int ((mm_w (mm_w (mm_w u2.2.2.1 8 (((mm_w (mm_w (mm_w u1.2.2.1 1 0 ((u1.2.2.1 1 0) + (1 : Int32))) 6 (((mm_w u1.2.2.1 1 0 ((u1.2.2.1 1 0) + (1 : Int32))) 1 0)).toNatClampNeg x3) 7 (((mm_w (mm_w u1.2.2.1 1 0 ((u1.2.2.1 1 0) + (1 : Int32))) 6 (((mm_w u1.2.2.1 1 0 ((u1.2.2.1 1 0) + (1 : Int32))) 1 0)).toNatClampNeg x3) 1 0)).toNatClampNeg x4) 1 0)).toNatClampNeg u2.1) 9 (((mm_w u2.2.2.1 8 (((mm_w (mm_w (mm_w u1.2.2.1 1 0 ((u1.2.2.1 1 0) + (1 : Int32))) 6 (((mm_w u1.2.2.1 1 0 ((u1.2.2.1 1 0) + (1 : Int32))) 1 0)).toNatClampNeg x3) 7 (((mm_w (mm_w u1.2.2.1 1 0 ((u1.2.2.1 1 0) + (1 : Int32))) 6 (((mm_w u1.2.2.1 1 0 ((u1.2.2.1 1 0) + (1 : Int32))) 1 0)).toNatClampNeg x3) 1 0)).toNatClampNeg x4) 1 0)).toNatClampNeg u2.1) 1 0)).toNatClampNeg x1) 10 (((mm_w (mm_w u2.2.2.1 8 (((mm_w (mm_w (mm_w u1.2.2.1 1 0 ((u1.2.2.1 1 0) + (1 : Int32))) 6 (((mm_w u1.2.2.1 1 0 ((u1.2.2.1 1 0) + (1 : Int32))) 1 0)).toNatClampNeg x3) 7 (((mm_w (mm_w u1.2.2.1 1 0 ((u1.2.2.1 1 0) + (1 : Int32))) 6 (((mm_w u1.2.2.1 1 0 ((u1.2.2.1 1 0) + (1 : Int32))) 1 0)).toNatClampNeg x3) 1 0)).toNatClampNeg x4) 1 0)).toNatClampNeg u2.1) 9 (((mm_w u2.2.2.1 8 (((mm_w (mm_w (mm_w u1.2.2.1 1 0 ((u1.2.2.1 1 0) + (1 : Int32))) 6 (((mm_w u1.2.2.1 1 0 ((u1.2.2.1 1 0) + (1 : Int32))) 1 0)).toNatClampNeg x3) 7 (((mm_w (mm_w u1.2.2.1 1 0 ((u1.2.2.1 1 0) + (1 : Int32))) 6 (((mm_w u1.2.2.1 1 0 ((u1.2.2.1 1 0) + (1 : Int32))) 1 0)).toNatClampNeg x3) 1 0)).toNatClampNeg x4) 1 0)).toNatClampNeg u2.1) 1 0)).toNatClampNeg x1) 1 0)).toNatClampNeg x2) 1 0)) rfl).trans ?_
    refine (ex_iconst).trans ?_
    refine (ex_aload_n (x := 1) rfl).trans ?_
    refine (ex_get (u := .int ((mm_w (mm_w (mm_w u2.2.2.1 8 (((mm_w (mm_w (mm_w u1.2.2.1 1 0 ((u1.2.2.1 1 0) + (1 : Int32))) 6 (((mm_w u1.2.2.1 1 0 ((u1.2.2.1 1 0) + (1 : Int32))) 1 0)).toNatClampNeg x3) 7 (((mm_w (mm_w u1.2.2.1 1 0 ((u1.2.2.1 1 0) + (1 : Int32))) 6 (((mm_w u1.2.2.1 1 0 ((u1.2.2.1 1 0) + (1 : Int32))) 1 0)).toNatClampNeg x3) 1 0)).toNatClampNeg x4) 1 0)).toNatClampNeg u2.1) 9 (((mm_w u2.2.2.1 8 (((mm_w (mm_w (mm_w u1.2.2.1 1 0 ((u1.2.2.1 1 0) + (1 : Int32))) 6 (((mm_w u1.2.2.1 1 0 ((u1.2.2.1 1 0) + (1 : Int32))) 1 0)).toNatClampNeg x3) 7 (((mm_w (mm_w u1.2.2.1 1 0 ((u1.2.2.1 1 0) + (1 : Int32))) 6 (((mm_w u1.2.2.1 1 0 ((u1.2.2.1 1 0) + (1 : Int32))) 1 0)).toNatClampNeg x3) 1 0)).toNatClampNeg x4) 1 0)).toNatClampNeg u2.1) 1 0)).toNatClampNeg x1) 10 (((mm_w (mm_w u2.2.2.1 8 (((mm_w (mm_w (mm_w u1.2.2.1 1 0 ((u1.2.2.1 1 0) + (1 : Int32))) 6 (((mm_w u1.2.2.1 1 0 ((u1.2.2.1 1 0) + (1 : Int32))) 1 0)).toNatClampNeg x3) 7 (((mm_w (mm_w u1.2.2.1 1 0 ((u1.2.2.1 1 0) + (1 : Int32))) 6 (((mm_w u1.2.2.1 1 0 ((u1.2.2.1 1 0) + (1 : Int32))) 1 0)).toNatClampNeg x3) 1 0)).toNatClampNeg x4) 1 0)).toNatClampNeg u2.1) 9 (((mm_w u2.2.2.1 8 (((mm_w (mm_w (mm_w u1.2.2.1 1 0 ((u1.2.2.1 1 0) + (1 : Int32))) 6 (((mm_w u1.2.2.1 1 0 ((u1.2.2.1 1 0) + (1 : Int32))) 1 0)).toNatClampNeg x3) 7 (((mm_w (mm_w u1.2.2.1 1 0 ((u1.2.2.1 1 0) + (1 : Int32))) 6 (((mm_w u1.2.2.1 1 0 ((u1.2.2.1 1 0) + (1 : Int32))) 1 0)).toNatClampNeg x3) 1 0)).toNatClampNeg x4) 1 0)).toNatClampNeg u2.1) 1 0)).toNatClampNeg x1) 1 0)).toNatClampNeg x2) 1 0)) rfl).trans ?_
    refine (ex_ishl).trans ?_
    refine (ex_iconst).trans ?_
    refine (ex_ior).trans ?_
    refine (ex_aload_n (x := 1) rfl).trans ?_
    refine (ex_get (u := .ref 11) rfl).trans ?_
    refine (ex_iload_n (x := x1) rfl).trans ?_
    refine (ex_bipush).trans ?_
    refine (ex_iand).trans ?_
    refine (ex_iaload (z := 32) rfl).trans (ex_ite ?_ rfl)
    refine (ex_ior).trans ?_
    refine (ex_aload_n (x := 1) rfl).trans ?_
    refine (ex_get (u := .ref 11) rfl).trans ?_
    refine (ex_iload_n (x := x2) rfl).trans ?_
    refine (ex_bipush).trans ?_
    refine (ex_iand).trans ?_
    refine (ex_iaload (z := 32) rfl).trans (ex_ite ?_ rfl)
    refine (ex_ior).trans ?_
    refine (ex_iastore (z := 32) rfl).trans (ex_ite ?_ rfl)
    refine (ex_aload_n (x := 1) rfl).trans ?_
    refine (ex_get (u := .int ((mm_w (mm_w (mm_w (mm_w u2.2.2.1 8 (((mm_w (mm_w (mm_w u1.2.2.1 1 0 ((u1.2.2.1 1 0) + (1 : Int32))) 6 (((mm_w u1.2.2.1 1 0 ((u1.2.2.1 1 0) + (1 : Int32))) 1 0)).toNatClampNeg x3) 7 (((mm_w (mm_w u1.2.2.1 1 0 ((u1.2.2.1 1 0) + (1 : Int32))) 6 (((mm_w u1.2.2.1 1 0 ((u1.2.2.1 1 0) + (1 : Int32))) 1 0)).toNatClampNeg x3) 1 0)).toNatClampNeg x4) 1 0)).toNatClampNeg u2.1) 9 (((mm_w u2.2.2.1 8 (((mm_w (mm_w (mm_w u1.2.2.1 1 0 ((u1.2.2.1 1 0) + (1 : Int32))) 6 (((mm_w u1.2.2.1 1 0 ((u1.2.2.1 1 0) + (1 : Int32))) 1 0)).toNatClampNeg x3) 7 (((mm_w (mm_w u1.2.2.1 1 0 ((u1.2.2.1 1 0) + (1 : Int32))) 6 (((mm_w u1.2.2.1 1 0 ((u1.2.2.1 1 0) + (1 : Int32))) 1 0)).toNatClampNeg x3) 1 0)).toNatClampNeg x4) 1 0)).toNatClampNeg u2.1) 1 0)).toNatClampNeg x1) 10 (((mm_w (mm_w u2.2.2.1 8 (((mm_w (mm_w (mm_w u1.2.2.1 1 0 ((u1.2.2.1 1 0) + (1 : Int32))) 6 (((mm_w u1.2.2.1 1 0 ((u1.2.2.1 1 0) + (1 : Int32))) 1 0)).toNatClampNeg x3) 7 (((mm_w (mm_w u1.2.2.1 1 0 ((u1.2.2.1 1 0) + (1 : Int32))) 6 (((mm_w u1.2.2.1 1 0 ((u1.2.2.1 1 0) + (1 : Int32))) 1 0)).toNatClampNeg x3) 1 0)).toNatClampNeg x4) 1 0)).toNatClampNeg u2.1) 9 (((mm_w u2.2.2.1 8 (((mm_w (mm_w (mm_w u1.2.2.1 1 0 ((u1.2.2.1 1 0) + (1 : Int32))) 6 (((mm_w u1.2.2.1 1 0 ((u1.2.2.1 1 0) + (1 : Int32))) 1 0)).toNatClampNeg x3) 7 (((mm_w (mm_w u1.2.2.1 1 0 ((u1.2.2.1 1 0) + (1 : Int32))) 6 (((mm_w u1.2.2.1 1 0 ((u1.2.2.1 1 0) + (1 : Int32))) 1 0)).toNatClampNeg x3) 1 0)).toNatClampNeg x4) 1 0)).toNatClampNeg u2.1) 1 0)).toNatClampNeg x1) 1 0)).toNatClampNeg x2) 11 (((mm_w (mm_w (mm_w u2.2.2.1 8 (((mm_w (mm_w (mm_w u1.2.2.1 1 0 ((u1.2.2.1 1 0) + (1 : Int32))) 6 (((mm_w u1.2.2.1 1 0 ((u1.2.2.1 1 0) + (1 : Int32))) 1 0)).toNatClampNeg x3) 7 (((mm_w (mm_w u1.2.2.1 1 0 ((u1.2.2.1 1 0) + (1 : Int32))) 6 (((mm_w u1.2.2.1 1 0 ((u1.2.2.1 1 0) + (1 : Int32))) 1 0)).toNatClampNeg x3) 1 0)).toNatClampNeg x4) 1 0)).toNatClampNeg u2.1) 9 (((mm_w u2.2.2.1 8 (((mm_w (mm_w (mm_w u1.2.2.1 1 0 ((u1.2.2.1 1 0) + (1 : Int32))) 6 (((mm_w u1.2.2.1 1 0 ((u1.2.2.1 1 0) + (1 : Int32))) 1 0)).toNatClampNeg x3) 7 (((mm_w (mm_w u1.2.2.1 1 0 ((u1.2.2.1 1 0) + (1 : Int32))) 6 (((mm_w u1.2.2.1 1 0 ((u1.2.2.1 1 0) + (1 : Int32))) 1 0)).toNatClampNeg x3) 1 0)).toNatClampNeg x4) 1 0)).toNatClampNeg u2.1) 1 0)).toNatClampNeg x1) 10 (((mm_w (mm_w u2.2.2.1 8 (((mm_w (mm_w (mm_w u1.2.2.1 1 0 ((u1.2.2.1 1 0) + (1 : Int32))) 6 (((mm_w u1.2.2.1 1 0 ((u1.2.2.1 1 0) + (1 : Int32))) 1 0)).toNatClampNeg x3) 7 (((mm_w (mm_w u1.2.2.1 1 0 ((u1.2.2.1 1 0) + (1 : Int32))) 6 (((mm_w u1.2.2.1 1 0 ((u1.2.2.1 1 0) + (1 : Int32))) 1 0)).toNatClampNeg x3) 1 0)).toNatClampNeg x4) 1 0)).toNatClampNeg u2.1) 9 (((mm_w u2.2.2.1 8 (((mm_w (mm_w (mm_w u1.2.2.1 1 0 ((u1.2.2.1 1 0) + (1 : Int32))) 6 (((mm_w u1.2.2.1 1 0 ((u1.2.2.1 1 0) + (1 : Int32))) 1 0)).toNatClampNeg x3) 7 (((mm_w (mm_w u1.2.2.1 1 0 ((u1.2.2.1 1 0) + (1 : Int32))) 6 (((mm_w u1.2.2.1 1 0 ((u1.2.2.1 1 0) + (1 : Int32))) 1 0)).toNatClampNeg x3) 1 0)).toNatClampNeg x4) 1 0)).toNatClampNeg u2.1) 1 0)).toNatClampNeg x1) 1 0)).toNatClampNeg x2) 1 0)).toNatClampNeg (((((1 : Int32) <<< (((mm_w (mm_w (mm_w u2.2.2.1 8 (((mm_w (mm_w (mm_w u1.2.2.1 1 0 ((u1.2.2.1 1 0) + (1 : Int32))) 6 (((mm_w u1.2.2.1 1 0 ((u1.2.2.1 1 0) + (1 : Int32))) 1 0)).toNatClampNeg x3) 7 (((mm_w (mm_w u1.2.2.1 1 0 ((u1.2.2.1 1 0) + (1 : Int32))) 6 (((mm_w u1.2.2.1 1 0 ((u1.2.2.1 1 0) + (1 : Int32))) 1 0)).toNatClampNeg x3) 1 0)).toNatClampNeg x4) 1 0)).toNatClampNeg u2.1) 9 (((mm_w u2.2.2.1 8 (((mm_w (mm_w (mm_w u1.2.2.1 1 0 ((u1.2.2.1 1 0) + (1 : Int32))) 6 (((mm_w u1.2.2.1 1 0 ((u1.2.2.1 1 0) + (1 : Int32))) 1 0)).toNatClampNeg x3) 7 (((mm_w (mm_w u1.2.2.1 1 0 ((u1.2.2.1 1 0) + (1 : Int32))) 6 (((mm_w u1.2.2.1 1 0 ((u1.2.2.1 1 0) + (1 : Int32))) 1 0)).toNatClampNeg x3) 1 0)).toNatClampNeg x4) 1 0)).toNatClampNeg u2.1) 1 0)).toNatClampNeg x1) 10 (((mm_w (mm_w u2.2.2.1 8 (((mm_w (mm_w (mm_w u1.2.2.1 1 0 ((u1.2.2.1 1 0) + (1 : Int32))) 6 (((mm_w u1.2.2.1 1 0 ((u1.2.2.1 1 0) + (1 : Int32))) 1 0)).toNatClampNeg x3) 7 (((mm_w (mm_w u1.2.2.1 1 0 ((u1.2.2.1 1 0) + (1 : Int32))) 6 (((mm_w u1.2.2.1 1 0 ((u1.2.2.1 1 0) + (1 : Int32))) 1 0)).toNatClampNeg x3) 1 0)).toNatClampNeg x4) 1 0)).toNatClampNeg u2.1) 9 (((mm_w u2.2.2.1 8 (((mm_w (mm_w (mm_w u1.2.2.1 1 0 ((u1.2.2.1 1 0) + (1 : Int32))) 6 (((mm_w u1.2.2.1 1 0 ((u1.2.2.1 1 0) + (1 : Int32))) 1 0)).toNatClampNeg x3) 7 (((mm_w (mm_w u1.2.2.1 1 0 ((u1.2.2.1 1 0) + (1 : Int32))) 6 (((mm_w u1.2.2.1 1 0 ((u1.2.2.1 1 0) + (1 : Int32))) 1 0)).toNatClampNeg x3) 1 0)).toNatClampNeg x4) 1 0)).toNatClampNeg u2.1) 1 0)).toNatClampNeg x1) 1 0)).toNatClampNeg x2) 1 0) &&& 31)) ||| (2 : Int32)) ||| ((mm_w (mm_w (mm_w u2.2.2.1 8 (((mm_w (mm_w (mm_w u1.2.2.1 1 0 ((u1.2.2.1 1 0) + (1 : Int32))) 6 (((mm_w u1.2.2.1 1 0 ((u1.2.2.1 1 0) + (1 : Int32))) 1 0)).toNatClampNeg x3) 7 (((mm_w (mm_w u1.2.2.1 1 0 ((u1.2.2.1 1 0) + (1 : Int32))) 6 (((mm_w u1.2.2.1 1 0 ((u1.2.2.1 1 0) + (1 : Int32))) 1 0)).toNatClampNeg x3) 1 0)).toNatClampNeg x4) 1 0)).toNatClampNeg u2.1) 9 (((mm_w u2.2.2.1 8 (((mm_w (mm_w (mm_w u1.2.2.1 1 0 ((u1.2.2.1 1 0) + (1 : Int32))) 6 (((mm_w u1.2.2.1 1 0 ((u1.2.2.1 1 0) + (1 : Int32))) 1 0)).toNatClampNeg x3) 7 (((mm_w (mm_w u1.2.2.1 1 0 ((u1.2.2.1 1 0) + (1 : Int32))) 6 (((mm_w u1.2.2.1 1 0 ((u1.2.2.1 1 0) + (1 : Int32))) 1 0)).toNatClampNeg x3) 1 0)).toNatClampNeg x4) 1 0)).toNatClampNeg u2.1) 1 0)).toNatClampNeg x1) 10 (((mm_w (mm_w u2.2.2.1 8 (((mm_w (mm_w (mm_w u1.2.2.1 1 0 ((u1.2.2.1 1 0) + (1 : Int32))) 6 (((mm_w u1.2.2.1 1 0 ((u1.2.2.1 1 0) + (1 : Int32))) 1 0)).toNatClampNeg x3) 7 (((mm_w (mm_w u1.2.2.1 1 0 ((u1.2.2.1 1 0) + (1 : Int32))) 6 (((mm_w u1.2.2.1 1 0 ((u1.2.2.1 1 0) + (1 : Int32))) 1 0)).toNatClampNeg x3) 1 0)).toNatClampNeg x4) 1 0)).toNatClampNeg u2.1) 9 (((mm_w u2.2.2.1 8 (((mm_w (mm_w (mm_w u1.2.2.1 1 0 ((u1.2.2.1 1 0) + (1 : Int32))) 6 (((mm_w u1.2.2.1 1 0 ((u1.2.2.1 1 0) + (1 : Int32))) 1 0)).toNatClampNeg x3) 7 (((mm_w (mm_w u1.2.2.1 1 0 ((u1.2.2.1 1 0) + (1 : Int32))) 6 (((mm_w u1.2.2.1 1 0 ((u1.2.2.1 1 0) + (1 : Int32))) 1 0)).toNatClampNeg x3) 1 0)).toNatClampNeg x4) 1 0)).toNatClampNeg u2.1) 1 0)).toNatClampNeg x1) 1 0)).toNatClampNeg x2) 11 ((x1 &&& (31 : Int32))).toNatClampNeg)) ||| ((mm_w (mm_w (mm_w u2.2.2.1 8 (((mm_w (mm_w (mm_w u1.2.2.1 1 0 ((u1.2.2.1 1 0) + (1 : Int32))) 6 (((mm_w u1.2.2.1 1 0 ((u1.2.2.1 1 0) + (1 : Int32))) 1 0)).toNatClampNeg x3) 7 (((mm_w (mm_w u1.2.2.1 1 0 ((u1.2.2.1 1 0) + (1 : Int32))) 6 (((mm_w u1.2.2.1 1 0 ((u1.2.2.1 1 0) + (1 : Int32))) 1 0)).toNatClampNeg x3) 1 0)).toNatClampNeg x4) 1 0)).toNatClampNeg u2.1) 9 (((mm_w u2.2.2.1 8 (((mm_w (mm_w (mm_w u1.2.2.1 1 0 ((u1.2.2.1 1 0) + (1 : Int32))) 6 (((mm_w u1.2.2.1 1 0 ((u1.2.2.1 1 0) + (1 : Int32))) 1 0)).toNatClampNeg x3) 7 (((mm_w (mm_w u1.2.2.1 1 0 ((u1.2.2.1 1 0) + (1 : Int32))) 6 (((mm_w u1.2.2.1 1 0 ((u1.2.2.1 1 0) + (1 : Int32))) 1 0)).toNatClampNeg x3) 1 0)).toNatClampNeg x4) 1 0)).toNatClampNeg u2.1) 1 0)).toNatClampNeg x1) 10 (((mm_w (mm_w u2.2.2.1 8 (((mm_w (mm_w (mm_w u1.2.2.1 1 0 ((u1.2.2.1 1 0) + (1 : Int32))) 6 (((mm_w u1.2.2.1 1 0 ((u1.2.2.1 1 0) + (1 : Int32))) 1 0)).toNatClampNeg x3) 7 (((mm_w (mm_w u1.2.2.1 1 0 ((u1.2.2.1 1 0) + (1 : Int32))) 6 (((mm_w u1.2.2.1 1 0 ((u1.2.2.1 1 0) + (1 : Int32))) 1 0)).toNatClampNeg x3) 1 0)).toNatClampNeg x4) 1 0)).toNatClampNeg u2.1) 9 (((mm_w u2.2.2.1 8 (((mm_w (mm_w (mm_w u1.2.2.1 1 0 ((u1.2.2.1 1 0) + (1 : Int32))) 6 (((mm_w u1.2.2.1 1 0 ((u1.2.2.1 1 0) + (1 : Int32))) 1 0)).toNatClampNeg x3) 7 (((mm_w (mm_w u1.2.2.1 1 0 ((u1.2.2.1 1 0) + (1 : Int32))) 6 (((mm_w u1.2.2.1 1 0 ((u1.2.2.1 1 0) + (1 : Int32))) 1 0)).toNatClampNeg x3) 1 0)).toNatClampNeg x4) 1 0)).toNatClampNeg u2.1) 1 0)).toNatClampNeg x1) 1 0)).toNatClampNeg x2) 11 ((x2 &&& (31 : Int32))).toNatClampNeg))) 1 0)) rfl).trans ?_
    exact ex_ireturn
  · refine (ex_bipush).trans ?_
    exact ex_ireturn
-- 32: WiringContainer$ClassTable.ownType(I)I
set_option maxRecDepth 100000 in
set_option maxHeartbeats 4000000 in
theorem cp_32_g (d : Nat) (σ : mm_S) (x1 : Int32) : cG (d + 1) 32 [.ref 1, .int x1] σ = (if mm_in (x1 &&& (31 : Int32)) 32 then (if (σ.1 6 ((x1 &&& (31 : Int32))).toNatClampNeg) = 0 then (some (x1, 0, σ)) else (some ((x1 + (992 : Int32)), 0, σ))) else none) := by
  refine (mm_entry 99999988 12 (maxL := 2) (labs := cp_32_l) (rows := cp_32_r0) (L := [.ref 1, .int x1]) (rk := 1) rfl rfl rfl rfl rfl rfl).trans ?_
  refine (ex_aload_n (x := 1) rfl).trans ?_
  refine (ex_get (u := .ref 6) rfl).trans ?_
  refine (ex_iload_n (x := x1) rfl).trans ?_
  refine (ex_bipush).trans ?_
  refine (ex_iand).trans ?_
  refine (ex_baload (z := 32) rfl).trans (ex_ite ?_ rfl)
  refine (ex_if_eq (p := 20) (q := cp_32_r1) rfl).trans (ex_ite ?_ ?_)
  · refine (ex_iload_n (x := x1) rfl).trans ?_
    exact ex_ireturn
  · refine (ex_iload_n (x := x1) rfl).trans ?_
    refine (ex_sipush).trans ?_
    refine (ex_iadd).trans ?_
    refine (ex_goto (p := 21) (q := cp_32_r2) rfl).trans ?_
    exact ex_ireturn
-- 33: WiringContainer$ClassTable.countSupertypes(J)I
set_option maxRecDepth 100000 in
set_option maxHeartbeats 4000000 in
theorem cp_33_g (d : Nat) (σ : mm_S) (y1 : Int64) : cG (d + 1) 33 [.ref 1, .long y1] σ = ((cG d 37 [.ref 1, .long y1] ((mm_w σ.1 1 8 (0 : Int32)), σ.2)).bind fun u1 => ((cG d 37 [.ref 1, .long (1 : Int64)] u1.2.2).bind fun u2 => (mm_ex sc (cG d) 1 cp_33_l (99999989 + 0) cp_33_r1 [.ref 1, .long y1, .null, .int (0 : Int32), .null, .null, .null] [] u2.2.2))) := by
  refine (mm_entry 99999989 11 (maxL := 7) (labs := cp_33_l) (rows := cp_33_r0) (L := [.ref 1, .long y1, .null, .null, .null, .null, .null]) (rk := 1) rfl rfl rfl rfl rfl rfl).trans ?_
  refine (ex_aload_n (x := 1) rfl).trans ?_
  refine (ex_iconst).trans ?_
  refine (ex_put (u := ()) rfl).trans ?_
  refine (ex_aload_n (x := 1) rfl).trans ?_
  refine (ex_lload_n (x := y1) rfl).trans ?_
  refine (ex_inv_v (As := [.ref 1, .long y1]) (rest := []) rfl rfl).trans (ex_bnd fun u1 => ?_)
  refine (ex_aload_n (x := 1) rfl).trans ?_
  refine (ex_lconst).trans ?_
  refine (ex_inv_v (As := [.ref 1, .long (1 : Int64)]) (rest := []) rfl rfl).trans (ex_bnd fun u2 => ?_)
  refine (ex_iconst).trans ?_
  refine (ex_istore_n (L2 := [.ref 1, .long y1, .null, .int (0 : Int32), .null, .null, .null]) rfl).trans ?_
  exact rfl
set_option maxRecDepth 100000 in
set_option maxHeartbeats 4000000 in
theorem cp_33_h1 (d n : Nat) (σ : mm_S) (y1 : Int64) (x3 : Int32) : mm_ex sc (cG d) 1 cp_33_l (n + 31) cp_33_r1 [.ref 1, .long y1, .null, .int x3, .null, .null, .null] [] σ = (if (σ.1 1 8) ≤ x3 then (some ((σ.1 1 8), 0, σ)) else (if (16 : Int32) ≤ x3 then (some ((σ.1 1 8), 0, σ)) else (if mm_in x3 16 then (if mm_in (((σ.2 12 (x3).toNatClampNeg) &&& (31 : Int64))).toInt32 32 then (if (σ.1 9 ((((σ.2 12 (x3).toNatClampNeg) &&& (31 : Int64))).toInt32).toNatClampNeg) = 0 then (mm_ex sc (cG d) 1 cp_33_l (n + 9) cp_33_r2 [.ref 1, .long y1, .null, .int x3, .long (σ.2 12 (x3).toNatClampNeg), .null, .int (((σ.2 12 (x3).toNatClampNeg) &&& (31 : Int64))).toInt32] [] σ) else (if mm_in (((σ.2 12 (x3).toNatClampNeg) &&& (31 : Int64))).toInt32 32 then ((cG d 36 [.ref 1, .int (σ.1 9 ((((σ.2 12 (x3).toNatClampNeg) &&& (31 : Int64))).toInt32).toNatClampNeg), .long (σ.2 12 (x3).toNatClampNeg)] σ).bind fun u1 => ((cG d 37 [.ref 1, .long u1.2.1] u1.2.2).bind fun u2 => (mm_ex sc (cG d) 1 cp_33_l (n + 0) cp_33_r2 [.ref 1, .long y1, .null, .int x3, .long (σ.2 12 (x3).toNatClampNeg), .null, .int (((σ.2 12 (x3).toNatClampNeg) &&& (31 : Int64))).toInt32] [] u2.2.2))) else none)) else none) else none))) := by
  refine (ex_iload_n (x := x3) rfl).trans ?_
  refine (ex_aload_n (x := 1) rfl).trans ?_
  refine (ex_get (u := .int (σ.1 1 8)) rfl).trans ?_
  refine (ex_ic_ge (p := 108) (q := cp_33_r4) rfl).trans (ex_ite ?_ ?_)
  · refine (ex_aload_n (x := 1) rfl).trans ?_
    refine (ex_get (u := .int (σ.1 1 8)) rfl).trans ?_
    exact ex_ireturn
  · refine (ex_iload_n (x := x3) rfl).trans ?_
    refine (ex_bipush).trans ?_
    refine (ex_ic_ge (p := 108) (q := cp_33_r4) rfl).trans (ex_ite ?_ ?_)
    · refine (ex_aload_n (x := 1) rfl).trans ?_
      refine (ex_get (u := .int (σ.1 1 8)) rfl).trans ?_
      exact ex_ireturn
    · refine (ex_aload_n (x := 1) rfl).trans ?_
      refine (ex_get (u := .ref 12) rfl).trans ?_
      refine (ex_iload_n (x := x3) rfl).trans ?_
      refine (ex_laload (z := 16) rfl).trans (ex_ite ?_ rfl)
      refine (ex_lstore (L2 := [.ref 1, .long y1, .null, .int x3, .long (σ.2 12 (x3).toNatClampNeg), .null, .null]) rfl).trans ?_
      refine (ex_lload (x := (σ.2 12 (x3).toNatClampNeg)) rfl).trans ?_
      refine (ex_ldc2_w).trans ?_
      refine (ex_land).trans ?_
      refine (ex_l2i).trans ?_
      refine (ex_istore (L2 := [.ref 1, .long y1, .null, .int x3, .long (σ.2 12 (x3).toNatClampNeg), .null, .int (((σ.2 12 (x3).toNatClampNeg) &&& (31 : Int64))).toInt32]) rfl).trans ?_
      refine (ex_aload_n (x := 1) rfl).trans ?_
      refine (ex_get (u := .ref 9) rfl).trans ?_
      refine (ex_iload (x := (((σ.2 12 (x3).toNatClampNeg) &&& (31 : Int64))).toInt32) rfl).trans ?_
      refine (ex_iaload (z := 32) rfl).trans (ex_ite ?_ rfl)
      refine (ex_if_eq (p := 75) (q := cp_33_r2) rfl).trans (ex_ite ?_ ?_)
      · exact rfl
      · refine (ex_aload_n (x := 1) rfl).trans ?_
        refine (ex_aload_n (x := 1) rfl).trans ?_
        refine (ex_aload_n (x := 1) rfl).trans ?_
        refine (ex_get (u := .ref 9) rfl).trans ?_
        refine (ex_iload (x := (((σ.2 12 (x3).toNatClampNeg) &&& (31 : Int64))).toInt32) rfl).trans ?_
        refine (ex_iaload (z := 32) rfl).trans (ex_ite ?_ rfl)
        refine (ex_lload (x := (σ.2 12 (x3).toNatClampNeg)) rfl).trans ?_
        refine (ex_inv_l (As := [.ref 1, .int (σ.1 9 ((((σ.2 12 (x3).toNatClampNeg) &&& (31 : Int64))).toInt32).toNatClampNeg), .long (σ.2 12 (x3).toNatClampNeg)]) (rest := [.ref 1]) rfl rfl).trans (ex_bnd fun u1 => ?_)
        refine (ex_inv_v (As := [.ref 1, .long u1.2.1]) (rest := []) rfl rfl).trans (ex_bnd fun u2 => ?_)
        exact rfl
set_option maxRecDepth 100000 in
set_option maxHeartbeats 4000000 in
theorem cp_33_h2 (d n : Nat) (σ : mm_S) (y1 : Int64) (x3 : Int32) (y4 : Int64) (x6 : Int32) : mm_ex sc (cG d) 1 cp_33_l (n + 16) cp_33_r2 [.ref 1, .long y1, .null, .int x3, .long y4, .null, .int x6] [] σ = (if mm_in x6 32 then (if (σ.1 10 (x6).toNatClampNeg) = 0 then (mm_ex sc (cG d) 1 cp_33_l (n + 9) cp_33_r1 [.ref 1, .long y1, .null, .int (x3 + (1 : Int32)), .long y4, .null, .int x6] [] σ) else (if mm_in x6 32 then ((cG d 36 [.ref 1, .int (σ.1 10 (x6).toNatClampNeg), .long y4] σ).bind fun u1 => ((cG d 37 [.ref 1, .long u1.2.1] u1.2.2).bind fun u2 => (mm_ex sc (cG d) 1 cp_33_l (n + 0) cp_33_r1 [.ref 1, .long y1, .null, .int (x3 + (1 : Int32)), .long y4, .null, .int x6] [] u2.2.2))) else none)) else none) := by
  refine (ex_aload_n (x := 1) rfl).trans ?_
  refine (ex_get (u := .ref 10) rfl).trans ?_
  refine (ex_iload (x := x6) rfl).trans ?_
  refine (ex_iaload (z := 32) rfl).trans (ex_ite ?_ rfl)
  refine (ex_if_eq (p := 102) (q := cp_33_r3) rfl).trans (ex_ite ?_ ?_)
  · refine (ex_iinc (L2 := [.ref 1, .long y1, .null, .int (x3 + (1 : Int32)), .long y4, .null, .int x6]) rfl rfl).trans ?_
    refine (ex_goto (p := 17) (q := cp_33_r1) rfl).trans ?_
    exact rfl
  · refine (ex_aload_n (x := 1) rfl).trans ?_
    refine (ex_aload_n (x := 1) rfl).trans ?_
    refine (ex_aload_n (x := 1) rfl).trans ?_
    refine (ex_get (u := .ref 10) rfl).trans ?_
    refine (ex_iload (x := x6) rfl).trans ?_
    refine (ex_iaload (z := 32) rfl).trans (ex_ite ?_ rfl)
    refine (ex_lload (x := y4) rfl).trans ?_
    refine (ex_inv_l (As := [.ref 1, .int (σ.1 10 (x6).toNatClampNeg), .long y4]) (rest := [.ref 1]) rfl rfl).trans (ex_bnd fun u1 => ?_)
    refine (ex_inv_v (As := [.ref 1, .long u1.2.1]) (rest := []) rfl rfl).trans (ex_bnd fun u2 => ?_)
    refine (ex_iinc (L2 := [.ref 1, .long y1, .null, .int (x3 + (1 : Int32)), .long y4, .null, .int x6]) rfl rfl).trans ?_
    refine (ex_goto (p := 17) (q := cp_33_r1) rfl).trans ?_
    exact rfl
-- 34: WiringContainer$ClassTable.isMetBySome(JJI)Z
set_option maxRecDepth 100000 in
set_option maxHeartbeats 4000000 in
theorem cp_34_g (d : Nat) (σ : mm_S) (y1 : Int64) (y3 : Int64) (x5 : Int32) : cG (d + 1) 34 [.ref 1, .long y1, .long y3, .int x5] σ = (if (40 : Int32) < x5 then (some ((0 : Int32), 0, σ)) else (if mm_in ((y3 &&& (31 : Int64))).toInt32 32 then (if (((σ.1 11 (((y3 &&& (31 : Int64))).toInt32).toNatClampNeg) >>> (((y1 &&& (31 : Int64))).toInt32 &&& 31)) &&& (1 : Int32)) = 0 then (some ((0 : Int32), 0, σ)) else (if ((y1 &&& (31 : Int64))).toInt32 = (1 : Int32) then (some ((1 : Int32), 0, σ)) else ((cG d 35 [.ref 1, .long y1, .long y3, .int (x5 + (1 : Int32))] σ).bind fun u1 => (if u1.1 = 0 then (if mm_in ((y3 &&& (31 : Int64))).toInt32 32 then (if (u1.2.2.1 9 (((y3 &&& (31 : Int64))).toInt32).toNatClampNeg) = 0 then (mm_ex sc (cG d) 3 cp_34_l (99999946 + 16) cp_34_r5 [.ref 1, .long y1, .null, .long y3, .null, .int x5, .int ((y3 &&& (31 : Int64))).toInt32, .int ((y1 &&& (31 : Int64))).toInt32] [] u1.2.2) else (if mm_in ((y3 &&& (31 : Int64))).toInt32 32 then ((cG d 36 [.ref 1, .int (u1.2.2.1 9 (((y3 &&& (31 : Int64))).toInt32).toNatClampNeg), .long y3] u1.2.2).bind fun u2 => ((cG d 34 [.ref 1, .long y1, .long u2.2.1, .int (x5 + (1 : Int32))] u2.2.2).bind fun u3 => (if u3.1 = 0 then (mm_ex sc (cG d) 3 cp_34_l (99999946 + 2) cp_34_r5 [.ref 1, .long y1, .null, .long y3, .null, .int x5, .int ((y3 &&& (31 : Int64))).toInt32, .int ((y1 &&& (31 : Int64))).toInt32] [] u3.2.2) else (some ((1 : Int32), 0, u3.2.2))))) else none)) else none) else (some ((1 : Int32), 0, u1.2.2)))))) else none)) := by
  refine (mm_entry 99999946 54 (maxL := 8) (labs := cp_34_l) (rows := cp_34_r0) (L := [.ref 1, .long y1, .null, .long y3, .null, .int x5, .null, .null]) (rk := 3) rfl rfl rfl rfl rfl rfl).trans ?_
  refine (ex_lload_n (x := y3) rfl).trans ?_
  refine (ex_ldc2_w).trans ?_
  refine (ex_land).trans ?_
  refine (ex_l2i).trans ?_
  refine (ex_istore (L2 := [.ref 1, .long y1, .null, .long y3, .null, .int x5, .int ((y3 &&& (31 : Int64))).toInt32, .null]) rfl).trans ?_
  refine (ex_lload_n (x := y1) rfl).trans ?_
  refine (ex_ldc2_w).trans ?_
  refine (ex_land).trans ?_
  refine (ex_l2i).trans ?_
  refine (ex_istore (L2 := [.ref 1, .long y1, .null, .long y3, .null, .int x5, .int ((y3 &&& (31 : Int64))).toInt32, .int ((y1 &&& (31 : Int64))).toInt32]) rfl).trans ?_
  refine (ex_iload (x := x5) rfl).trans ?_
  refine (ex_bipush).trans ?_
  refine (ex_ic_gt (p := 38) (q := cp_34_r1) rfl).trans (ex_ite ?_ ?_)
  · refine (ex_iconst).trans ?_
    exact ex_zreturn0
  · refine (ex_aload_n (x := 1) rfl).trans ?_
    refine (ex_get (u := .ref 11) rfl).trans ?_
    refine (ex_iload (x := ((y3 &&& (31 : Int64))).toInt32) rfl).trans ?_
    refine (ex_iaload (z := 32) rfl).trans (ex_ite ?_ rfl)
    refine (ex_iload (x := ((y1 &&& (31 : Int64))).toInt32) rfl).trans ?_
    refine (ex_ishr).trans ?_
    refine (ex_iconst).trans ?_
    refine (ex_iand).trans ?_
    refine (ex_if_ne (p := 40) (q := cp_34_r2) rfl).trans (ex_ite ?_ ?_)
    · refine (ex_iconst).trans ?_
      exact ex_zreturn0
    · refine (ex_iload (x := ((y1 &&& (31 : Int64))).toInt32) rfl).trans ?_
      refine (ex_iconst).trans ?_
      refine (ex_ic_eq (p := 59) (q := cp_34_r3) rfl).trans (ex_ite ?_ ?_)
      · refine (ex_iconst).trans ?_
        exact ex_zreturn1
      · refine (ex_aload_n (x := 1) rfl).trans ?_
        refine (ex_lload_n (x := y1) rfl).trans ?_
        refine (ex_lload_n (x := y3) rfl).trans ?_
        refine (ex_iload (x := x5) rfl).trans ?_
        refine (ex_iconst).trans ?_
        refine (ex_iadd).trans ?_
        refine (ex_inv_z (As := [.ref 1, .long y1, .long y3, .int (x5 + (1 : Int32))]) (rest := []) rfl rfl).trans (ex_bnd fun u1 => ?_)
        refine (ex_if_eq (p := 61) (q := cp_34_r4) rfl).trans (ex_ite ?_ ?_)
        · refine (ex_aload_n (x := 1) rfl).trans ?_
          refine (ex_get (u := .ref 9) rfl).trans ?_
          refine (ex_iload (x := ((y3 &&& (31 : Int64))).toInt32) rfl).trans ?_
          refine (ex_iaload (z := 32) rfl).trans (ex_ite ?_ rfl)
          refine (ex_if_eq (p := 97) (q := cp_34_r5) rfl).trans (ex_ite ?_ ?_)
          · exact rfl
          · refine (ex_aload_n (x := 1) rfl).trans ?_
            refine (ex_lload_n (x := y1) rfl).trans ?_
            refine (ex_aload_n (x := 1) rfl).trans ?_
            refine (ex_aload_n (x := 1) rfl).trans ?_
            refine (ex_get (u := .ref 9) rfl).trans ?_
            refine (ex_iload (x := ((y3 &&& (31 : Int64))).toInt32) rfl).trans ?_
            refine (ex_iaload (z := 32) rfl).trans (ex_ite ?_ rfl)
            refine (ex_lload_n (x := y3) rfl).trans ?_
            refine (ex_inv_l (As := [.ref 1, .int (u1.2.2.1 9 (((y3 &&& (31 : Int64))).toInt32).toNatClampNeg), .long y3]) (rest := [.long y1, .ref 1]) rfl rfl).trans (ex_bnd fun u2 => ?_)
            refine (ex_iload (x := x5) rfl).trans ?_
            refine (ex_iconst).trans ?_
            refine (ex_iadd).trans ?_
            refine (ex_inv_z (As := [.ref 1, .long y1, .long u2.2.1, .int (x5 + (1 : Int32))]) (rest := []) rfl rfl).trans (ex_bnd fun u3 => ?_)
            refine (ex_if_eq (p := 97) (q := cp_34_r5) rfl).trans (ex_ite ?_ ?_)
            · exact rfl
            · refine (ex_iconst).trans ?_
              exact ex_zreturn1
        · refine (ex_iconst).trans ?_
          exact ex_zreturn1
set_option maxRecDepth 100000 in
set_option maxHeartbeats 4000000 in
theorem cp_34_h5 (d n : Nat) (σ : mm_S) (y1 : Int64) (y3 : Int64) (x5 : Int32) (x6 : Int32) (x7 : Int32) : mm_ex sc (cG d) 3 cp_34_l (n + 22) cp_34_r5 [.ref 1, .long y1, .null, .long y3, .null, .int x5, .int x6, .int x7] [] σ = (if mm_in x6 32 then (if (σ.1 10 (x6).toNatClampNeg) = 0 then (some ((0 : Int32), 0, σ)) else (if mm_in x6 32 then ((cG d 36 [.ref 1, .int (σ.1 10 (x6).toNatClampNeg), .long y3] σ).bind fun u1 => ((cG d 34 [.ref 1, .long y1, .long u1.2.1, .int (x5 + (1 : Int32))] u1.2.2).bind fun u2 => (if u2.1 = 0 then (some ((0 : Int32), 0, u2.2.2)) else (some ((1 : Int32), 0, u2.2.2))))) else none)) else none) := by
  refine (ex_aload_n (x := 1) rfl).trans ?_
  refine (ex_get (u := .ref 10) rfl).trans ?_
  refine (ex_iload (x := x6) rfl).trans ?_
  refine (ex_iaload (z := 32) rfl).trans (ex_ite ?_ rfl)
  refine (ex_if_eq (p := 135) (q := cp_34_r6) rfl).trans (ex_ite ?_ ?_)
  · refine (ex_iconst).trans ?_
    exact ex_zreturn0
  · refine (ex_aload_n (x := 1) rfl).trans ?_
    refine (ex_lload_n (x := y1) rfl).trans ?_
    refine (ex_aload_n (x := 1) rfl).trans ?_
    refine (ex_aload_n (x := 1) rfl).trans ?_
    refine (ex_get (u := .ref 10) rfl).trans ?_
    refine (ex_iload (x := x6) rfl).trans ?_
    refine (ex_iaload (z := 32) rfl).trans (ex_ite ?_ rfl)
    refine (ex_lload_n (x := y3) rfl).trans ?_
    refine (ex_inv_l (As := [.ref 1, .int (σ.1 10 (x6).toNatClampNeg), .long y3]) (rest := [.long y1, .ref 1]) rfl rfl).trans (ex_bnd fun u1 => ?_)
    refine (ex_iload (x := x5) rfl).trans ?_
    refine (ex_iconst).trans ?_
    refine (ex_iadd).trans ?_
    refine (ex_inv_z (As := [.ref 1, .long y1, .long u1.2.1, .int (x5 + (1 : Int32))]) (rest := []) rfl rfl).trans (ex_bnd fun u2 => ?_)
    refine (ex_if_eq (p := 135) (q := cp_34_r6) rfl).trans (ex_ite ?_ ?_)
    · refine (ex_iconst).trans ?_
      exact ex_zreturn0
    · refine (ex_iconst).trans ?_
      refine (ex_goto (p := 136) (q := cp_34_r7) rfl).trans ?_
      exact ex_zreturn1
-- 35: WiringContainer$ClassTable.isMet(JJI)Z
set_option maxRecDepth 100000 in
set_option maxHeartbeats 4000000 in
theorem cp_35_g (d : Nat) (σ : mm_S) (y1 : Int64) (y3 : Int64) (x5 : Int32) : cG (d + 1) 35 [.ref 1, .long y1, .long y3, .int x5] σ = (if (40 : Int32) < x5 then (some ((0 : Int32), 0, σ)) else (if (lg_cmp (y1 &&& (31 : Int64)) (y3 &&& (31 : Int64))) = 0 then (if (lg_cmp (y1 >>> (((5 : Int32)).toInt64 &&& 63)) (0 : Int64)) = 0 then (if (lg_cmp (y3 >>> (((5 : Int32)).toInt64 &&& 63)) (0 : Int64)) = 0 then (some ((1 : Int32), 0, σ)) else (if (lg_cmp (y3 >>> (((5 : Int32)).toInt64 &&& 63)) (31 : Int64)) = 0 then (some ((1 : Int32), 0, σ)) else (if (lg_cmp (y3 >>> (((5 : Int32)).toInt64 &&& 63)) (1 : Int64)) = 0 then (some ((1 : Int32), 0, σ)) else (some ((0 : Int32), 0, σ))))) else (if (lg_cmp (y3 >>> (((5 : Int32)).toInt64 &&& 63)) (0 : Int64)) = 0 then (if (lg_cmp (y1 >>> (((5 : Int32)).toInt64 &&& 63)) (1 : Int64)) = 0 then (some ((1 : Int32), 0, σ)) else (some ((0 : Int32), 0, σ))) else (if (lg_cmp (y3 >>> (((5 : Int32)).toInt64 &&& 63)) (31 : Int64)) = 0 then (some ((1 : Int32), 0, σ)) else (if (lg_cmp (y1 >>> (((5 : Int32)).toInt64 &&& 63)) (30 : Int64)) = 0 then (some ((1 : Int32), 0, σ)) else (if (lg_cmp ((y1 >>> (((5 : Int32)).toInt64 &&& 63)) &&& (31 : Int64)) (29 : Int64)) = 0 then ((cG d 34 [.ref 1, .long ((y1 >>> (((5 : Int32)).toInt64 &&& 63)) >>> (((5 : Int32)).toInt64 &&& 63)), .long (y3 >>> (((5 : Int32)).toInt64 &&& 63)), .int (x5 + (1 : Int32))] σ).bind fun u2 => (if u2.1 = 0 ∨ u2.1 = 1 then some (u2.1, 0, u2.2.2) else none)) else ((cG d 35 [.ref 1, .long (y1 >>> (((5 : Int32)).toInt64 &&& 63)), .long (y3 >>> (((5 : Int32)).toInt64 &&& 63)), .int (x5 + (1 : Int32))] σ).bind fun u1 => (if u1.1 = 0 ∨ u1.1 = 1 then some (u1.1, 0, u1.2.2) else none))))))) else (some ((0 : Int32), 0, σ)))) := by
  refine (mm_entry 99999949 51 (maxL := 10) (labs := cp_35_l) (rows := cp_35_r0) (L := [.ref 1, .long y1, .null, .long y3, .null, .int x5, .null, .null, .null, .null]) (rk := 3) rfl rfl rfl rfl rfl rfl).trans ?_
  refine (ex_iload (x := x5) rfl).trans ?_
  refine (ex_bipush).trans ?_
  refine (ex_ic_gt (p := 21) (q := cp_35_r1) rfl).trans (ex_ite ?_ ?_)
  · refine (ex_iconst).trans ?_
    exact ex_zreturn0
  · refine (ex_lload_n (x := y1) rfl).trans ?_
    refine (ex_ldc2_w).trans ?_
    refine (ex_land).trans ?_
    refine (ex_lload_n (x := y3) rfl).trans ?_
    refine (ex_ldc2_w).trans ?_
    refine (ex_land).trans ?_
    refine (ex_lcmp).trans ?_
    refine (ex_if_eq (p := 23) (q := cp_35_r2) rfl).trans (ex_ite ?_ ?_)
    · refine (ex_lload_n (x := y1) rfl).trans ?_
      refine (ex_iconst).trans ?_
      refine (ex_lshr).trans ?_
      refine (ex_lstore (L2 := [.ref 1, .long y1, .null, .long y3, .null, .int x5, .long (y1 >>> (((5 : Int32)).toInt64 &&& 63)), .null, .null, .null]) rfl).trans ?_
      refine (ex_lload_n (x := y3) rfl).trans ?_
      refine (ex_iconst).trans ?_
      refine (ex_lshr).trans ?_
      refine (ex_lstore (L2 := [.ref 1, .long y1, .null, .long y3, .null, .int x5, .long (y1 >>> (((5 : Int32)).toInt64 &&& 63)), .null, .long (y3 >>> (((5 : Int32)).toInt64 &&& 63)), .null]) rfl).trans ?_
      refine (ex_lload (x := (y1 >>> (((5 : Int32)).toInt64 &&& 63))) rfl).trans ?_
      refine (ex_lconst).trans ?_
      refine (ex_lcmp).trans ?_
      refine (ex_if_ne (p := 69) (q := cp_35_r6) rfl).trans (ex_ite ?_ ?_)
      · refine (ex_lload (x := (y3 >>> (((5 : Int32)).toInt64 &&& 63))) rfl).trans ?_
        refine (ex_lconst).trans ?_
        refine (ex_lcmp).trans ?_
        refine (ex_if_eq (p := 63) (q := cp_35_r3) rfl).trans (ex_ite ?_ ?_)
        · refine (ex_iconst).trans ?_
          refine (ex_goto (p := 68) (q := cp_35_r5) rfl).trans ?_
          exact ex_zreturn1
        · refine (ex_lload (x := (y3 >>> (((5 : Int32)).toInt64 &&& 63))) rfl).trans ?_
          refine (ex_ldc2_w).trans ?_
          refine (ex_lcmp).trans ?_
          refine (ex_if_eq (p := 63) (q := cp_35_r3) rfl).trans (ex_ite ?_ ?_)
          · refine (ex_iconst).trans ?_
            refine (ex_goto (p := 68) (q := cp_35_r5) rfl).trans ?_
            exact ex_zreturn1
          · refine (ex_lload (x := (y3 >>> (((5 : Int32)).toInt64 &&& 63))) rfl).trans ?_
            refine (ex_lconst).trans ?_
            refine (ex_lcmp).trans ?_
            refine (ex_if_ne (p := 67) (q := cp_35_r4) rfl).trans (ex_ite ?_ ?_)
            · refine (ex_iconst).trans ?_
              refine (ex_goto (p := 68) (q := cp_35_r5) rfl).trans ?_
              exact ex_zreturn1
            · refine (ex_iconst).trans ?_
              exact ex_zreturn0
      · refine (ex_lload (x := (y3 >>> (((5 : Int32)).toInt64 &&& 63))) rfl).trans ?_
        refine (ex_lconst).trans ?_
        refine (ex_lcmp).trans ?_
        refine (ex_if_ne (p := 89) (q := cp_35_r9) rfl).trans (ex_ite ?_ ?_)
        · refine (ex_lload (x := (y1 >>> (((5 : Int32)).toInt64 &&& 63))) rfl).trans ?_
          refine (ex_lconst).trans ?_
          refine (ex_lcmp).trans ?_
          refine (ex_if_ne (p := 87) (q := cp_35_r7) rfl).trans (ex_ite ?_ ?_)
          · refine (ex_iconst).trans ?_
            refine (ex_goto (p := 88) (q := cp_35_r8) rfl).trans ?_
            exact ex_zreturn1
          · refine (ex_iconst).trans ?_
            exact ex_zreturn0
        · refine (ex_lload (x := (y3 >>> (((5 : Int32)).toInt64 &&& 63))) rfl).trans ?_
          refine (ex_ldc2_w).trans ?_
          refine (ex_lcmp).trans ?_
          refine (ex_if_eq (p := 107) (q := cp_35_r10) rfl).trans (ex_ite ?_ ?_)
          · refine (ex_iconst).trans ?_
            exact ex_zreturn1
          · refine (ex_lload (x := (y1 >>> (((5 : Int32)).toInt64 &&& 63))) rfl).trans ?_
            refine (ex_ldc2_w).trans ?_
            refine (ex_lcmp).trans ?_
            refine (ex_if_ne (p := 109) (q := cp_35_r11) rfl).trans (ex_ite ?_ ?_)
            · refine (ex_iconst).trans ?_
              exact ex_zreturn1
            · refine (ex_lload (x := (y1 >>> (((5 : Int32)).toInt64 &&& 63))) rfl).trans ?_
              refine (ex_ldc2_w).trans ?_
              refine (ex_land).trans ?_
              refine (ex_ldc2_w).trans ?_
              refine (ex_lcmp).trans ?_
              refine (ex_if_ne (p := 137) (q := cp_35_r12) rfl).trans (ex_ite ?_ ?_)
              · refine (ex_aload_n (x := 1) rfl).trans ?_
                refine (ex_lload (x := (y1 >>> (((5 : Int32)).toInt64 &&& 63))) rfl).trans ?_
                refine (ex_iconst).trans ?_
                refine (ex_lshr).trans ?_
                refine (ex_lload (x := (y3 >>> (((5 : Int32)).toInt64 &&& 63))) rfl).trans ?_
                refine (ex_iload (x := x5) rfl).trans ?_
                refine (ex_iconst).trans ?_
                refine (ex_iadd).trans ?_
                refine (ex_inv_z (As := [.ref 1, .long ((y1 >>> (((5 : Int32)).toInt64 &&& 63)) >>> (((5 : Int32)).toInt64 &&& 63)), .long (y3 >>> (((5 : Int32)).toInt64 &&& 63)), .int (x5 + (1 : Int32))]) (rest := []) rfl rfl).trans (ex_bnd fun u2 => ?_)
                exact ex_zreturn
              · refine (ex_aload_n (x := 1) rfl).trans ?_
                refine (ex_lload (x := (y1 >>> (((5 : Int32)).toInt64 &&& 63))) rfl).trans ?_
                refine (ex_lload (x := (y3 >>> (((5 : Int32)).toInt64 &&& 63))) rfl).trans ?_
                refine (ex_iload (x := x5) rfl).trans ?_
                refine (ex_iconst).trans ?_
                refine (ex_iadd).trans ?_
                refine (ex_inv_z (As := [.ref 1, .long (y1 >>> (((5 : Int32)).toInt64 &&& 63)), .long (y3 >>> (((5 : Int32)).toInt64 &&& 63)), .int (x5 + (1 : Int32))]) (rest := []) rfl rfl).trans (ex_bnd fun u1 => ?_)
                exact ex_zreturn
    · refine (ex_iconst).trans ?_
      exact ex_zreturn0
-- 36: WiringContainer$ClassTable.become(IJ)J
set_option maxRecDepth 100000 in
set_option maxHeartbeats 4000000 in
theorem cp_36_g (d : Nat) (σ : mm_S) (x1 : Int32) (y2 : Int64) : cG (d + 1) 36 [.ref 1, .int x1, .long y2] σ = (if (lg_cmp (y2 >>> (((5 : Int32)).toInt64 &&& 63)) (0 : Int64)) = 0 then (if mm_in ((y2 &&& (31 : Int64))).toInt32 32 then (if (σ.1 6 (((y2 &&& (31 : Int64))).toInt32).toNatClampNeg) = 0 then (mm_ex sc (cG d) 2 cp_36_l (99999979 + 5) cp_36_r1 [.ref 1, .int x1, .long y2, .null, .long (y2 >>> (((5 : Int32)).toInt64 &&& 63)), .null, .null, .null] [] σ) else (some (0, ((x1 &&& (31 : Int32))).toInt64, σ))) else none) else (mm_ex sc (cG d) 2 cp_36_l (99999979 + 13) cp_36_r1 [.ref 1, .int x1, .long y2, .null, .long (y2 >>> (((5 : Int32)).toInt64 &&& 63)), .null, .null, .null] [] σ)) := by
  refine (mm_entry 99999979 21 (maxL := 8) (labs := cp_36_l) (rows := cp_36_r0) (L := [.ref 1, .int x1, .long y2, .null, .null, .null, .null, .null]) (rk := 2) rfl rfl rfl rfl rfl rfl).trans ?_
  refine (ex_lload_n (x := y2) rfl).trans ?_
  refine (ex_iconst).trans ?_
  refine (ex_lshr).trans ?_
  refine (ex_lstore (L2 := [.ref 1, .int x1, .long y2, .null, .long (y2 >>> (((5 : Int32)).toInt64 &&& 63)), .null, .null, .null]) rfl).trans ?_
  refine (ex_lload (x := (y2 >>> (((5 : Int32)).toInt64 &&& 63))) rfl).trans ?_
  refine (ex_lconst).trans ?_
  refine (ex_lcmp).trans ?_
  refine (ex_if_ne (p := 32) (q := cp_36_r1) rfl).trans (ex_ite ?_ ?_)
  · refine (ex_aload_n (x := 1) rfl).trans ?_
    refine (ex_get (u := .ref 6) rfl).trans ?_
    refine (ex_lload_n (x := y2) rfl).trans ?_
    refine (ex_ldc2_w).trans ?_
    refine (ex_land).trans ?_
    refine (ex_l2i).trans ?_
    refine (ex_baload (z := 32) rfl).trans (ex_ite ?_ rfl)
    refine (ex_if_eq (p := 32) (q := cp_36_r1) rfl).trans (ex_ite ?_ ?_)
    · exact rfl
    · refine (ex_iload_n (x := x1) rfl).trans ?_
      refine (ex_bipush).trans ?_
      refine (ex_iand).trans ?_
      refine (ex_i2l).trans ?_
      exact ex_lreturn
  · exact rfl
set_option maxRecDepth 100000 in
set_option maxHeartbeats 4000000 in
theorem cp_36_h1 (d n : Nat) (σ : mm_S) (x1 : Int32) (y2 : Int64) (y4 : Int64) : mm_ex sc (cG d) 2 cp_36_l (n + 2) cp_36_r1 [.ref 1, .int x1, .long y2, .null, .long y4, .null, .null, .null] [] σ = (mm_ex sc (cG d) 2 cp_36_l (n + 0) cp_36_r2 [.ref 1, .int x1, .long y2, .null, .long y4, .null, .int (1 : Int32), .null] [] σ) := by
  refine (ex_iconst).trans ?_
  refine (ex_istore (L2 := [.ref 1, .int x1, .long y2, .null, .long y4, .null, .int (1 : Int32), .null]) rfl).trans ?_
  exact rfl
set_option maxRecDepth 100000 in
set_option maxHeartbeats 4000000 in
theorem cp_36_h2 (d n : Nat) (σ : mm_S) (x1 : Int32) (y2 : Int64) (y4 : Int64) (x6 : Int32) : mm_ex sc (cG d) 2 cp_36_l (n + 25) cp_36_r2 [.ref 1, .int x1, .long y2, .null, .long y4, .null, .int x6, .null] [] σ = (if (3 : Int32) ≤ x6 then (some (0, (x1).toInt64, σ)) else (if (x1 >>> ((x6 * (5 : Int32)) &&& 31)) = (31 : Int32) then (some (0, (((x1 &&& (((1 : Int32) <<< ((x6 * (5 : Int32)) &&& 31)) - (1 : Int32)))).toInt64 ||| (y4 <<< (((x6 * (5 : Int32))).toInt64 &&& 63))), σ)) else (mm_ex sc (cG d) 2 cp_36_l (n + 11) cp_36_r2 [.ref 1, .int x1, .long y2, .null, .long y4, .null, .int (x6 + (1 : Int32)), .int (x6 * (5 : Int32))] [] σ))) := by
  refine (ex_iload (x := x6) rfl).trans ?_
  refine (ex_iconst).trans ?_
  refine (ex_ic_ge (p := 78) (q := cp_36_r4) rfl).trans (ex_ite ?_ ?_)
  · refine (ex_iload_n (x := x1) rfl).trans ?_
    refine (ex_i2l).trans ?_
    exact ex_lreturn
  · refine (ex_iload (x := x6) rfl).trans ?_
    refine (ex_iconst).trans ?_
    refine (ex_imul).trans ?_
    refine (ex_istore (L2 := [.ref 1, .int x1, .long y2, .null, .long y4, .null, .int x6, .int (x6 * (5 : Int32))]) rfl).trans ?_
    refine (ex_iload_n (x := x1) rfl).trans ?_
    refine (ex_iload (x := (x6 * (5 : Int32))) rfl).trans ?_
    refine (ex_ishr).trans ?_
    refine (ex_bipush).trans ?_
    refine (ex_ic_ne (p := 72) (q := cp_36_r3) rfl).trans (ex_ite ?_ ?_)
    · refine (ex_iload_n (x := x1) rfl).trans ?_
      refine (ex_iconst).trans ?_
      refine (ex_iload (x := (x6 * (5 : Int32))) rfl).trans ?_
      refine (ex_ishl).trans ?_
      refine (ex_iconst).trans ?_
      refine (ex_isub).trans ?_
      refine (ex_iand).trans ?_
      refine (ex_i2l).trans ?_
      refine (ex_lload (x := y4) rfl).trans ?_
      refine (ex_iload (x := (x6 * (5 : Int32))) rfl).trans ?_
      refine (ex_lshl).trans ?_
      refine (ex_lor).trans ?_
      exact ex_lreturn
    · refine (ex_iinc (L2 := [.ref 1, .int x1, .long y2, .null, .long y4, .null, .int (x6 + (1 : Int32)), .int (x6 * (5 : Int32))]) rfl rfl).trans ?_
      refine (ex_goto (p := 35) (q := cp_36_r2) rfl).trans ?_
      exact rfl
-- 37: WiringContainer$ClassTable.note(J)V
set_option maxRecDepth 100000 in
set_option maxHeartbeats 4000000 in
theorem cp_37_g (d : Nat) (σ : mm_S) (y1 : Int64) : cG (d + 1) 37 [.ref 1, .long y1] σ = (mm_ex sc (cG d) 0 cp_37_l (99999998 + 0) cp_37_r1 [.ref 1, .long y1, .null, .int (0 : Int32)] [] σ) := by
  refine (mm_entry 99999998 2 (maxL := 4) (labs := cp_37_l) (rows := cp_37_r0) (L := [.ref 1, .long y1, .null, .null]) (rk := 0) rfl rfl rfl rfl rfl rfl).trans ?_
  refine (ex_iconst).trans ?_
  refine (ex_istore_n (L2 := [.ref 1, .long y1, .null, .int (0 : Int32)]) rfl).trans ?_
  exact rfl
set_option maxRecDepth 100000 in
set_option maxHeartbeats 4000000 in
theorem cp_37_h1 (d n : Nat) (σ : mm_S) (y1 : Int64) (x3 : Int32) : mm_ex sc (cG d) 0 cp_37_l (n + 21) cp_37_r1 [.ref 1, .long y1, .null, .int x3] [] σ = (if (σ.1 1 8) ≤ x3 then (if (16 : Int32) ≤ (σ.1 1 8) then (some (0, 0, σ)) else (if mm_in (σ.1 1 8) 16 then (some (0, 0, ((mm_w σ.1 1 8 ((σ.1 1 8) + (1 : Int32))), (mm_w σ.2 12 ((σ.1 1 8)).toNatClampNeg y1)))) else none)) else (if mm_in x3 16 then (if (lg_cmp (σ.2 12 (x3).toNatClampNeg) y1) = 0 then (some (0, 0, σ)) else (mm_ex sc (cG d) 0 cp_37_l (n + 8) cp_37_r1 [.ref 1, .long y1, .null, .int (x3 + (1 : Int32))] [] σ)) else none)) := by
  refine (ex_iload_n (x := x3) rfl).trans ?_
  refine (ex_aload_n (x := 1) rfl).trans ?_
  refine (ex_get (u := .int (σ.1 1 8)) rfl).trans ?_
  refine (ex_ic_ge (p := 28) (q := cp_37_r3) rfl).trans (ex_ite ?_ ?_)
  · refine (ex_aload_n (x := 1) rfl).trans ?_
    refine (ex_get (u := .int (σ.1 1 8)) rfl).trans ?_
    refine (ex_bipush).trans ?_
    refine (ex_ic_ge (p := 57) (q := cp_37_r4) rfl).trans (ex_ite ?_ ?_)
    · exact ex_return
    · refine (ex_aload_n (x := 1) rfl).trans ?_
      refine (ex_get (u := .ref 12) rfl).trans ?_
      refine (ex_aload_n (x := 1) rfl).trans ?_
      refine (ex_get (u := .int (σ.1 1 8)) rfl).trans ?_
      refine (ex_lload_n (x := y1) rfl).trans ?_
      refine (ex_lastore (z := 16) rfl).trans (ex_ite ?_ rfl)
      refine (ex_aload_n (x := 1) rfl).trans ?_
      refine (ex_dup).trans ?_
      refine (ex_get (u := .int (σ.1 1 8)) rfl).trans ?_
      refine (ex_iconst).trans ?_
      refine (ex_iadd).trans ?_
      refine (ex_put (u := ()) rfl).trans ?_
      exact ex_return
  · refine (ex_aload_n (x := 1) rfl).trans ?_
    refine (ex_get (u := .ref 12) rfl).trans ?_
    refine (ex_iload_n (x := x3) rfl).trans ?_
    refine (ex_laload (z := 16) rfl).trans (ex_ite ?_ rfl)
    refine (ex_lload_n (x := y1) rfl).trans ?_
    refine (ex_lcmp).trans ?_
    refine (ex_if_ne (p := 22) (q := cp_37_r2) rfl).trans (ex_ite ?_ ?_)
    · exact ex_return
    · refine (ex_iinc (L2 := [.ref 1, .long y1, .null, .int (x3 + (1 : Int32))]) rfl rfl).trans ?_
      refine (ex_goto (p := 2) (q := cp_37_r1) rfl).trans ?_
      exact rfl
-- 38: WiringContainer$ClassTable.isTypeCode(IIZZ)Z
set_option maxRecDepth 100000 in
set_option maxHeartbeats 4000000 in
theorem cp_38_g (d : Nat) (σ : mm_S) (x1 : Int32) (x2 : Int32) (x3 : Int32) (x4 : Int32) : cG (d + 1) 38 [.ref 1, .int x1, .int x2, .int x3, .int x4] σ = (if x1 ≤ 0 then (some ((0 : Int32), 0, σ)) else (if x2 ≤ 0 then (some ((0 : Int32), 0, σ)) else ((cG d 25 [.ref 1, .int (x1 &&& (31 : Int32))] σ).bind fun u1 => (if u1.1 = 0 then (some ((0 : Int32), 0, u1.2.2)) else (if (x1 >>> ((5 : Int32) &&& 31)) = 0 then (some ((1 : Int32), 0, u1.2.2)) else (if mm_in (x1 &&& (31 : Int32)) 32 then (if (u1.2.2.1 6 ((x1 &&& (31 : Int32))).toNatClampNeg) = 0 then (some ((0 : Int32), 0, u1.2.2)) else ((cG d 39 [.ref 1, .int (x1 >>> ((5 : Int32) &&& 31)), .int (x2 - (1 : Int32)), .int x3, .int x4] u1.2.2).bind fun u2 => (if u2.1 = 0 then (some ((0 : Int32), 0, u2.2.2)) else (some ((1 : Int32), 0, u2.2.2))))) else none)))))) := by
  refine (mm_entry 99999965 35 (maxL := 7) (labs := cp_38_l) (rows := cp_38_r0) (L := [.ref 1, .int x1, .int x2, .int x3, .int x4, .null, .null]) (rk := 3) rfl rfl rfl rfl rfl rfl).trans ?_
  refine (ex_iload_n (x := x1) rfl).trans ?_
  refine (ex_bipush).trans ?_
  refine (ex_iand).trans ?_
  refine (ex_istore (L2 := [.ref 1, .int x1, .int x2, .int x3, .int x4, .int (x1 &&& (31 : Int32)), .null]) rfl).trans ?_
  refine (ex_iload_n (x := x1) rfl).trans ?_
  refine (ex_if_le (p := 23) (q := cp_38_r1) rfl).trans (ex_ite ?_ ?_)
  · refine (ex_iconst).trans ?_
    exact ex_zreturn0
  · refine (ex_iload_n (x := x2) rfl).trans ?_
    refine (ex_if_le (p := 23) (q := cp_38_r1) rfl).trans (ex_ite ?_ ?_)
    · refine (ex_iconst).trans ?_
      exact ex_zreturn0
    · refine (ex_aload_n (x := 1) rfl).trans ?_
      refine (ex_iload (x := (x1 &&& (31 : Int32))) rfl).trans ?_
      refine (ex_inv_z (As := [.ref 1, .int (x1 &&& (31 : Int32))]) (rest := []) rfl rfl).trans (ex_bnd fun u1 => ?_)
      refine (ex_if_ne (p := 25) (q := cp_38_r2) rfl).trans (ex_ite ?_ ?_)
      · refine (ex_iconst).trans ?_
        exact ex_zreturn0
      · refine (ex_iload_n (x := x1) rfl).trans ?_
        refine (ex_iconst).trans ?_
        refine (ex_ishr).trans ?_
        refine (ex_istore (L2 := [.ref 1, .int x1, .int x2, .int x3, .int x4, .int (x1 &&& (31 : Int32)), .int (x1 >>> ((5 : Int32) &&& 31))]) rfl).trans ?_
        refine (ex_iload (x := (x1 >>> ((5 : Int32) &&& 31))) rfl).trans ?_
        refine (ex_if_eq (p := 60) (q := cp_38_r3) rfl).trans (ex_ite ?_ ?_)
        · refine (ex_iconst).trans ?_
          refine (ex_goto (p := 65) (q := cp_38_r5) rfl).trans ?_
          exact ex_zreturn1
        · refine (ex_aload_n (x := 1) rfl).trans ?_
          refine (ex_get (u := .ref 6) rfl).trans ?_
          refine (ex_iload (x := (x1 &&& (31 : Int32))) rfl).trans ?_
          refine (ex_baload (z := 32) rfl).trans (ex_ite ?_ rfl)
          refine (ex_if_eq (p := 64) (q := cp_38_r4) rfl).trans (ex_ite ?_ ?_)
          · refine (ex_iconst).trans ?_
            exact ex_zreturn0
          · refine (ex_aload_n (x := 1) rfl).trans ?_
            refine (ex_iload (x := (x1 >>> ((5 : Int32) &&& 31))) rfl).trans ?_
            refine (ex_iload_n (x := x2) rfl).trans ?_
            refine (ex_iconst).trans ?_
            refine (ex_isub).trans ?_
            refine (ex_iload_n (x := x3) rfl).trans ?_
            refine (ex_iload (x := x4) rfl).trans ?_
            refine (ex_inv_z (As := [.ref 1, .int (x1 >>> ((5 : Int32) &&& 31)), .int (x2 - (1 : Int32)), .int x3, .int x4]) (rest := []) rfl rfl).trans (ex_bnd fun u2 => ?_)
            refine (ex_if_eq (p := 64) (q := cp_38_r4) rfl).trans (ex_ite ?_ ?_)
            · refine (ex_iconst).trans ?_
              exact ex_zreturn0
            · refine (ex_iconst).trans ?_
              refine (ex_goto (p := 65) (q := cp_38_r5) rfl).trans ?_
              exact ex_zreturn1
-- 39: WiringContainer$ClassTable.isArgumentCode(IIZZ)Z
set_option maxRecDepth 100000 in
set_option maxHeartbeats 4000000 in
theorem cp_39_g (d : Nat) (σ : mm_S) (x1 : Int32) (x2 : Int32) (x3 : Int32) (x4 : Int32) : cG (d + 1) 39 [.ref 1, .int x1, .int x2, .int x3, .int x4] σ = (if 0 < x2 then (if ((x1 &&& (31 : Int32))).toInt < 29 ∨ 31 < ((x1 &&& (31 : Int32))).toInt then ((cG d 38 [.ref 1, .int x1, .int x2, .int x3, .int x4] σ).bind fun u1 => (if u1.1 = 0 ∨ u1.1 = 1 then some (u1.1, 0, u1.2.2) else none)) else (cp_39_l[9 + (((x1 &&& (31 : Int32))).toInt - 29).toNat]?).bind fun z => mm_ex sc (cG d) 3 cp_39_l (99999987 + 7) z.2 [.ref 1, .int x1, .int x2, .int x3, .int x4] [] σ) else (some ((0 : Int32), 0, σ))) := by
  refine (mm_entry 99999987 13 (maxL := 5) (labs := cp_39_l) (rows := cp_39_r0) (L := [.ref 1, .int x1, .int x2, .int x3, .int x4]) (rk := 3) rfl rfl rfl rfl rfl rfl).trans ?_
  refine (ex_iload_n (x := x2) rfl).trans ?_
  refine (ex_if_gt (p := 6) (q := cp_39_r1) rfl).trans (ex_ite ?_ ?_)
  · refine (ex_iload_n (x := x1) rfl).trans ?_
    refine (ex_bipush).trans ?_
    refine (ex_iand).trans ?_
    refine (ex_sw (p := 95) (q := cp_39_r8) rfl).trans (ex_ite ?_ rfl)
    refine (ex_aload_n (x := 1) rfl).trans ?_
    refine (ex_iload_n (x := x1) rfl).trans ?_
    refine (ex_iload_n (x := x2) rfl).trans ?_
    refine (ex_iload_n (x := x3) rfl).trans ?_
    refine (ex_iload (x := x4) rfl).trans ?_
    refine (ex_inv_z (As := [.ref 1, .int x1, .int x2, .int x3, .int x4]) (rest := []) rfl rfl).trans (ex_bnd fun u1 => ?_)
    exact ex_zreturn
  · refine (ex_iconst).trans ?_
    exact ex_zreturn0
set_option maxRecDepth 100000 in
set_option maxHeartbeats 4000000 in
theorem cp_39_w9 (d n : Nat) (σ : mm_S) (x1 : Int32) (x2 : Int32) (x3 : Int32) (x4 : Int32) : mm_ex sc (cG d) 3 cp_39_l (n + 16) cp_39_r9 [.ref 1, .int x1, .int x2, .int x3, .int x4] [] σ = (if x3 = 0 then (some ((0 : Int32), 0, σ)) else ((cG d 38 [.ref 1, .int (x1 >>> ((5 : Int32) &&& 31)), .int (x2 - (1 : Int32)), .int (1 : Int32), .int x4] σ).bind fun u1 => (if u1.1 = 0 then (some ((0 : Int32), 0, u1.2.2)) else (some ((1 : Int32), 0, u1.2.2))))) := by
  refine (ex_iload_n (x := x3) rfl).trans ?_
  refine (ex_if_eq (p := 93) (q := cp_39_r6) rfl).trans (ex_ite ?_ ?_)
  · refine (ex_iconst).trans ?_
    exact ex_zreturn0
  · refine (ex_aload_n (x := 1) rfl).trans ?_
    refine (ex_iload_n (x := x1) rfl).trans ?_
    refine (ex_iconst).trans ?_
    refine (ex_ishr).trans ?_
    refine (ex_iload_n (x := x2) rfl).trans ?_
    refine (ex_iconst).trans ?_
    refine (ex_isub).trans ?_
    refine (ex_iconst).trans ?_
    refine (ex_iload (x := x4) rfl).trans ?_
    refine (ex_inv_z (As := [.ref 1, .int (x1 >>> ((5 : Int32) &&& 31)), .int (x2 - (1 : Int32)), .int (1 : Int32), .int x4]) (rest := []) rfl rfl).trans (ex_bnd fun u1 => ?_)
    refine (ex_if_eq (p := 93) (q := cp_39_r6) rfl).trans (ex_ite ?_ ?_)
    · refine (ex_iconst).trans ?_
      exact ex_zreturn0
    · refine (ex_iconst).trans ?_
      refine (ex_goto (p := 94) (q := cp_39_r7) rfl).trans ?_
      exact ex_zreturn1
set_option maxRecDepth 100000 in
set_option maxHeartbeats 4000000 in
theorem cp_39_w10 (d n : Nat) (σ : mm_S) (x1 : Int32) (x2 : Int32) (x3 : Int32) (x4 : Int32) : mm_ex sc (cG d) 3 cp_39_l (n + 8) cp_39_r10 [.ref 1, .int x1, .int x2, .int x3, .int x4] [] σ = (if x3 = 0 then (some ((0 : Int32), 0, σ)) else (if x1 = (30 : Int32) then (some ((1 : Int32), 0, σ)) else (some ((0 : Int32), 0, σ)))) := by
  refine (ex_iload_n (x := x3) rfl).trans ?_
  refine (ex_if_eq (p := 67) (q := cp_39_r4) rfl).trans (ex_ite ?_ ?_)
  · refine (ex_iconst).trans ?_
    exact ex_zreturn0
  · refine (ex_iload_n (x := x1) rfl).trans ?_
    refine (ex_bipush).trans ?_
    refine (ex_ic_ne (p := 67) (q := cp_39_r4) rfl).trans (ex_ite ?_ ?_)
    · refine (ex_iconst).trans ?_
      refine (ex_goto (p := 68) (q := cp_39_r5) rfl).trans ?_
      exact ex_zreturn1
    · refine (ex_iconst).trans ?_
      exact ex_zreturn0
set_option maxRecDepth 100000 in
set_option maxHeartbeats 4000000 in
theorem cp_39_w11 (d n : Nat) (σ : mm_S) (x1 : Int32) (x2 : Int32) (x3 : Int32) (x4 : Int32) : mm_ex sc (cG d) 3 cp_39_l (n + 8) cp_39_r11 [.ref 1, .int x1, .int x2, .int x3, .int x4] [] σ = (if x4 = 0 then (some ((0 : Int32), 0, σ)) else (if x1 = (31 : Int32) then (some ((1 : Int32), 0, σ)) else (some ((0 : Int32), 0, σ)))) := by
  refine (ex_iload (x := x4) rfl).trans ?_
  refine (ex_if_eq (p := 51) (q := cp_39_r2) rfl).trans (ex_ite ?_ ?_)
  · refine (ex_iconst).trans ?_
    exact ex_zreturn0
  · refine (ex_iload_n (x := x1) rfl).trans ?_
    refine (ex_bipush).trans ?_
    refine (ex_ic_ne (p := 51) (q := cp_39_r2) rfl).trans (ex_ite ?_ ?_)
    · refine (ex_iconst).trans ?_
      refine (ex_goto (p := 52) (q := cp_39_r3) rfl).trans ?_
      exact ex_zreturn1
    · refine (ex_iconst).trans ?_
      exact ex_zreturn0
