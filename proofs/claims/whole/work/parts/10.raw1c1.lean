/-! THE CLASS, stretch by stretch, as pure equations (by program) -/
-- 40: WiringContainer$ContextTable.isActive(I)Z
set_option maxRecDepth 100000 in
set_option maxHeartbeats 4000000 in
theorem cp_40_g (d : Nat) (σ : mm_S) (x1 : Int32) : cG (d + 1) 40 [.ref 5, .int x1] σ = ((cG d 47 [.int x1] σ).bind fun u1 => (if u1.1 = 0 then (some ((0 : Int32), 0, u1.2.2)) else (if mm_in x1 4 then (if (u1.2.2.1 42 (x1).toNatClampNeg) = 0 then (some ((0 : Int32), 0, u1.2.2)) else (some ((1 : Int32), 0, u1.2.2))) else none))) := by
  refine (mm_entry 99999989 11 (maxL := 2) (labs := cp_40_l) (rows := cp_40_r0) (L := [.ref 5, .int x1]) (rk := 3) rfl rfl rfl rfl rfl rfl).trans ?_
  refine (ex_iload_n (x := x1) rfl).trans ?_
  refine (ex_sta_z (As := [.int x1]) (rest := []) (by decide) (by decide) rfl rfl).trans (ex_bnd fun u1 => ?_)
  refine (ex_if_eq (p := 20) (q := cp_40_r1) rfl).trans (ex_ite ?_ ?_)
  · refine (ex_iconst).trans ?_
    exact ex_zreturn0
  · refine (ex_aload_n (x := 5) rfl).trans ?_
    refine (ex_get (u := .ref 42) rfl).trans ?_
    refine (ex_iload_n (x := x1) rfl).trans ?_
    refine (ex_baload (z := 4) rfl).trans (ex_ite ?_ rfl)
    refine (ex_if_eq (p := 20) (q := cp_40_r1) rfl).trans (ex_ite ?_ ?_)
    · refine (ex_iconst).trans ?_
      exact ex_zreturn0
    · refine (ex_iconst).trans ?_
      refine (ex_goto (p := 21) (q := cp_40_r2) rfl).trans ?_
      exact ex_zreturn1
-- 41: WiringContainer$ContextTable.open(I)V
set_option maxRecDepth 100000 in
set_option maxHeartbeats 4000000 in
theorem cp_41_g (d : Nat) (σ : mm_S) (x1 : Int32) : cG (d + 1) 41 [.ref 5, .int x1] σ = ((cG d 47 [.int x1] σ).bind fun u1 => (if u1.1 = 0 then (some (0, 0, u1.2.2)) else (if mm_in x1 4 then (some (0, 0, ((mm_w u1.2.2.1 42 (x1).toNatClampNeg (1 : Int32)), u1.2.2.2))) else none))) := by
  refine (mm_entry 99999991 9 (maxL := 2) (labs := cp_41_l) (rows := cp_41_r0) (L := [.ref 5, .int x1]) (rk := 0) rfl rfl rfl rfl rfl rfl).trans ?_
  refine (ex_iload_n (x := x1) rfl).trans ?_
  refine (ex_sta_z (As := [.int x1]) (rest := []) (by decide) (by decide) rfl rfl).trans (ex_bnd fun u1 => ?_)
  refine (ex_if_eq (p := 14) (q := cp_41_r1) rfl).trans (ex_ite ?_ ?_)
  · exact ex_return
  · refine (ex_aload_n (x := 5) rfl).trans ?_
    refine (ex_get (u := .ref 42) rfl).trans ?_
    refine (ex_iload_n (x := x1) rfl).trans ?_
    refine (ex_iconst).trans ?_
    refine (ex_bastore (z := 4) rfl).trans (ex_ite ((if_pos (by decide)).trans ?_) rfl)
    exact ex_return
-- 42: WiringContainer$ContextTable.close(I)V
set_option maxRecDepth 100000 in
set_option maxHeartbeats 4000000 in
theorem cp_42_g (d : Nat) (σ : mm_S) (x1 : Int32) : cG (d + 1) 42 [.ref 5, .int x1] σ = ((cG d 47 [.int x1] σ).bind fun u1 => (if u1.1 = 0 then (some (0, 0, u1.2.2)) else (if mm_in x1 4 then (some (0, 0, ((mm_w u1.2.2.1 42 (x1).toNatClampNeg (0 : Int32)), u1.2.2.2))) else none))) := by
  refine (mm_entry 99999991 9 (maxL := 2) (labs := cp_42_l) (rows := cp_42_r0) (L := [.ref 5, .int x1]) (rk := 0) rfl rfl rfl rfl rfl rfl).trans ?_
  refine (ex_iload_n (x := x1) rfl).trans ?_
  refine (ex_sta_z (As := [.int x1]) (rest := []) (by decide) (by decide) rfl rfl).trans (ex_bnd fun u1 => ?_)
  refine (ex_if_eq (p := 14) (q := cp_42_r1) rfl).trans (ex_ite ?_ ?_)
  · exact ex_return
  · refine (ex_aload_n (x := 5) rfl).trans ?_
    refine (ex_get (u := .ref 42) rfl).trans ?_
    refine (ex_iload_n (x := x1) rfl).trans ?_
    refine (ex_iconst).trans ?_
    refine (ex_bastore (z := 4) rfl).trans (ex_ite ((if_pos (by decide)).trans ?_) rfl)
    exact ex_return
-- 43: WiringContainer$ContextTable.heldFor(II)I
set_option maxRecDepth 100000 in
set_option maxHeartbeats 4000000 in
theorem cp_43_g (d : Nat) (σ : mm_S) (x1 : Int32) (x2 : Int32) : cG (d + 1) 43 [.ref 5, .int x1, .int x2] σ = ((cG d 47 [.int x1] σ).bind fun u1 => (if u1.1 = 0 then (some ((0 : Int32), 0, u1.2.2)) else ((cG d 48 [.int x2] u1.2.2).bind fun u2 => (if u2.1 = 0 then (some ((0 : Int32), 0, u2.2.2)) else ((mm_grid sc 43 x1).bind fun q3 => ((mm_arr sc q3 0).bind fun z4 => if mm_in x2 z4 then (some ((u2.2.2.1 q3 (x2).toNatClampNeg), 0, u2.2.2)) else none)))))) := by
  refine (mm_entry 99999986 14 (maxL := 3) (labs := cp_43_l) (rows := cp_43_r0) (L := [.ref 5, .int x1, .int x2]) (rk := 1) rfl rfl rfl rfl rfl rfl).trans ?_
  refine (ex_iload_n (x := x1) rfl).trans ?_
  refine (ex_sta_z (As := [.int x1]) (rest := []) (by decide) (by decide) rfl rfl).trans (ex_bnd fun u1 => ?_)
  refine (ex_if_eq (p := 25) (q := cp_43_r1) rfl).trans (ex_ite ?_ ?_)
  · refine (ex_iconst).trans ?_
    exact ex_ireturn
  · refine (ex_iload_n (x := x2) rfl).trans ?_
    refine (ex_sta_z (As := [.int x2]) (rest := []) (by decide) (by decide) rfl rfl).trans (ex_bnd fun u2 => ?_)
    refine (ex_if_eq (p := 25) (q := cp_43_r1) rfl).trans (ex_ite ?_ ?_)
    · refine (ex_iconst).trans ?_
      exact ex_ireturn
    · refine (ex_aload_n (x := 5) rfl).trans ?_
      refine (ex_get (u := .ref 43) rfl).trans ?_
      refine (ex_iload_n (x := x1) rfl).trans ?_
      refine ex_aaload.trans (ex_bnd fun q3 => ?_)
      refine (ex_iload_n (x := x2) rfl).trans ?_
      refine ex_iaload_b.trans (ex_bnd fun z4 => ex_ite ?_ rfl)
      refine (ex_goto (p := 26) (q := cp_43_r2) rfl).trans ?_
      exact ex_ireturn
-- 44: WiringContainer$ContextTable.hold(III)V
set_option maxRecDepth 100000 in
set_option maxHeartbeats 4000000 in
theorem cp_44_g (d : Nat) (σ : mm_S) (x1 : Int32) (x2 : Int32) (x3 : Int32) : cG (d + 1) 44 [.ref 5, .int x1, .int x2, .int x3] σ = ((cG d 47 [.int x1] σ).bind fun u1 => (if u1.1 = 0 then (some (0, 0, u1.2.2)) else ((cG d 48 [.int x2] u1.2.2).bind fun u2 => (if u2.1 = 0 then (some (0, 0, u2.2.2)) else ((mm_grid sc 43 x1).bind fun q3 => ((mm_arr sc q3 0).bind fun z4 => if mm_in x2 z4 then (some (0, 0, ((mm_w u2.2.2.1 q3 (x2).toNatClampNeg x3), u2.2.2.2))) else none)))))) := by
  refine (mm_entry 99999986 14 (maxL := 4) (labs := cp_44_l) (rows := cp_44_r0) (L := [.ref 5, .int x1, .int x2, .int x3]) (rk := 0) rfl rfl rfl rfl rfl rfl).trans ?_
  refine (ex_iload_n (x := x1) rfl).trans ?_
  refine (ex_sta_z (As := [.int x1]) (rest := []) (by decide) (by decide) rfl rfl).trans (ex_bnd fun u1 => ?_)
  refine (ex_if_eq (p := 23) (q := cp_44_r1) rfl).trans (ex_ite ?_ ?_)
  · exact ex_return
  · refine (ex_iload_n (x := x2) rfl).trans ?_
    refine (ex_sta_z (As := [.int x2]) (rest := []) (by decide) (by decide) rfl rfl).trans (ex_bnd fun u2 => ?_)
    refine (ex_if_eq (p := 23) (q := cp_44_r1) rfl).trans (ex_ite ?_ ?_)
    · exact ex_return
    · refine (ex_aload_n (x := 5) rfl).trans ?_
      refine (ex_get (u := .ref 43) rfl).trans ?_
      refine (ex_iload_n (x := x1) rfl).trans ?_
      refine ex_aaload.trans (ex_bnd fun q3 => ?_)
      refine (ex_iload_n (x := x2) rfl).trans ?_
      refine (ex_iload_n (x := x3) rfl).trans ?_
      refine ex_iastore_b.trans (ex_bnd fun z4 => ex_ite ?_ rfl)
      exact ex_return
-- 45: WiringContainer$ContextTable.takeLatest(I)I
set_option maxRecDepth 100000 in
set_option maxHeartbeats 4000000 in
theorem cp_45_g (d : Nat) (σ : mm_S) (x1 : Int32) : cG (d + 1) 45 [.ref 5, .int x1] σ = ((cG d 47 [.int x1] σ).bind fun u1 => (if u1.1 = 0 then (some ((0 : Int32), 0, u1.2.2)) else (mm_ex sc (cG d) 1 cp_45_l (99999991 + 0) cp_45_r2 [.ref 5, .int x1, .int (0 : Int32), .int (0 : Int32), .int (0 : Int32)] [] u1.2.2))) := by
  refine (mm_entry 99999991 9 (maxL := 5) (labs := cp_45_l) (rows := cp_45_r0) (L := [.ref 5, .int x1, .null, .null, .null]) (rk := 1) rfl rfl rfl rfl rfl rfl).trans ?_
  refine (ex_iload_n (x := x1) rfl).trans ?_
  refine (ex_sta_z (As := [.int x1]) (rest := []) (by decide) (by decide) rfl rfl).trans (ex_bnd fun u1 => ?_)
  refine (ex_if_ne (p := 9) (q := cp_45_r1) rfl).trans (ex_ite ?_ ?_)
  · refine (ex_iconst).trans ?_
    exact ex_ireturn
  · refine (ex_iconst).trans ?_
    refine (ex_istore_n (L2 := [.ref 5, .int x1, .int (0 : Int32), .null, .null]) rfl).trans ?_
    refine (ex_iconst).trans ?_
    refine (ex_istore_n (L2 := [.ref 5, .int x1, .int (0 : Int32), .int (0 : Int32), .null]) rfl).trans ?_
    refine (ex_iconst).trans ?_
    refine (ex_istore (L2 := [.ref 5, .int x1, .int (0 : Int32), .int (0 : Int32), .int (0 : Int32)]) rfl).trans ?_
    exact rfl
set_option maxRecDepth 100000 in
set_option maxHeartbeats 4000000 in
theorem cp_45_h2 (d n : Nat) (σ : mm_S) (x1 : Int32) (x2 : Int32) (x3 : Int32) (x4 : Int32) : mm_ex sc (cG d) 1 cp_45_l (n + 22) cp_45_r2 [.ref 5, .int x1, .int x2, .int x3, .int x4] [] σ = (if (16 : Int32) ≤ x4 then ((mm_grid sc 43 x1).bind fun q1 => ((mm_arr sc q1 0).bind fun z2 => if mm_in x3 z2 then (some (x2, 0, ((mm_w σ.1 q1 (x3).toNatClampNeg (0 : Int32)), σ.2))) else none)) else ((mm_grid sc 43 x1).bind fun q3 => ((mm_arr sc q3 0).bind fun z4 => if mm_in x4 z4 then (if (σ.1 q3 (x4).toNatClampNeg) ≤ x2 then (mm_ex sc (cG d) 1 cp_45_l (n + 9) cp_45_r2 [.ref 5, .int x1, .int x2, .int x3, .int (x4 + (1 : Int32))] [] σ) else ((mm_grid sc 43 x1).bind fun q5 => ((mm_arr sc q5 0).bind fun z6 => if mm_in x4 z6 then (mm_ex sc (cG d) 1 cp_45_l (n + 0) cp_45_r2 [.ref 5, .int x1, .int (σ.1 q5 (x4).toNatClampNeg), .int x4, .int (x4 + (1 : Int32))] [] σ) else none))) else none))) := by
  refine (ex_iload (x := x4) rfl).trans ?_
  refine (ex_bipush).trans ?_
  refine (ex_ic_ge (p := 55) (q := cp_45_r4) rfl).trans (ex_ite ?_ ?_)
  · refine (ex_aload_n (x := 5) rfl).trans ?_
    refine (ex_get (u := .ref 43) rfl).trans ?_
    refine (ex_iload_n (x := x1) rfl).trans ?_
    refine ex_aaload.trans (ex_bnd fun q1 => ?_)
    refine (ex_iload_n (x := x3) rfl).trans ?_
    refine (ex_iconst).trans ?_
    refine ex_iastore_b.trans (ex_bnd fun z2 => ex_ite ?_ rfl)
    refine (ex_iload_n (x := x2) rfl).trans ?_
    exact ex_ireturn
  · refine (ex_aload_n (x := 5) rfl).trans ?_
    refine (ex_get (u := .ref 43) rfl).trans ?_
    refine (ex_iload_n (x := x1) rfl).trans ?_
    refine ex_aaload.trans (ex_bnd fun q3 => ?_)
    refine (ex_iload (x := x4) rfl).trans ?_
    refine ex_iaload_b.trans (ex_bnd fun z4 => ex_ite ?_ rfl)
    refine (ex_iload_n (x := x2) rfl).trans ?_
    refine (ex_ic_le (p := 49) (q := cp_45_r3) rfl).trans (ex_ite ?_ ?_)
    · refine (ex_iinc (L2 := [.ref 5, .int x1, .int x2, .int x3, .int (x4 + (1 : Int32))]) rfl rfl).trans ?_
      refine (ex_goto (p := 16) (q := cp_45_r2) rfl).trans ?_
      exact rfl
    · refine (ex_aload_n (x := 5) rfl).trans ?_
      refine (ex_get (u := .ref 43) rfl).trans ?_
      refine (ex_iload_n (x := x1) rfl).trans ?_
      refine ex_aaload.trans (ex_bnd fun q5 => ?_)
      refine (ex_iload (x := x4) rfl).trans ?_
      refine ex_iaload_b.trans (ex_bnd fun z6 => ex_ite ?_ rfl)
      refine (ex_istore_n (L2 := [.ref 5, .int x1, .int (σ.1 q5 (x4).toNatClampNeg), .int x3, .int x4]) rfl).trans ?_
      refine (ex_iload (x := x4) rfl).trans ?_
      refine (ex_istore_n (L2 := [.ref 5, .int x1, .int (σ.1 q5 (x4).toNatClampNeg), .int x4, .int x4]) rfl).trans ?_
      refine (ex_iinc (L2 := [.ref 5, .int x1, .int (σ.1 q5 (x4).toNatClampNeg), .int x4, .int (x4 + (1 : Int32))]) rfl rfl).trans ?_
      refine (ex_goto (p := 16) (q := cp_45_r2) rfl).trans ?_
      exact rfl
-- 46: WiringContainer$ContextTable.letGo(II)V
set_option maxRecDepth 100000 in
set_option maxHeartbeats 4000000 in
theorem cp_46_g (d : Nat) (σ : mm_S) (x1 : Int32) (x2 : Int32) : cG (d + 1) 46 [.ref 5, .int x1, .int x2] σ = ((cG d 48 [.int x1] σ).bind fun u1 => (if u1.1 = 0 then (some (0, 0, u1.2.2)) else (mm_ex sc (cG d) 0 cp_46_l (99999995 + 0) cp_46_r2 [.ref 5, .int x1, .int x2, .int (0 : Int32)] [] u1.2.2))) := by
  refine (mm_entry 99999995 5 (maxL := 4) (labs := cp_46_l) (rows := cp_46_r0) (L := [.ref 5, .int x1, .int x2, .null]) (rk := 0) rfl rfl rfl rfl rfl rfl).trans ?_
  refine (ex_iload_n (x := x1) rfl).trans ?_
  refine (ex_sta_z (As := [.int x1]) (rest := []) (by decide) (by decide) rfl rfl).trans (ex_bnd fun u1 => ?_)
  refine (ex_if_ne (p := 8) (q := cp_46_r1) rfl).trans (ex_ite ?_ ?_)
  · exact ex_return
  · refine (ex_iconst).trans ?_
    refine (ex_istore_n (L2 := [.ref 5, .int x1, .int x2, .int (0 : Int32)]) rfl).trans ?_
    exact rfl
set_option maxRecDepth 100000 in
set_option maxHeartbeats 4000000 in
theorem cp_46_h2 (d n : Nat) (σ : mm_S) (x1 : Int32) (x2 : Int32) (x3 : Int32) : mm_ex sc (cG d) 0 cp_46_l (n + 20) cp_46_r2 [.ref 5, .int x1, .int x2, .int x3] [] σ = (if (4 : Int32) ≤ x3 then (some (0, 0, σ)) else ((mm_grid sc 43 x3).bind fun q1 => ((mm_arr sc q1 0).bind fun z2 => if mm_in x1 z2 then (if (σ.1 q1 (x1).toNatClampNeg) = x2 then ((mm_grid sc 43 x3).bind fun q3 => ((mm_arr sc q3 0).bind fun z4 => if mm_in x1 z4 then (mm_ex sc (cG d) 0 cp_46_l (n + 0) cp_46_r2 [.ref 5, .int x1, .int x2, .int (x3 + (1 : Int32))] [] ((mm_w σ.1 q3 (x1).toNatClampNeg (0 : Int32)), σ.2)) else none)) else (mm_ex sc (cG d) 0 cp_46_l (n + 7) cp_46_r2 [.ref 5, .int x1, .int x2, .int (x3 + (1 : Int32))] [] σ)) else none))) := by
  refine (ex_iload_n (x := x3) rfl).trans ?_
  refine (ex_iconst).trans ?_
  refine (ex_ic_ge (p := 42) (q := cp_46_r4) rfl).trans (ex_ite ?_ ?_)
  · exact ex_return
  · refine (ex_aload_n (x := 5) rfl).trans ?_
    refine (ex_get (u := .ref 43) rfl).trans ?_
    refine (ex_iload_n (x := x3) rfl).trans ?_
    refine ex_aaload.trans (ex_bnd fun q1 => ?_)
    refine (ex_iload_n (x := x1) rfl).trans ?_
    refine ex_iaload_b.trans (ex_bnd fun z2 => ex_ite ?_ rfl)
    refine (ex_iload_n (x := x2) rfl).trans ?_
    refine (ex_ic_ne (p := 36) (q := cp_46_r3) rfl).trans (ex_ite ?_ ?_)
    · refine (ex_aload_n (x := 5) rfl).trans ?_
      refine (ex_get (u := .ref 43) rfl).trans ?_
      refine (ex_iload_n (x := x3) rfl).trans ?_
      refine ex_aaload.trans (ex_bnd fun q3 => ?_)
      refine (ex_iload_n (x := x1) rfl).trans ?_
      refine (ex_iconst).trans ?_
      refine ex_iastore_b.trans (ex_bnd fun z4 => ex_ite ?_ rfl)
      refine (ex_iinc (L2 := [.ref 5, .int x1, .int x2, .int (x3 + (1 : Int32))]) rfl rfl).trans ?_
      refine (ex_goto (p := 10) (q := cp_46_r2) rfl).trans ?_
      exact rfl
    · refine (ex_iinc (L2 := [.ref 5, .int x1, .int x2, .int (x3 + (1 : Int32))]) rfl rfl).trans ?_
      refine (ex_goto (p := 10) (q := cp_46_r2) rfl).trans ?_
      exact rfl
-- 47: WiringContainer$ContextTable.isContext(I)Z
set_option maxRecDepth 100000 in
set_option maxHeartbeats 4000000 in
theorem cp_47_g (d : Nat) (σ : mm_S) (x0 : Int32) : cG (d + 1) 47 [.int x0] σ = (if x0 < 0 then (some ((0 : Int32), 0, σ)) else (if (4 : Int32) ≤ x0 then (some ((0 : Int32), 0, σ)) else (some ((1 : Int32), 0, σ)))) := by
  refine (mm_entry 99999992 8 (maxL := 1) (labs := cp_47_l) (rows := cp_47_r0) (L := [.int x0]) (rk := 3) rfl rfl rfl rfl rfl rfl).trans ?_
  refine (ex_iload_n (x := x0) rfl).trans ?_
  refine (ex_if_lt (p := 13) (q := cp_47_r1) rfl).trans (ex_ite ?_ ?_)
  · refine (ex_iconst).trans ?_
    exact ex_zreturn0
  · refine (ex_iload_n (x := x0) rfl).trans ?_
    refine (ex_iconst).trans ?_
    refine (ex_ic_ge (p := 13) (q := cp_47_r1) rfl).trans (ex_ite ?_ ?_)
    · refine (ex_iconst).trans ?_
      exact ex_zreturn0
    · refine (ex_iconst).trans ?_
      refine (ex_goto (p := 14) (q := cp_47_r2) rfl).trans ?_
      exact ex_zreturn1
-- 48: WiringContainer$ContextTable.isRow(I)Z
set_option maxRecDepth 100000 in
set_option maxHeartbeats 4000000 in
theorem cp_48_g (d : Nat) (σ : mm_S) (x0 : Int32) : cG (d + 1) 48 [.int x0] σ = (if x0 < 0 then (some ((0 : Int32), 0, σ)) else (if (16 : Int32) ≤ x0 then (some ((0 : Int32), 0, σ)) else (some ((1 : Int32), 0, σ)))) := by
  refine (mm_entry 99999992 8 (maxL := 1) (labs := cp_48_l) (rows := cp_48_r0) (L := [.int x0]) (rk := 3) rfl rfl rfl rfl rfl rfl).trans ?_
  refine (ex_iload_n (x := x0) rfl).trans ?_
  refine (ex_if_lt (p := 14) (q := cp_48_r1) rfl).trans (ex_ite ?_ ?_)
  · refine (ex_iconst).trans ?_
    exact ex_zreturn0
  · refine (ex_iload_n (x := x0) rfl).trans ?_
    refine (ex_bipush).trans ?_
    refine (ex_ic_ge (p := 14) (q := cp_48_r1) rfl).trans (ex_ite ?_ ?_)
    · refine (ex_iconst).trans ?_
      exact ex_zreturn0
    · refine (ex_iconst).trans ?_
      refine (ex_goto (p := 15) (q := cp_48_r2) rfl).trans ?_
      exact ex_zreturn1
-- 49: WiringContainer$InstanceTable.numbersLeft()I
set_option maxRecDepth 100000 in
set_option maxHeartbeats 4000000 in
theorem cp_49_g (d : Nat) (σ : mm_S) : cG (d + 1) 49 [.ref 4] σ = (some (((200 : Int32) - (σ.1 4 0)), 0, σ)) := by
  refine (mm_entry 99999995 5 (maxL := 1) (labs := cp_49_l) (rows := cp_49_r0) (L := [.ref 4]) (rk := 1) rfl rfl rfl rfl rfl rfl).trans ?_
  refine (ex_sipush).trans ?_
  refine (ex_aload_n (x := 4) rfl).trans ?_
  refine (ex_get (u := .int (σ.1 4 0)) rfl).trans ?_
  refine (ex_isub).trans ?_
  exact ex_ireturn
-- 50: WiringContainer$InstanceTable.livingCount()I
set_option maxRecDepth 100000 in
set_option maxHeartbeats 4000000 in
theorem cp_50_g (d : Nat) (σ : mm_S) : cG (d + 1) 50 [.ref 4] σ = (some ((σ.1 4 1), 0, σ)) := by
  refine (mm_entry 99999997 3 (maxL := 1) (labs := cp_50_l) (rows := cp_50_r0) (L := [.ref 4]) (rk := 1) rfl rfl rfl rfl rfl rfl).trans ?_
  refine (ex_aload_n (x := 4) rfl).trans ?_
  refine (ex_get (u := .int (σ.1 4 1)) rfl).trans ?_
  exact ex_ireturn
-- 51: WiringContainer$InstanceTable.destroyedCount()I
set_option maxRecDepth 100000 in
set_option maxHeartbeats 4000000 in
theorem cp_51_g (d : Nat) (σ : mm_S) : cG (d + 1) 51 [.ref 4] σ = (some ((σ.1 4 2), 0, σ)) := by
  refine (mm_entry 99999997 3 (maxL := 1) (labs := cp_51_l) (rows := cp_51_r0) (L := [.ref 4]) (rk := 1) rfl rfl rfl rfl rfl rfl).trans ?_
  refine (ex_aload_n (x := 4) rfl).trans ?_
  refine (ex_get (u := .int (σ.1 4 2)) rfl).trans ?_
  exact ex_ireturn
-- 52: WiringContainer$InstanceTable.destroyedAt(I)I
set_option maxRecDepth 100000 in
set_option maxHeartbeats 4000000 in
theorem cp_52_g (d : Nat) (σ : mm_S) (x1 : Int32) : cG (d + 1) 52 [.ref 4, .int x1] σ = (if x1 < 0 then (some ((0 : Int32), 0, σ)) else (if (σ.1 4 2) ≤ x1 then (some ((0 : Int32), 0, σ)) else (if mm_in x1 200 then (some ((σ.1 41 (x1).toNatClampNeg), 0, σ)) else none))) := by
  refine (mm_entry 99999988 12 (maxL := 2) (labs := cp_52_l) (rows := cp_52_r0) (L := [.ref 4, .int x1]) (rk := 1) rfl rfl rfl rfl rfl rfl).trans ?_
  refine (ex_iload_n (x := x1) rfl).trans ?_
  refine (ex_if_lt (p := 21) (q := cp_52_r1) rfl).trans (ex_ite ?_ ?_)
  · refine (ex_iconst).trans ?_
    exact ex_ireturn
  · refine (ex_iload_n (x := x1) rfl).trans ?_
    refine (ex_aload_n (x := 4) rfl).trans ?_
    refine (ex_get (u := .int (σ.1 4 2)) rfl).trans ?_
    refine (ex_ic_ge (p := 21) (q := cp_52_r1) rfl).trans (ex_ite ?_ ?_)
    · refine (ex_iconst).trans ?_
      exact ex_ireturn
    · refine (ex_aload_n (x := 4) rfl).trans ?_
      refine (ex_get (u := .ref 41) rfl).trans ?_
      refine (ex_iload_n (x := x1) rfl).trans ?_
      refine (ex_iaload (z := 200) rfl).trans (ex_ite ?_ rfl)
      refine (ex_goto (p := 22) (q := cp_52_r2) rfl).trans ?_
      exact ex_ireturn
-- 53: WiringContainer$InstanceTable.isLiving(I)Z
set_option maxRecDepth 100000 in
set_option maxHeartbeats 4000000 in
theorem cp_53_g (d : Nat) (σ : mm_S) (x1 : Int32) : cG (d + 1) 53 [.ref 4, .int x1] σ = (if x1 < (1 : Int32) then (some ((0 : Int32), 0, σ)) else (if (σ.1 4 0) < x1 then (some ((0 : Int32), 0, σ)) else (if mm_in x1 201 then (if (σ.1 36 (x1).toNatClampNeg) = 0 then (some ((0 : Int32), 0, σ)) else (some ((1 : Int32), 0, σ))) else none))) := by
  refine (mm_entry 99999985 15 (maxL := 2) (labs := cp_53_l) (rows := cp_53_r0) (L := [.ref 4, .int x1]) (rk := 3) rfl rfl rfl rfl rfl rfl).trans ?_
  refine (ex_iload_n (x := x1) rfl).trans ?_
  refine (ex_iconst).trans ?_
  refine (ex_ic_lt (p := 26) (q := cp_53_r1) rfl).trans (ex_ite ?_ ?_)
  · refine (ex_iconst).trans ?_
    exact ex_zreturn0
  · refine (ex_iload_n (x := x1) rfl).trans ?_
    refine (ex_aload_n (x := 4) rfl).trans ?_
    refine (ex_get (u := .int (σ.1 4 0)) rfl).trans ?_
    refine (ex_ic_gt (p := 26) (q := cp_53_r1) rfl).trans (ex_ite ?_ ?_)
    · refine (ex_iconst).trans ?_
      exact ex_zreturn0
    · refine (ex_aload_n (x := 4) rfl).trans ?_
      refine (ex_get (u := .ref 36) rfl).trans ?_
      refine (ex_iload_n (x := x1) rfl).trans ?_
      refine (ex_baload (z := 201) rfl).trans (ex_ite ?_ rfl)
      refine (ex_if_eq (p := 26) (q := cp_53_r1) rfl).trans (ex_ite ?_ ?_)
      · refine (ex_iconst).trans ?_
        exact ex_zreturn0
      · refine (ex_iconst).trans ?_
        refine (ex_goto (p := 27) (q := cp_53_r2) rfl).trans ?_
        exact ex_zreturn1
-- 54: WiringContainer$InstanceTable.beanAt(I)I
set_option maxRecDepth 100000 in
set_option maxHeartbeats 4000000 in
theorem cp_54_g (d : Nat) (σ : mm_S) (x1 : Int32) : cG (d + 1) 54 [.ref 4, .int x1] σ = ((cG d 53 [.ref 4, .int x1] σ).bind fun u1 => (if u1.1 = 0 then (some ((-8 : Int32), 0, u1.2.2)) else (if mm_in x1 201 then (some ((u1.2.2.1 34 (x1).toNatClampNeg), 0, u1.2.2)) else none))) := by
  refine (mm_entry 99999990 10 (maxL := 2) (labs := cp_54_l) (rows := cp_54_r0) (L := [.ref 4, .int x1]) (rk := 1) rfl rfl rfl rfl rfl rfl).trans ?_
  refine (ex_aload_n (x := 4) rfl).trans ?_
  refine (ex_iload_n (x := x1) rfl).trans ?_
  refine (ex_inv_z (As := [.ref 4, .int x1]) (rest := []) rfl rfl).trans (ex_bnd fun u1 => ?_)
  refine (ex_if_eq (p := 17) (q := cp_54_r1) rfl).trans (ex_ite ?_ ?_)
  · refine (ex_bipush).trans ?_
    exact ex_ireturn
  · refine (ex_aload_n (x := 4) rfl).trans ?_
    refine (ex_get (u := .ref 34) rfl).trans ?_
    refine (ex_iload_n (x := x1) rfl).trans ?_
    refine (ex_iaload (z := 201) rfl).trans (ex_ite ?_ rfl)
    refine (ex_goto (p := 19) (q := cp_54_r2) rfl).trans ?_
    exact ex_ireturn
-- 55: WiringContainer$InstanceTable.ownerAt(I)I
set_option maxRecDepth 100000 in
set_option maxHeartbeats 4000000 in
theorem cp_55_g (d : Nat) (σ : mm_S) (x1 : Int32) : cG (d + 1) 55 [.ref 4, .int x1] σ = ((cG d 53 [.ref 4, .int x1] σ).bind fun u1 => (if u1.1 = 0 then (some ((-8 : Int32), 0, u1.2.2)) else (if mm_in x1 201 then (some ((u1.2.2.1 35 (x1).toNatClampNeg), 0, u1.2.2)) else none))) := by
  refine (mm_entry 99999990 10 (maxL := 2) (labs := cp_55_l) (rows := cp_55_r0) (L := [.ref 4, .int x1]) (rk := 1) rfl rfl rfl rfl rfl rfl).trans ?_
  refine (ex_aload_n (x := 4) rfl).trans ?_
  refine (ex_iload_n (x := x1) rfl).trans ?_
  refine (ex_inv_z (As := [.ref 4, .int x1]) (rest := []) rfl rfl).trans (ex_bnd fun u1 => ?_)
  refine (ex_if_eq (p := 17) (q := cp_55_r1) rfl).trans (ex_ite ?_ ?_)
  · refine (ex_bipush).trans ?_
    exact ex_ireturn
  · refine (ex_aload_n (x := 4) rfl).trans ?_
    refine (ex_get (u := .ref 35) rfl).trans ?_
    refine (ex_iload_n (x := x1) rfl).trans ?_
    refine (ex_iaload (z := 201) rfl).trans (ex_ite ?_ rfl)
    refine (ex_goto (p := 19) (q := cp_55_r2) rfl).trans ?_
    exact ex_ireturn
-- 56: WiringContainer$InstanceTable.partAt(II)I
set_option maxRecDepth 100000 in
set_option maxHeartbeats 4000000 in
theorem cp_56_g (d : Nat) (σ : mm_S) (x1 : Int32) (x2 : Int32) : cG (d + 1) 56 [.ref 4, .int x1, .int x2] σ = ((cG d 53 [.ref 4, .int x1] σ).bind fun u1 => (if u1.1 = 0 then (some ((-8 : Int32), 0, u1.2.2)) else (if x2 < 0 then (some ((-8 : Int32), 0, u1.2.2)) else (if (3 : Int32) ≤ x2 then (some ((-8 : Int32), 0, u1.2.2)) else ((mm_grid sc 37 x2).bind fun q2 => ((mm_arr sc q2 0).bind fun z3 => if mm_in x1 z3 then (some ((u1.2.2.1 q2 (x1).toNatClampNeg), 0, u1.2.2)) else none)))))) := by
  refine (mm_entry 99999978 22 (maxL := 4) (labs := cp_56_l) (rows := cp_56_r0) (L := [.ref 4, .int x1, .int x2, .null]) (rk := 1) rfl rfl rfl rfl rfl rfl).trans ?_
  refine (ex_aload_n (x := 4) rfl).trans ?_
  refine (ex_iload_n (x := x1) rfl).trans ?_
  refine (ex_inv_z (As := [.ref 4, .int x1]) (rest := []) rfl rfl).trans (ex_bnd fun u1 => ?_)
  refine (ex_if_eq (p := 21) (q := cp_56_r1) rfl).trans (ex_ite ?_ ?_)
  · refine (ex_iconst).trans ?_
    refine (ex_istore_n (L2 := [.ref 4, .int x1, .int x2, .int (0 : Int32)]) rfl).trans ?_
    refine (ex_iload_n (x := (0 : Int32)) rfl).trans ?_
    refine (ex_if_eq (p := 38) (q := cp_56_r3) rfl).trans (ex_t (by decide) ?_)
    refine (ex_bipush).trans ?_
    exact ex_ireturn
  · refine (ex_iload_n (x := x2) rfl).trans ?_
    refine (ex_if_lt (p := 21) (q := cp_56_r1) rfl).trans (ex_ite ?_ ?_)
    · refine (ex_iconst).trans ?_
      refine (ex_istore_n (L2 := [.ref 4, .int x1, .int x2, .int (0 : Int32)]) rfl).trans ?_
      refine (ex_iload_n (x := (0 : Int32)) rfl).trans ?_
      refine (ex_if_eq (p := 38) (q := cp_56_r3) rfl).trans (ex_t (by decide) ?_)
      refine (ex_bipush).trans ?_
      exact ex_ireturn
    · refine (ex_iload_n (x := x2) rfl).trans ?_
      refine (ex_iconst).trans ?_
      refine (ex_ic_ge (p := 21) (q := cp_56_r1) rfl).trans (ex_ite ?_ ?_)
      · refine (ex_iconst).trans ?_
        refine (ex_istore_n (L2 := [.ref 4, .int x1, .int x2, .int (0 : Int32)]) rfl).trans ?_
        refine (ex_iload_n (x := (0 : Int32)) rfl).trans ?_
        refine (ex_if_eq (p := 38) (q := cp_56_r3) rfl).trans (ex_t (by decide) ?_)
        refine (ex_bipush).trans ?_
        exact ex_ireturn
      · refine (ex_iconst).trans ?_
        refine (ex_goto (p := 22) (q := cp_56_r2) rfl).trans ?_
        refine (ex_istore_n (L2 := [.ref 4, .int x1, .int x2, .int (1 : Int32)]) rfl).trans ?_
        refine (ex_iload_n (x := (1 : Int32)) rfl).trans ?_
        refine (ex_if_eq (p := 38) (q := cp_56_r3) rfl).trans (ex_f (by decide) ?_)
        refine (ex_aload_n (x := 4) rfl).trans ?_
        refine (ex_get (u := .ref 37) rfl).trans ?_
        refine (ex_iload_n (x := x2) rfl).trans ?_
        refine ex_aaload.trans (ex_bnd fun q2 => ?_)
        refine (ex_iload_n (x := x1) rfl).trans ?_
        refine ex_iaload_b.trans (ex_bnd fun z3 => ex_ite ?_ rfl)
        refine (ex_goto (p := 40) (q := cp_56_r4) rfl).trans ?_
        exact ex_ireturn
-- 57: WiringContainer$InstanceTable.add(II)I
set_option maxRecDepth 100000 in
set_option maxHeartbeats 4000000 in
theorem cp_57_g (d : Nat) (σ : mm_S) (x1 : Int32) (x2 : Int32) : cG (d + 1) 57 [.ref 4, .int x1, .int x2] σ = (if (σ.1 4 0) < (200 : Int32) then (if mm_in ((mm_w (mm_w σ.1 4 0 ((σ.1 4 0) + (1 : Int32))) 4 1 (((mm_w σ.1 4 0 ((σ.1 4 0) + (1 : Int32))) 4 1) + (1 : Int32))) 4 0) 201 then (if mm_in ((mm_w (mm_w (mm_w σ.1 4 0 ((σ.1 4 0) + (1 : Int32))) 4 1 (((mm_w σ.1 4 0 ((σ.1 4 0) + (1 : Int32))) 4 1) + (1 : Int32))) 34 (((mm_w (mm_w σ.1 4 0 ((σ.1 4 0) + (1 : Int32))) 4 1 (((mm_w σ.1 4 0 ((σ.1 4 0) + (1 : Int32))) 4 1) + (1 : Int32))) 4 0)).toNatClampNeg x1) 4 0) 201 then (if mm_in ((mm_w (mm_w (mm_w (mm_w σ.1 4 0 ((σ.1 4 0) + (1 : Int32))) 4 1 (((mm_w σ.1 4 0 ((σ.1 4 0) + (1 : Int32))) 4 1) + (1 : Int32))) 34 (((mm_w (mm_w σ.1 4 0 ((σ.1 4 0) + (1 : Int32))) 4 1 (((mm_w σ.1 4 0 ((σ.1 4 0) + (1 : Int32))) 4 1) + (1 : Int32))) 4 0)).toNatClampNeg x1) 35 (((mm_w (mm_w (mm_w σ.1 4 0 ((σ.1 4 0) + (1 : Int32))) 4 1 (((mm_w σ.1 4 0 ((σ.1 4 0) + (1 : Int32))) 4 1) + (1 : Int32))) 34 (((mm_w (mm_w σ.1 4 0 ((σ.1 4 0) + (1 : Int32))) 4 1 (((mm_w σ.1 4 0 ((σ.1 4 0) + (1 : Int32))) 4 1) + (1 : Int32))) 4 0)).toNatClampNeg x1) 4 0)).toNatClampNeg x2) 4 0) 201 then (some (((mm_w (mm_w (mm_w (mm_w (mm_w σ.1 4 0 ((σ.1 4 0) + (1 : Int32))) 4 1 (((mm_w σ.1 4 0 ((σ.1 4 0) + (1 : Int32))) 4 1) + (1 : Int32))) 34 (((mm_w (mm_w σ.1 4 0 ((σ.1 4 0) + (1 : Int32))) 4 1 (((mm_w σ.1 4 0 ((σ.1 4 0) + (1 : Int32))) 4 1) + (1 : Int32))) 4 0)).toNatClampNeg x1) 35 (((mm_w (mm_w (mm_w σ.1 4 0 ((σ.1 4 0) + (1 : Int32))) 4 1 (((mm_w σ.1 4 0 ((σ.1 4 0) + (1 : Int32))) 4 1) + (1 : Int32))) 34 (((mm_w (mm_w σ.1 4 0 ((σ.1 4 0) + (1 : Int32))) 4 1 (((mm_w σ.1 4 0 ((σ.1 4 0) + (1 : Int32))) 4 1) + (1 : Int32))) 4 0)).toNatClampNeg x1) 4 0)).toNatClampNeg x2) 36 (((mm_w (mm_w (mm_w (mm_w σ.1 4 0 ((σ.1 4 0) + (1 : Int32))) 4 1 (((mm_w σ.1 4 0 ((σ.1 4 0) + (1 : Int32))) 4 1) + (1 : Int32))) 34 (((mm_w (mm_w σ.1 4 0 ((σ.1 4 0) + (1 : Int32))) 4 1 (((mm_w σ.1 4 0 ((σ.1 4 0) + (1 : Int32))) 4 1) + (1 : Int32))) 4 0)).toNatClampNeg x1) 35 (((mm_w (mm_w (mm_w σ.1 4 0 ((σ.1 4 0) + (1 : Int32))) 4 1 (((mm_w σ.1 4 0 ((σ.1 4 0) + (1 : Int32))) 4 1) + (1 : Int32))) 34 (((mm_w (mm_w σ.1 4 0 ((σ.1 4 0) + (1 : Int32))) 4 1 (((mm_w σ.1 4 0 ((σ.1 4 0) + (1 : Int32))) 4 1) + (1 : Int32))) 4 0)).toNatClampNeg x1) 4 0)).toNatClampNeg x2) 4 0)).toNatClampNeg (1 : Int32)) 4 0), 0, ((mm_w (mm_w (mm_w (mm_w (mm_w σ.1 4 0 ((σ.1 4 0) + (1 : Int32))) 4 1 (((mm_w σ.1 4 0 ((σ.1 4 0) + (1 : Int32))) 4 1) + (1 : Int32))) 34 (((mm_w (mm_w σ.1 4 0 ((σ.1 4 0) + (1 : Int32))) 4 1 (((mm_w σ.1 4 0 ((σ.1 4 0) + (1 : Int32))) 4 1) + (1 : Int32))) 4 0)).toNatClampNeg x1) 35 (((mm_w (mm_w (mm_w σ.1 4 0 ((σ.1 4 0) + (1 : Int32))) 4 1 (((mm_w σ.1 4 0 ((σ.1 4 0) + (1 : Int32))) 4 1) + (1 : Int32))) 34 (((mm_w (mm_w σ.1 4 0 ((σ.1 4 0) + (1 : Int32))) 4 1 (((mm_w σ.1 4 0 ((σ.1 4 0) + (1 : Int32))) 4 1) + (1 : Int32))) 4 0)).toNatClampNeg x1) 4 0)).toNatClampNeg x2) 36 (((mm_w (mm_w (mm_w (mm_w σ.1 4 0 ((σ.1 4 0) + (1 : Int32))) 4 1 (((mm_w σ.1 4 0 ((σ.1 4 0) + (1 : Int32))) 4 1) + (1 : Int32))) 34 (((mm_w (mm_w σ.1 4 0 ((σ.1 4 0) + (1 : Int32))) 4 1 (((mm_w σ.1 4 0 ((σ.1 4 0) + (1 : Int32))) 4 1) + (1 : Int32))) 4 0)).toNatClampNeg x1) 35 (((mm_w (mm_w (mm_w σ.1 4 0 ((σ.1 4 0) + (1 : Int32))) 4 1 (((mm_w σ.1 4 0 ((σ.1 4 0) + (1 : Int32))) 4 1) + (1 : Int32))) 34 (((mm_w (mm_w σ.1 4 0 ((σ.1 4 0) + (1 : Int32))) 4 1 (((mm_w σ.1 4 0 ((σ.1 4 0) + (1 : Int32))) 4 1) + (1 : Int32))) 4 0)).toNatClampNeg x1) 4 0)).toNatClampNeg x2) 4 0)).toNatClampNeg (1 : Int32)), σ.2))) else none) else none) else none) else (some ((-2 : Int32), 0, σ))) := by
  refine (mm_entry 99999963 37 (maxL := 3) (labs := cp_57_l) (rows := cp_57_r0) (L := [.ref 4, .int x1, .int x2]) (rk := 1) rfl rfl rfl rfl rfl rfl).trans ?_
  refine (ex_aload_n (x := 4) rfl).trans ?_
  refine (ex_get (u := .int (σ.1 4 0)) rfl).trans ?_
  refine (ex_sipush).trans ?_
  refine (ex_ic_lt (p := 13) (q := cp_57_r1) rfl).trans (ex_ite ?_ ?_)
  · refine (ex_aload_n (x := 4) rfl).trans ?_
    refine (ex_dup).trans ?_
    refine (ex_get (u := .int (σ.1 4 0)) rfl).trans ?_
    refine (ex_iconst).trans ?_
    refine (ex_iadd).trans ?_
    refine (ex_put (u := ()) rfl).trans ?_
    refine (ex_aload_n (x := 4) rfl).trans ?_
    refine (ex_dup).trans ?_
    refine (ex_get (u := .int ((mm_w σ.1 4 0 ((σ.1 4 0) + (1 : Int32))) 4 1)) rfl).trans ?_
    refine (ex_iconst).trans ?_
    refine (ex_iadd).trans ?_
    refine (ex_put (u := ()) rfl).trans ?_
    refine (ex_aload_n (x := 4) rfl).trans ?_
    refine (ex_get (u := .ref 34) rfl).trans ?_
    refine (ex_aload_n (x := 4) rfl).trans ?_
    refine (ex_get (u := .int ((mm_w (mm_w σ.1 4 0 ((σ.1 4 0) + (1 : Int32))) 4 1 (((mm_w σ.1 4 0 ((σ.1 4 0) + (1 : Int32))) 4 1) + (1 : Int32))) 4 0)) rfl).trans ?_
    refine (ex_iload_n (x := x1) rfl).trans ?_
    refine (ex_iastore (z := 201) rfl).trans (ex_ite ?_ rfl)
    refine (ex_aload_n (x := 4) rfl).trans ?_
    refine (ex_get (u := .ref 35) rfl).trans ?_
    refine (ex_aload_n (x := 4) rfl).trans ?_
    refine (ex_get (u := .int ((mm_w (mm_w (mm_w σ.1 4 0 ((σ.1 4 0) + (1 : Int32))) 4 1 (((mm_w σ.1 4 0 ((σ.1 4 0) + (1 : Int32))) 4 1) + (1 : Int32))) 34 (((mm_w (mm_w σ.1 4 0 ((σ.1 4 0) + (1 : Int32))) 4 1 (((mm_w σ.1 4 0 ((σ.1 4 0) + (1 : Int32))) 4 1) + (1 : Int32))) 4 0)).toNatClampNeg x1) 4 0)) rfl).trans ?_
    refine (ex_iload_n (x := x2) rfl).trans ?_
    refine (ex_iastore (z := 201) rfl).trans (ex_ite ?_ rfl)
    refine (ex_aload_n (x := 4) rfl).trans ?_
    refine (ex_get (u := .ref 36) rfl).trans ?_
    refine (ex_aload_n (x := 4) rfl).trans ?_
    refine (ex_get (u := .int ((mm_w (mm_w (mm_w (mm_w σ.1 4 0 ((σ.1 4 0) + (1 : Int32))) 4 1 (((mm_w σ.1 4 0 ((σ.1 4 0) + (1 : Int32))) 4 1) + (1 : Int32))) 34 (((mm_w (mm_w σ.1 4 0 ((σ.1 4 0) + (1 : Int32))) 4 1 (((mm_w σ.1 4 0 ((σ.1 4 0) + (1 : Int32))) 4 1) + (1 : Int32))) 4 0)).toNatClampNeg x1) 35 (((mm_w (mm_w (mm_w σ.1 4 0 ((σ.1 4 0) + (1 : Int32))) 4 1 (((mm_w σ.1 4 0 ((σ.1 4 0) + (1 : Int32))) 4 1) + (1 : Int32))) 34 (((mm_w (mm_w σ.1 4 0 ((σ.1 4 0) + (1 : Int32))) 4 1 (((mm_w σ.1 4 0 ((σ.1 4 0) + (1 : Int32))) 4 1) + (1 : Int32))) 4 0)).toNatClampNeg x1) 4 0)).toNatClampNeg x2) 4 0)) rfl).trans ?_
    refine (ex_iconst).trans ?_
    refine (ex_bastore (z := 201) rfl).trans (ex_ite ((if_pos (by decide)).trans ?_) rfl)
    refine (ex_aload_n (x := 4) rfl).trans ?_
    refine (ex_get (u := .int ((mm_w (mm_w (mm_w (mm_w (mm_w σ.1 4 0 ((σ.1 4 0) + (1 : Int32))) 4 1 (((mm_w σ.1 4 0 ((σ.1 4 0) + (1 : Int32))) 4 1) + (1 : Int32))) 34 (((mm_w (mm_w σ.1 4 0 ((σ.1 4 0) + (1 : Int32))) 4 1 (((mm_w σ.1 4 0 ((σ.1 4 0) + (1 : Int32))) 4 1) + (1 : Int32))) 4 0)).toNatClampNeg x1) 35 (((mm_w (mm_w (mm_w σ.1 4 0 ((σ.1 4 0) + (1 : Int32))) 4 1 (((mm_w σ.1 4 0 ((σ.1 4 0) + (1 : Int32))) 4 1) + (1 : Int32))) 34 (((mm_w (mm_w σ.1 4 0 ((σ.1 4 0) + (1 : Int32))) 4 1 (((mm_w σ.1 4 0 ((σ.1 4 0) + (1 : Int32))) 4 1) + (1 : Int32))) 4 0)).toNatClampNeg x1) 4 0)).toNatClampNeg x2) 36 (((mm_w (mm_w (mm_w (mm_w σ.1 4 0 ((σ.1 4 0) + (1 : Int32))) 4 1 (((mm_w σ.1 4 0 ((σ.1 4 0) + (1 : Int32))) 4 1) + (1 : Int32))) 34 (((mm_w (mm_w σ.1 4 0 ((σ.1 4 0) + (1 : Int32))) 4 1 (((mm_w σ.1 4 0 ((σ.1 4 0) + (1 : Int32))) 4 1) + (1 : Int32))) 4 0)).toNatClampNeg x1) 35 (((mm_w (mm_w (mm_w σ.1 4 0 ((σ.1 4 0) + (1 : Int32))) 4 1 (((mm_w σ.1 4 0 ((σ.1 4 0) + (1 : Int32))) 4 1) + (1 : Int32))) 34 (((mm_w (mm_w σ.1 4 0 ((σ.1 4 0) + (1 : Int32))) 4 1 (((mm_w σ.1 4 0 ((σ.1 4 0) + (1 : Int32))) 4 1) + (1 : Int32))) 4 0)).toNatClampNeg x1) 4 0)).toNatClampNeg x2) 4 0)).toNatClampNeg (1 : Int32)) 4 0)) rfl).trans ?_
    exact ex_ireturn
  · refine (ex_bipush).trans ?_
    exact ex_ireturn
-- 58: WiringContainer$InstanceTable.setPart(III)V
set_option maxRecDepth 100000 in
set_option maxHeartbeats 4000000 in
theorem cp_58_g (d : Nat) (σ : mm_S) (x1 : Int32) (x2 : Int32) (x3 : Int32) : cG (d + 1) 58 [.ref 4, .int x1, .int x2, .int x3] σ = ((cG d 53 [.ref 4, .int x1] σ).bind fun u1 => (if u1.1 = 0 then (some (0, 0, u1.2.2)) else (if x2 < 0 then (some (0, 0, u1.2.2)) else (if (3 : Int32) ≤ x2 then (some (0, 0, u1.2.2)) else ((mm_grid sc 37 x2).bind fun q2 => ((mm_arr sc q2 0).bind fun z3 => if mm_in x1 z3 then (some (0, 0, ((mm_w u1.2.2.1 q2 (x1).toNatClampNeg x3), u1.2.2.2))) else none)))))) := by
  refine (mm_entry 99999983 17 (maxL := 4) (labs := cp_58_l) (rows := cp_58_r0) (L := [.ref 4, .int x1, .int x2, .int x3]) (rk := 0) rfl rfl rfl rfl rfl rfl).trans ?_
  refine (ex_aload_n (x := 4) rfl).trans ?_
  refine (ex_iload_n (x := x1) rfl).trans ?_
  refine (ex_inv_z (As := [.ref 4, .int x1]) (rest := []) rfl rfl).trans (ex_bnd fun u1 => ?_)
  refine (ex_if_eq (p := 26) (q := cp_58_r1) rfl).trans (ex_ite ?_ ?_)
  · exact ex_return
  · refine (ex_iload_n (x := x2) rfl).trans ?_
    refine (ex_if_lt (p := 26) (q := cp_58_r1) rfl).trans (ex_ite ?_ ?_)
    · exact ex_return
    · refine (ex_iload_n (x := x2) rfl).trans ?_
      refine (ex_iconst).trans ?_
      refine (ex_ic_ge (p := 26) (q := cp_58_r1) rfl).trans (ex_ite ?_ ?_)
      · exact ex_return
      · refine (ex_aload_n (x := 4) rfl).trans ?_
        refine (ex_get (u := .ref 37) rfl).trans ?_
        refine (ex_iload_n (x := x2) rfl).trans ?_
        refine ex_aaload.trans (ex_bnd fun q2 => ?_)
        refine (ex_iload_n (x := x1) rfl).trans ?_
        refine (ex_iload_n (x := x3) rfl).trans ?_
        refine ex_iastore_b.trans (ex_bnd fun z3 => ex_ite ?_ rfl)
        exact ex_return
-- 59: WiringContainer$InstanceTable.discard(II)V
set_option maxRecDepth 100000 in
set_option maxHeartbeats 4000000 in
theorem cp_59_g (d : Nat) (σ : mm_S) (x1 : Int32) (x2 : Int32) : cG (d + 1) 59 [.ref 4, .int x1, .int x2] σ = (if (10 : Int32) < x2 then (some (0, 0, σ)) else (if (200 : Int32) ≤ (σ.1 4 2) then (some (0, 0, σ)) else ((cG d 53 [.ref 4, .int x1] σ).bind fun u1 => (if u1.1 = 0 then (some (0, 0, u1.2.2)) else (if mm_in x1 201 then (if mm_in ((mm_w (mm_w u1.2.2.1 36 (x1).toNatClampNeg (0 : Int32)) 4 1 (((mm_w u1.2.2.1 36 (x1).toNatClampNeg (0 : Int32)) 4 1) - (1 : Int32))) 4 2) 200 then (mm_ex sc (cG d) 0 cp_59_l (99999964 + 0) cp_59_r3 [.ref 4, .int x1, .int x2, .int (2 : Int32)] [] ((mm_w (mm_w (mm_w (mm_w u1.2.2.1 36 (x1).toNatClampNeg (0 : Int32)) 4 1 (((mm_w u1.2.2.1 36 (x1).toNatClampNeg (0 : Int32)) 4 1) - (1 : Int32))) 41 (((mm_w (mm_w u1.2.2.1 36 (x1).toNatClampNeg (0 : Int32)) 4 1 (((mm_w u1.2.2.1 36 (x1).toNatClampNeg (0 : Int32)) 4 1) - (1 : Int32))) 4 2)).toNatClampNeg x1) 4 2 (((mm_w (mm_w (mm_w u1.2.2.1 36 (x1).toNatClampNeg (0 : Int32)) 4 1 (((mm_w u1.2.2.1 36 (x1).toNatClampNeg (0 : Int32)) 4 1) - (1 : Int32))) 41 (((mm_w (mm_w u1.2.2.1 36 (x1).toNatClampNeg (0 : Int32)) 4 1 (((mm_w u1.2.2.1 36 (x1).toNatClampNeg (0 : Int32)) 4 1) - (1 : Int32))) 4 2)).toNatClampNeg x1) 4 2) + (1 : Int32))), u1.2.2.2)) else none) else none))))) := by
  refine (mm_entry 99999964 36 (maxL := 4) (labs := cp_59_l) (rows := cp_59_r0) (L := [.ref 4, .int x1, .int x2, .null]) (rk := 0) rfl rfl rfl rfl rfl rfl).trans ?_
  refine (ex_iload_n (x := x2) rfl).trans ?_
  refine (ex_bipush).trans ?_
  refine (ex_ic_gt (p := 24) (q := cp_59_r1) rfl).trans (ex_ite ?_ ?_)
  · exact ex_return
  · refine (ex_aload_n (x := 4) rfl).trans ?_
    refine (ex_get (u := .int (σ.1 4 2)) rfl).trans ?_
    refine (ex_sipush).trans ?_
    refine (ex_ic_ge (p := 24) (q := cp_59_r1) rfl).trans (ex_ite ?_ ?_)
    · exact ex_return
    · refine (ex_aload_n (x := 4) rfl).trans ?_
      refine (ex_iload_n (x := x1) rfl).trans ?_
      refine (ex_inv_z (As := [.ref 4, .int x1]) (rest := []) rfl rfl).trans (ex_bnd fun u1 => ?_)
      refine (ex_if_ne (p := 25) (q := cp_59_r2) rfl).trans (ex_ite ?_ ?_)
      · exact ex_return
      · refine (ex_aload_n (x := 4) rfl).trans ?_
        refine (ex_get (u := .ref 36) rfl).trans ?_
        refine (ex_iload_n (x := x1) rfl).trans ?_
        refine (ex_iconst).trans ?_
        refine (ex_bastore (z := 201) rfl).trans (ex_ite ((if_pos (by decide)).trans ?_) rfl)
        refine (ex_aload_n (x := 4) rfl).trans ?_
        refine (ex_dup).trans ?_
        refine (ex_get (u := .int ((mm_w u1.2.2.1 36 (x1).toNatClampNeg (0 : Int32)) 4 1)) rfl).trans ?_
        refine (ex_iconst).trans ?_
        refine (ex_isub).trans ?_
        refine (ex_put (u := ()) rfl).trans ?_
        refine (ex_aload_n (x := 4) rfl).trans ?_
        refine (ex_get (u := .ref 41) rfl).trans ?_
        refine (ex_aload_n (x := 4) rfl).trans ?_
        refine (ex_get (u := .int ((mm_w (mm_w u1.2.2.1 36 (x1).toNatClampNeg (0 : Int32)) 4 1 (((mm_w u1.2.2.1 36 (x1).toNatClampNeg (0 : Int32)) 4 1) - (1 : Int32))) 4 2)) rfl).trans ?_
        refine (ex_iload_n (x := x1) rfl).trans ?_
        refine (ex_iastore (z := 200) rfl).trans (ex_ite ?_ rfl)
        refine (ex_aload_n (x := 4) rfl).trans ?_
        refine (ex_dup).trans ?_
        refine (ex_get (u := .int ((mm_w (mm_w (mm_w u1.2.2.1 36 (x1).toNatClampNeg (0 : Int32)) 4 1 (((mm_w u1.2.2.1 36 (x1).toNatClampNeg (0 : Int32)) 4 1) - (1 : Int32))) 41 (((mm_w (mm_w u1.2.2.1 36 (x1).toNatClampNeg (0 : Int32)) 4 1 (((mm_w u1.2.2.1 36 (x1).toNatClampNeg (0 : Int32)) 4 1) - (1 : Int32))) 4 2)).toNatClampNeg x1) 4 2)) rfl).trans ?_
        refine (ex_iconst).trans ?_
        refine (ex_iadd).trans ?_
        refine (ex_put (u := ()) rfl).trans ?_
        refine (ex_iconst).trans ?_
        refine (ex_istore_n (L2 := [.ref 4, .int x1, .int x2, .int (2 : Int32)]) rfl).trans ?_
        exact rfl
set_option maxRecDepth 100000 in
set_option maxHeartbeats 4000000 in
theorem cp_59_h3 (d n : Nat) (σ : mm_S) (x1 : Int32) (x2 : Int32) (x3 : Int32) : mm_ex sc (cG d) 0 cp_59_l (n + 15) cp_59_r3 [.ref 4, .int x1, .int x2, .int x3] [] σ = (if x3 < 0 then (some (0, 0, σ)) else ((mm_grid sc 37 x3).bind fun q1 => ((mm_arr sc q1 0).bind fun z2 => if mm_in x1 z2 then ((cG d 59 [.ref 4, .int (σ.1 q1 (x1).toNatClampNeg), .int (x2 + (1 : Int32))] σ).bind fun u3 => (mm_ex sc (cG d) 0 cp_59_l (n + 0) cp_59_r3 [.ref 4, .int x1, .int x2, .int (x3 + (-1 : Int32))] [] u3.2.2)) else none))) := by
  refine (ex_iload_n (x := x3) rfl).trans ?_
  refine (ex_if_lt (p := 89) (q := cp_59_r4) rfl).trans (ex_ite ?_ ?_)
  · exact ex_return
  · refine (ex_aload_n (x := 4) rfl).trans ?_
    refine (ex_aload_n (x := 4) rfl).trans ?_
    refine (ex_get (u := .ref 37) rfl).trans ?_
    refine (ex_iload_n (x := x3) rfl).trans ?_
    refine ex_aaload.trans (ex_bnd fun q1 => ?_)
    refine (ex_iload_n (x := x1) rfl).trans ?_
    refine ex_iaload_b.trans (ex_bnd fun z2 => ex_ite ?_ rfl)
    refine (ex_iload_n (x := x2) rfl).trans ?_
    refine (ex_iconst).trans ?_
    refine (ex_iadd).trans ?_
    refine (ex_inv_v (As := [.ref 4, .int (σ.1 q1 (x1).toNatClampNeg), .int (x2 + (1 : Int32))]) (rest := []) rfl rfl).trans (ex_bnd fun u3 => ?_)
    refine (ex_iinc (L2 := [.ref 4, .int x1, .int x2, .int (x3 + (-1 : Int32))]) rfl rfl).trans ?_
    refine (ex_goto (p := 64) (q := cp_59_r3) rfl).trans ?_
    exact rfl
-- 60: WiringContainer$Plan.targetOf(II)I
set_option maxRecDepth 100000 in
set_option maxHeartbeats 4000000 in
theorem cp_60_g (d : Nat) (σ : mm_S) (x1 : Int32) (x2 : Int32) : cG (d + 1) 60 [.ref 3, .int x1, .int x2] σ = ((cG d 12 [.ref 2, .int x1, .int x2] σ).bind fun u1 => (if u1.1 = 0 then (some ((-4 : Int32), 0, u1.2.2)) else ((mm_grid sc 28 x2).bind fun q2 => ((mm_arr sc q2 0).bind fun z3 => if mm_in x1 z3 then (some ((u1.2.2.1 q2 (x1).toNatClampNeg), 0, u1.2.2)) else none)))) := by
  refine (mm_entry 99999986 14 (maxL := 3) (labs := cp_60_l) (rows := cp_60_r0) (L := [.ref 3, .int x1, .int x2]) (rk := 1) rfl rfl rfl rfl rfl rfl).trans ?_
  refine (ex_aload_n (x := 3) rfl).trans ?_
  refine (ex_get (u := .ref 2) rfl).trans ?_
  refine (ex_iload_n (x := x1) rfl).trans ?_
  refine (ex_iload_n (x := x2) rfl).trans ?_
  refine (ex_inv_z (As := [.ref 2, .int x1, .int x2]) (rest := []) rfl rfl).trans (ex_bnd fun u1 => ?_)
  refine (ex_if_eq (p := 23) (q := cp_60_r1) rfl).trans (ex_ite ?_ ?_)
  · refine (ex_bipush).trans ?_
    exact ex_ireturn
  · refine (ex_aload_n (x := 3) rfl).trans ?_
    refine (ex_get (u := .ref 28) rfl).trans ?_
    refine (ex_iload_n (x := x2) rfl).trans ?_
    refine ex_aaload.trans (ex_bnd fun q2 => ?_)
    refine (ex_iload_n (x := x1) rfl).trans ?_
    refine ex_iaload_b.trans (ex_bnd fun z3 => ex_ite ?_ rfl)
    refine (ex_goto (p := 25) (q := cp_60_r2) rfl).trans ?_
    exact ex_ireturn
-- 61: WiringContainer$Plan.costOf(I)I
set_option maxRecDepth 100000 in
set_option maxHeartbeats 4000000 in
theorem cp_61_g (d : Nat) (σ : mm_S) (x1 : Int32) : cG (d + 1) 61 [.ref 3, .int x1] σ = ((cG d 1 [.ref 2, .int x1] σ).bind fun u1 => (if u1.1 = 0 then (some ((0 : Int32), 0, u1.2.2)) else (if mm_in x1 16 then (some ((u1.2.2.1 33 (x1).toNatClampNeg), 0, u1.2.2)) else none))) := by
  refine (mm_entry 99999989 11 (maxL := 2) (labs := cp_61_l) (rows := cp_61_r0) (L := [.ref 3, .int x1]) (rk := 1) rfl rfl rfl rfl rfl rfl).trans ?_
  refine (ex_aload_n (x := 3) rfl).trans ?_
  refine (ex_get (u := .ref 2) rfl).trans ?_
  refine (ex_iload_n (x := x1) rfl).trans ?_
  refine (ex_inv_z (As := [.ref 2, .int x1]) (rest := []) rfl rfl).trans (ex_bnd fun u1 => ?_)
  refine (ex_if_eq (p := 20) (q := cp_61_r1) rfl).trans (ex_ite ?_ ?_)
  · refine (ex_iconst).trans ?_
    exact ex_ireturn
  · refine (ex_aload_n (x := 3) rfl).trans ?_
    refine (ex_get (u := .ref 33) rfl).trans ?_
    refine (ex_iload_n (x := x1) rfl).trans ?_
    refine (ex_iaload (z := 16) rfl).trans (ex_ite ?_ rfl)
    refine (ex_goto (p := 21) (q := cp_61_r2) rfl).trans ?_
    exact ex_ireturn
-- 62: WiringContainer$Plan.judge()I
set_option maxRecDepth 100000 in
set_option maxHeartbeats 4000000 in
theorem cp_62_g (d : Nat) (σ : mm_S) : cG (d + 1) 62 [.ref 3] σ = (mm_ex sc (cG d) 1 cp_62_l (99999996 + 0) cp_62_r1 [.ref 3, .int (0 : Int32), .int (0 : Int32)] [] σ) := by
  refine (mm_entry 99999996 4 (maxL := 3) (labs := cp_62_l) (rows := cp_62_r0) (L := [.ref 3, .null, .null]) (rk := 1) rfl rfl rfl rfl rfl rfl).trans ?_
  refine (ex_iconst).trans ?_
  refine (ex_istore_n (L2 := [.ref 3, .int (0 : Int32), .null]) rfl).trans ?_
  refine (ex_iconst).trans ?_
  refine (ex_istore_n (L2 := [.ref 3, .int (0 : Int32), .int (0 : Int32)]) rfl).trans ?_
  exact rfl
set_option maxRecDepth 100000 in
set_option maxHeartbeats 4000000 in
theorem cp_62_h1 (d n : Nat) (σ : mm_S) (x1 : Int32) (x2 : Int32) : mm_ex sc (cG d) 1 cp_62_l (n + 41) cp_62_r1 [.ref 3, .int x1, .int x2] [] σ = ((cG d 2 [.ref 2] σ).bind fun u1 => (if u1.1 ≤ x2 then ((cG d 67 [.ref 3] u1.2.2).bind fun u2 => (if u2.1 = 0 then ((cG d 68 [.ref 3] u2.2.2).bind fun u3 => (if u3.1 = 0 then (some (x1, 0, u3.2.2)) else (some ((x1 ||| (32 : Int32)), 0, u3.2.2)))) else ((cG d 68 [.ref 3] u2.2.2).bind fun u4 => (if u4.1 = 0 then (some ((x1 ||| (16 : Int32)), 0, u4.2.2)) else (some (((x1 ||| (16 : Int32)) ||| (32 : Int32)), 0, u4.2.2)))))) else (if mm_in x2 16 then ((cG d 18 [.ref 2, .int x2] ((mm_w u1.2.2.1 32 (x2).toNatClampNeg (0 : Int32)), u1.2.2.2)).bind fun u5 => (if u5.1 = 0 then (mm_ex sc (cG d) 1 cp_62_l (n + 24) cp_62_r1 [.ref 3, .int x1, .int (x2 + (1 : Int32))] [] u5.2.2) else ((cG d 64 [.ref 3, .int x2] u5.2.2).bind fun u6 => ((cG d 17 [.ref 2, .int x2] u6.2.2).bind fun u7 => (if u7.1 = 0 then ((cG d 66 [.ref 3, .int x2] u7.2.2).bind fun u8 => (mm_ex sc (cG d) 1 cp_62_l (n + 10) cp_62_r1 [.ref 3, .int (x1 ||| u6.1), .int (x2 + (1 : Int32))] [] u8.2.2)) else ((cG d 7 [.ref 2, .int x2] u7.2.2).bind fun u9 => ((cG d 65 [.int u9.1] u9.2.2).bind fun u10 => (if u10.1 = 0 then ((cG d 66 [.ref 3, .int x2] u10.2.2).bind fun u11 => (mm_ex sc (cG d) 1 cp_62_l (n + 4) cp_62_r1 [.ref 3, .int (x1 ||| u6.1), .int (x2 + (1 : Int32))] [] u11.2.2)) else ((cG d 66 [.ref 3, .int x2] u10.2.2).bind fun u12 => (mm_ex sc (cG d) 1 cp_62_l (n + 0) cp_62_r1 [.ref 3, .int ((x1 ||| u6.1) ||| (1 : Int32)), .int (x2 + (1 : Int32))] [] u12.2.2)))))))))) else none))) := by
  refine (ex_iload_n (x := x2) rfl).trans ?_
  refine (ex_aload_n (x := 3) rfl).trans ?_
  refine (ex_get (u := .ref 2) rfl).trans ?_
  refine (ex_inv_i (As := [.ref 2]) (rest := [.int x2]) rfl rfl).trans (ex_bnd fun u1 => ?_)
  refine (ex_ic_ge (p := 81) (q := cp_62_r4) rfl).trans (ex_ite ?_ ?_)
  · refine (ex_aload_n (x := 3) rfl).trans ?_
    refine (ex_inv_z (As := [.ref 3]) (rest := []) rfl rfl).trans (ex_bnd fun u2 => ?_)
    refine (ex_if_eq (p := 93) (q := cp_62_r5) rfl).trans (ex_ite ?_ ?_)
    · refine (ex_aload_n (x := 3) rfl).trans ?_
      refine (ex_inv_z (As := [.ref 3]) (rest := []) rfl rfl).trans (ex_bnd fun u3 => ?_)
      refine (ex_if_eq (p := 105) (q := cp_62_r6) rfl).trans (ex_ite ?_ ?_)
      · refine (ex_iload_n (x := x1) rfl).trans ?_
        exact ex_ireturn
      · refine (ex_iload_n (x := x1) rfl).trans ?_
        refine (ex_bipush).trans ?_
        refine (ex_ior).trans ?_
        refine (ex_istore_n (L2 := [.ref 3, .int (x1 ||| (32 : Int32)), .int x2]) rfl).trans ?_
        refine (ex_iload_n (x := (x1 ||| (32 : Int32))) rfl).trans ?_
        exact ex_ireturn
    · refine (ex_iload_n (x := x1) rfl).trans ?_
      refine (ex_bipush).trans ?_
      refine (ex_ior).trans ?_
      refine (ex_istore_n (L2 := [.ref 3, .int (x1 ||| (16 : Int32)), .int x2]) rfl).trans ?_
      refine (ex_aload_n (x := 3) rfl).trans ?_
      refine (ex_inv_z (As := [.ref 3]) (rest := []) rfl rfl).trans (ex_bnd fun u4 => ?_)
      refine (ex_if_eq (p := 105) (q := cp_62_r6) rfl).trans (ex_ite ?_ ?_)
      · refine (ex_iload_n (x := (x1 ||| (16 : Int32))) rfl).trans ?_
        exact ex_ireturn
      · refine (ex_iload_n (x := (x1 ||| (16 : Int32))) rfl).trans ?_
        refine (ex_bipush).trans ?_
        refine (ex_ior).trans ?_
        refine (ex_istore_n (L2 := [.ref 3, .int ((x1 ||| (16 : Int32)) ||| (32 : Int32)), .int x2]) rfl).trans ?_
        refine (ex_iload_n (x := ((x1 ||| (16 : Int32)) ||| (32 : Int32))) rfl).trans ?_
        exact ex_ireturn
  · refine (ex_aload_n (x := 3) rfl).trans ?_
    refine (ex_get (u := .ref 32) rfl).trans ?_
    refine (ex_iload_n (x := x2) rfl).trans ?_
    refine (ex_iconst).trans ?_
    refine (ex_iastore (z := 16) rfl).trans (ex_ite ?_ rfl)
    refine (ex_aload_n (x := 3) rfl).trans ?_
    refine (ex_get (u := .ref 2) rfl).trans ?_
    refine (ex_iload_n (x := x2) rfl).trans ?_
    refine (ex_inv_z (As := [.ref 2, .int x2]) (rest := []) rfl rfl).trans (ex_bnd fun u5 => ?_)
    refine (ex_if_eq (p := 75) (q := cp_62_r3) rfl).trans (ex_ite ?_ ?_)
    · refine (ex_iinc (L2 := [.ref 3, .int x1, .int (x2 + (1 : Int32))]) rfl rfl).trans ?_
      refine (ex_goto (p := 4) (q := cp_62_r1) rfl).trans ?_
      exact rfl
    · refine (ex_iload_n (x := x1) rfl).trans ?_
      refine (ex_aload_n (x := 3) rfl).trans ?_
      refine (ex_iload_n (x := x2) rfl).trans ?_
      refine (ex_inv_i (As := [.ref 3, .int x2]) (rest := [.int x1]) rfl rfl).trans (ex_bnd fun u6 => ?_)
      refine (ex_ior).trans ?_
      refine (ex_istore_n (L2 := [.ref 3, .int (x1 ||| u6.1), .int x2]) rfl).trans ?_
      refine (ex_aload_n (x := 3) rfl).trans ?_
      refine (ex_get (u := .ref 2) rfl).trans ?_
      refine (ex_iload_n (x := x2) rfl).trans ?_
      refine (ex_inv_z (As := [.ref 2, .int x2]) (rest := []) rfl rfl).trans (ex_bnd fun u7 => ?_)
      refine (ex_if_eq (p := 70) (q := cp_62_r2) rfl).trans (ex_ite ?_ ?_)
      · refine (ex_aload_n (x := 3) rfl).trans ?_
        refine (ex_iload_n (x := x2) rfl).trans ?_
        refine (ex_inv_v (As := [.ref 3, .int x2]) (rest := []) rfl rfl).trans (ex_bnd fun u8 => ?_)
        refine (ex_iinc (L2 := [.ref 3, .int (x1 ||| u6.1), .int (x2 + (1 : Int32))]) rfl rfl).trans ?_
        refine (ex_goto (p := 4) (q := cp_62_r1) rfl).trans ?_
        exact rfl
      · refine (ex_aload_n (x := 3) rfl).trans ?_
        refine (ex_get (u := .ref 2) rfl).trans ?_
        refine (ex_iload_n (x := x2) rfl).trans ?_
        refine (ex_inv_i (As := [.ref 2, .int x2]) (rest := []) rfl rfl).trans (ex_bnd fun u9 => ?_)
        refine (ex_sta_z (As := [.int u9.1]) (rest := []) (by decide) (by decide) rfl rfl).trans (ex_bnd fun u10 => ?_)
        refine (ex_if_eq (p := 70) (q := cp_62_r2) rfl).trans (ex_ite ?_ ?_)
        · refine (ex_aload_n (x := 3) rfl).trans ?_
          refine (ex_iload_n (x := x2) rfl).trans ?_
          refine (ex_inv_v (As := [.ref 3, .int x2]) (rest := []) rfl rfl).trans (ex_bnd fun u11 => ?_)
          refine (ex_iinc (L2 := [.ref 3, .int (x1 ||| u6.1), .int (x2 + (1 : Int32))]) rfl rfl).trans ?_
          refine (ex_goto (p := 4) (q := cp_62_r1) rfl).trans ?_
          exact rfl
        · refine (ex_iload_n (x := (x1 ||| u6.1)) rfl).trans ?_
          refine (ex_iconst).trans ?_
          refine (ex_ior).trans ?_
          refine (ex_istore_n (L2 := [.ref 3, .int ((x1 ||| u6.1) ||| (1 : Int32)), .int x2]) rfl).trans ?_
          refine (ex_aload_n (x := 3) rfl).trans ?_
          refine (ex_iload_n (x := x2) rfl).trans ?_
          refine (ex_inv_v (As := [.ref 3, .int x2]) (rest := []) rfl rfl).trans (ex_bnd fun u12 => ?_)
          refine (ex_iinc (L2 := [.ref 3, .int ((x1 ||| u6.1) ||| (1 : Int32)), .int (x2 + (1 : Int32))]) rfl rfl).trans ?_
          refine (ex_goto (p := 4) (q := cp_62_r1) rfl).trans ?_
          exact rfl
-- 63: WiringContainer$Plan.weigh()V
set_option maxRecDepth 100000 in
set_option maxHeartbeats 4000000 in
theorem cp_63_g (d : Nat) (σ : mm_S) : cG (d + 1) 63 [.ref 3] σ = (mm_ex sc (cG d) 0 cp_63_l (99999998 + 0) cp_63_r1 [.ref 3, .int (0 : Int32), .null] [] σ) := by
  refine (mm_entry 99999998 2 (maxL := 3) (labs := cp_63_l) (rows := cp_63_r0) (L := [.ref 3, .null, .null]) (rk := 0) rfl rfl rfl rfl rfl rfl).trans ?_
  refine (ex_iconst).trans ?_
  refine (ex_istore_n (L2 := [.ref 3, .int (0 : Int32), .null]) rfl).trans ?_
  exact rfl
set_option maxRecDepth 100000 in
set_option maxHeartbeats 4000000 in
theorem cp_63_h1 (d n : Nat) (σ : mm_S) (x1 : Int32) : mm_ex sc (cG d) 0 cp_63_l (n + 7) cp_63_r1 [.ref 3, .int x1, .null] [] σ = ((cG d 2 [.ref 2] σ).bind fun u1 => (if u1.1 ≤ x1 then (some (0, 0, u1.2.2)) else (mm_ex sc (cG d) 0 cp_63_l (n + 0) cp_63_r2 [.ref 3, .int x1, .int (0 : Int32)] [] u1.2.2))) := by
  refine (ex_iload_n (x := x1) rfl).trans ?_
  refine (ex_aload_n (x := 3) rfl).trans ?_
  refine (ex_get (u := .ref 2) rfl).trans ?_
  refine (ex_inv_i (As := [.ref 2]) (rest := [.int x1]) rfl rfl).trans (ex_bnd fun u1 => ?_)
  refine (ex_ic_ge (p := 64) (q := cp_63_r6) rfl).trans (ex_ite ?_ ?_)
  · exact ex_return
  · refine (ex_iconst).trans ?_
    refine (ex_istore_n (L2 := [.ref 3, .int x1, .int (0 : Int32)]) rfl).trans ?_
    exact rfl
set_option maxRecDepth 100000 in
set_option maxHeartbeats 4000000 in
theorem cp_63_h2 (d n : Nat) (σ : mm_S) (x1 : Int32) (x2 : Int32) : mm_ex sc (cG d) 0 cp_63_l (n + 20) cp_63_r2 [.ref 3, .int x1, .int x2] [] σ = ((cG d 2 [.ref 2] σ).bind fun u1 => (if u1.1 ≤ x2 then (mm_ex sc (cG d) 0 cp_63_l (n + 13) cp_63_r1 [.ref 3, .int (x1 + (1 : Int32)), .int x2] [] u1.2.2) else ((cG d 18 [.ref 2, .int x2] u1.2.2).bind fun u2 => (if u2.1 = 0 then (if mm_in x2 16 then (mm_ex sc (cG d) 0 cp_63_l (n + 3) cp_63_r2 [.ref 3, .int x1, .int (x2 + (1 : Int32))] [] ((mm_w u2.2.2.1 33 (x2).toNatClampNeg (0 : Int32)), u2.2.2.2)) else none) else ((cG d 69 [.ref 3, .int x2] u2.2.2).bind fun u3 => (if mm_in x2 16 then (mm_ex sc (cG d) 0 cp_63_l (n + 0) cp_63_r2 [.ref 3, .int x1, .int (x2 + (1 : Int32))] [] ((mm_w u3.2.2.1 33 (x2).toNatClampNeg u3.1), u3.2.2.2)) else none)))))) := by
  refine (ex_iload_n (x := x2) rfl).trans ?_
  refine (ex_aload_n (x := 3) rfl).trans ?_
  refine (ex_get (u := .ref 2) rfl).trans ?_
  refine (ex_inv_i (As := [.ref 2]) (rest := [.int x2]) rfl rfl).trans (ex_bnd fun u1 => ?_)
  refine (ex_ic_ge (p := 58) (q := cp_63_r5) rfl).trans (ex_ite ?_ ?_)
  · refine (ex_iinc (L2 := [.ref 3, .int (x1 + (1 : Int32)), .int x2]) rfl rfl).trans ?_
    refine (ex_goto (p := 2) (q := cp_63_r1) rfl).trans ?_
    exact rfl
  · refine (ex_aload_n (x := 3) rfl).trans ?_
    refine (ex_get (u := .ref 33) rfl).trans ?_
    refine (ex_iload_n (x := x2) rfl).trans ?_
    refine (ex_aload_n (x := 3) rfl).trans ?_
    refine (ex_get (u := .ref 2) rfl).trans ?_
    refine (ex_iload_n (x := x2) rfl).trans ?_
    refine (ex_inv_z (As := [.ref 2, .int x2]) (rest := [.int x2, .ref 33]) rfl rfl).trans (ex_bnd fun u2 => ?_)
    refine (ex_if_eq (p := 50) (q := cp_63_r3) rfl).trans (ex_ite ?_ ?_)
    · refine (ex_iconst).trans ?_
      refine (ex_iastore (z := 16) rfl).trans (ex_ite ?_ rfl)
      refine (ex_iinc (L2 := [.ref 3, .int x1, .int (x2 + (1 : Int32))]) rfl rfl).trans ?_
      refine (ex_goto (p := 15) (q := cp_63_r2) rfl).trans ?_
      exact rfl
    · refine (ex_aload_n (x := 3) rfl).trans ?_
      refine (ex_iload_n (x := x2) rfl).trans ?_
      refine (ex_inv_i (As := [.ref 3, .int x2]) (rest := [.int x2, .ref 33]) rfl rfl).trans (ex_bnd fun u3 => ?_)
      refine (ex_goto (p := 51) (q := cp_63_r4) rfl).trans ?_
      refine (ex_iastore (z := 16) rfl).trans (ex_ite ?_ rfl)
      refine (ex_iinc (L2 := [.ref 3, .int x1, .int (x2 + (1 : Int32))]) rfl rfl).trans ?_
      refine (ex_goto (p := 15) (q := cp_63_r2) rfl).trans ?_
      exact rfl
-- 64: WiringContainer$Plan.judgePoints(I)I
set_option maxRecDepth 100000 in
set_option maxHeartbeats 4000000 in
theorem cp_64_g (d : Nat) (σ : mm_S) (x1 : Int32) : cG (d + 1) 64 [.ref 3, .int x1] σ = (mm_ex sc (cG d) 1 cp_64_l (99999996 + 0) cp_64_r1 [.ref 3, .int x1, .int (0 : Int32), .int (0 : Int32), .null, .null] [] σ) := by
  refine (mm_entry 99999996 4 (maxL := 6) (labs := cp_64_l) (rows := cp_64_r0) (L := [.ref 3, .int x1, .null, .null, .null, .null]) (rk := 1) rfl rfl rfl rfl rfl rfl).trans ?_
  refine (ex_iconst).trans ?_
  refine (ex_istore_n (L2 := [.ref 3, .int x1, .int (0 : Int32), .null, .null, .null]) rfl).trans ?_
  refine (ex_iconst).trans ?_
  refine (ex_istore_n (L2 := [.ref 3, .int x1, .int (0 : Int32), .int (0 : Int32), .null, .null]) rfl).trans ?_
  exact rfl
set_option maxRecDepth 100000 in
set_option maxHeartbeats 4000000 in
theorem cp_64_h1 (d n : Nat) (σ : mm_S) (x1 : Int32) (x2 : Int32) (x3 : Int32) : mm_ex sc (cG d) 1 cp_64_l (n + 51) cp_64_r1 [.ref 3, .int x1, .int x2, .int x3, .null, .null] [] σ = ((cG d 11 [.ref 2, .int x1] σ).bind fun u1 => (if u1.1 ≤ x3 then (some (x2, 0, u1.2.2)) else ((cG d 13 [.ref 2, .int x1, .int x3] u1.2.2).bind fun u2 => ((cG d 14 [.ref 2, .int x1, .int x3] u2.2.2).bind fun u3 => ((cG d 19 [.ref 2, .int u2.1, .int u3.1] u3.2.2).bind fun u4 => ((mm_grid sc 28 x3).bind fun q5 => ((mm_arr sc q5 0).bind fun z6 => if mm_in x1 z6 then (if u4.1 = (-4 : Int32) then (mm_ex sc (cG d) 1 cp_64_l (n + 12) cp_64_r1 [.ref 3, .int x1, .int (x2 ||| (2 : Int32)), .int (x3 + (1 : Int32)), .int u2.1, .int u4.1] [] ((mm_w u4.2.2.1 q5 (x1).toNatClampNeg u4.1), u4.2.2.2)) else (if u4.1 = (-5 : Int32) then (mm_ex sc (cG d) 1 cp_64_l (n + 9) cp_64_r1 [.ref 3, .int x1, .int (x2 ||| (4 : Int32)), .int (x3 + (1 : Int32)), .int u2.1, .int u4.1] [] ((mm_w u4.2.2.1 q5 (x1).toNatClampNeg u4.1), u4.2.2.2)) else ((cG d 17 [.ref 2, .int u4.1] ((mm_w u4.2.2.1 q5 (x1).toNatClampNeg u4.1), u4.2.2.2)).bind fun u7 => (if u7.1 = 0 then (mm_ex sc (cG d) 1 cp_64_l (n + 9) cp_64_r1 [.ref 3, .int x1, .int x2, .int (x3 + (1 : Int32)), .int u2.1, .int u4.1] [] u7.2.2) else ((cG d 26 [.ref 1, .int u2.1] u7.2.2).bind fun u8 => (if u8.1 = 0 then (mm_ex sc (cG d) 1 cp_64_l (n + 4) cp_64_r1 [.ref 3, .int x1, .int x2, .int (x3 + (1 : Int32)), .int u2.1, .int u4.1] [] u8.2.2) else (mm_ex sc (cG d) 1 cp_64_l (n + 0) cp_64_r1 [.ref 3, .int x1, .int (x2 ||| (8 : Int32)), .int (x3 + (1 : Int32)), .int u2.1, .int u4.1] [] u8.2.2))))))) else none))))))) := by
  refine (ex_iload_n (x := x3) rfl).trans ?_
  refine (ex_aload_n (x := 3) rfl).trans ?_
  refine (ex_get (u := .ref 2) rfl).trans ?_
  refine (ex_iload_n (x := x1) rfl).trans ?_
  refine (ex_inv_i (As := [.ref 2, .int x1]) (rest := [.int x3]) rfl rfl).trans (ex_bnd fun u1 => ?_)
  refine (ex_ic_ge (p := 120) (q := cp_64_r5) rfl).trans (ex_ite ?_ ?_)
  · refine (ex_iload_n (x := x2) rfl).trans ?_
    exact ex_ireturn
  · refine (ex_aload_n (x := 3) rfl).trans ?_
    refine (ex_get (u := .ref 2) rfl).trans ?_
    refine (ex_iload_n (x := x1) rfl).trans ?_
    refine (ex_iload_n (x := x3) rfl).trans ?_
    refine (ex_inv_i (As := [.ref 2, .int x1, .int x3]) (rest := []) rfl rfl).trans (ex_bnd fun u2 => ?_)
    refine (ex_istore (L2 := [.ref 3, .int x1, .int x2, .int x3, .int u2.1, .null]) rfl).trans ?_
    refine (ex_aload_n (x := 3) rfl).trans ?_
    refine (ex_get (u := .ref 2) rfl).trans ?_
    refine (ex_iload (x := u2.1) rfl).trans ?_
    refine (ex_aload_n (x := 3) rfl).trans ?_
    refine (ex_get (u := .ref 2) rfl).trans ?_
    refine (ex_iload_n (x := x1) rfl).trans ?_
    refine (ex_iload_n (x := x3) rfl).trans ?_
    refine (ex_inv_i (As := [.ref 2, .int x1, .int x3]) (rest := [.int u2.1, .ref 2]) rfl rfl).trans (ex_bnd fun u3 => ?_)
    refine (ex_inv_i (As := [.ref 2, .int u2.1, .int u3.1]) (rest := []) rfl rfl).trans (ex_bnd fun u4 => ?_)
    refine (ex_istore (L2 := [.ref 3, .int x1, .int x2, .int x3, .int u2.1, .int u4.1]) rfl).trans ?_
    refine (ex_aload_n (x := 3) rfl).trans ?_
    refine (ex_get (u := .ref 28) rfl).trans ?_
    refine (ex_iload_n (x := x3) rfl).trans ?_
    refine ex_aaload.trans (ex_bnd fun q5 => ?_)
    refine (ex_iload_n (x := x1) rfl).trans ?_
    refine (ex_iload (x := u4.1) rfl).trans ?_
    refine ex_iastore_b.trans (ex_bnd fun z6 => ex_ite ?_ rfl)
    refine (ex_iload (x := u4.1) rfl).trans ?_
    refine (ex_bipush).trans ?_
    refine (ex_ic_ne (p := 71) (q := cp_64_r2) rfl).trans (ex_ite ?_ ?_)
    · refine (ex_iload_n (x := x2) rfl).trans ?_
      refine (ex_iconst).trans ?_
      refine (ex_ior).trans ?_
      refine (ex_istore_n (L2 := [.ref 3, .int x1, .int (x2 ||| (2 : Int32)), .int x3, .int u2.1, .int u4.1]) rfl).trans ?_
      refine (ex_goto (p := 114) (q := cp_64_r4) rfl).trans ?_
      refine (ex_iinc (L2 := [.ref 3, .int x1, .int (x2 ||| (2 : Int32)), .int (x3 + (1 : Int32)), .int u2.1, .int u4.1]) rfl rfl).trans ?_
      refine (ex_goto (p := 4) (q := cp_64_r1) rfl).trans ?_
      exact rfl
    · refine (ex_iload (x := u4.1) rfl).trans ?_
      refine (ex_bipush).trans ?_
      refine (ex_ic_ne (p := 85) (q := cp_64_r3) rfl).trans (ex_ite ?_ ?_)
      · refine (ex_iload_n (x := x2) rfl).trans ?_
        refine (ex_iconst).trans ?_
        refine (ex_ior).trans ?_
        refine (ex_istore_n (L2 := [.ref 3, .int x1, .int (x2 ||| (4 : Int32)), .int x3, .int u2.1, .int u4.1]) rfl).trans ?_
        refine (ex_goto (p := 114) (q := cp_64_r4) rfl).trans ?_
        refine (ex_iinc (L2 := [.ref 3, .int x1, .int (x2 ||| (4 : Int32)), .int (x3 + (1 : Int32)), .int u2.1, .int u4.1]) rfl rfl).trans ?_
        refine (ex_goto (p := 4) (q := cp_64_r1) rfl).trans ?_
        exact rfl
      · refine (ex_aload_n (x := 3) rfl).trans ?_
        refine (ex_get (u := .ref 2) rfl).trans ?_
        refine (ex_iload (x := u4.1) rfl).trans ?_
        refine (ex_inv_z (As := [.ref 2, .int u4.1]) (rest := []) rfl rfl).trans (ex_bnd fun u7 => ?_)
        refine (ex_if_eq (p := 114) (q := cp_64_r4) rfl).trans (ex_ite ?_ ?_)
        · refine (ex_iinc (L2 := [.ref 3, .int x1, .int x2, .int (x3 + (1 : Int32)), .int u2.1, .int u4.1]) rfl rfl).trans ?_
          refine (ex_goto (p := 4) (q := cp_64_r1) rfl).trans ?_
          exact rfl
        · refine (ex_aload_n (x := 3) rfl).trans ?_
          refine (ex_get (u := .ref 1) rfl).trans ?_
          refine (ex_iload (x := u2.1) rfl).trans ?_
          refine (ex_inv_z (As := [.ref 1, .int u2.1]) (rest := []) rfl rfl).trans (ex_bnd fun u8 => ?_)
          refine (ex_if_eq (p := 114) (q := cp_64_r4) rfl).trans (ex_ite ?_ ?_)
          · refine (ex_iinc (L2 := [.ref 3, .int x1, .int x2, .int (x3 + (1 : Int32)), .int u2.1, .int u4.1]) rfl rfl).trans ?_
            refine (ex_goto (p := 4) (q := cp_64_r1) rfl).trans ?_
            exact rfl
          · refine (ex_iload_n (x := x2) rfl).trans ?_
            refine (ex_bipush).trans ?_
            refine (ex_ior).trans ?_
            refine (ex_istore_n (L2 := [.ref 3, .int x1, .int (x2 ||| (8 : Int32)), .int x3, .int u2.1, .int u4.1]) rfl).trans ?_
            refine (ex_iinc (L2 := [.ref 3, .int x1, .int (x2 ||| (8 : Int32)), .int (x3 + (1 : Int32)), .int u2.1, .int u4.1]) rfl rfl).trans ?_
            refine (ex_goto (p := 4) (q := cp_64_r1) rfl).trans ?_
            exact rfl
-- 65: WiringContainer$Plan.containsVariable(I)Z
set_option maxRecDepth 100000 in
set_option maxHeartbeats 4000000 in
theorem cp_65_g (d : Nat) (σ : mm_S) (x0 : Int32) : cG (d + 1) 65 [.int x0] σ = (mm_ex sc (cG d) 3 cp_65_l (99999998 + 0) cp_65_r1 [.int x0, .int (1 : Int32)] [] σ) := by
  refine (mm_entry 99999998 2 (maxL := 2) (labs := cp_65_l) (rows := cp_65_r0) (L := [.int x0, .null]) (rk := 3) rfl rfl rfl rfl rfl rfl).trans ?_
  refine (ex_iconst).trans ?_
  refine (ex_istore_n (L2 := [.int x0, .int (1 : Int32)]) rfl).trans ?_
  exact rfl
set_option maxRecDepth 100000 in
set_option maxHeartbeats 4000000 in
theorem cp_65_h1 (d n : Nat) (σ : mm_S) (x0 : Int32) (x1 : Int32) : mm_ex sc (cG d) 3 cp_65_l (n + 14) cp_65_r1 [.int x0, .int x1] [] σ = (if (4 : Int32) ≤ x1 then (some ((0 : Int32), 0, σ)) else (if ((x0 >>> ((x1 * (5 : Int32)) &&& 31)) &&& (31 : Int32)) = (31 : Int32) then (some ((1 : Int32), 0, σ)) else (mm_ex sc (cG d) 3 cp_65_l (n + 0) cp_65_r1 [.int x0, .int (x1 + (1 : Int32))] [] σ))) := by
  refine (ex_iload_n (x := x1) rfl).trans ?_
  refine (ex_iconst).trans ?_
  refine (ex_ic_ge (p := 28) (q := cp_65_r3) rfl).trans (ex_ite ?_ ?_)
  · refine (ex_iconst).trans ?_
    exact ex_zreturn0
  · refine (ex_iload_n (x := x0) rfl).trans ?_
    refine (ex_iload_n (x := x1) rfl).trans ?_
    refine (ex_iconst).trans ?_
    refine (ex_imul).trans ?_
    refine (ex_ishr).trans ?_
    refine (ex_bipush).trans ?_
    refine (ex_iand).trans ?_
    refine (ex_bipush).trans ?_
    refine (ex_ic_ne (p := 22) (q := cp_65_r2) rfl).trans (ex_ite ?_ ?_)
    · refine (ex_iconst).trans ?_
      exact ex_zreturn1
    · refine (ex_iinc (L2 := [.int x0, .int (x1 + (1 : Int32))]) rfl rfl).trans ?_
      refine (ex_goto (p := 2) (q := cp_65_r1) rfl).trans ?_
      exact rfl
-- 66: WiringContainer$Plan.noteNeeds(I)V
set_option maxRecDepth 100000 in
set_option maxHeartbeats 4000000 in
theorem cp_66_g (d : Nat) (σ : mm_S) (x1 : Int32) : cG (d + 1) 66 [.ref 3, .int x1] σ = ((cG d 10 [.ref 2, .int x1] σ).bind fun u1 => ((cG d 1 [.ref 2, .int u1.1] u1.2.2).bind fun u2 => (if u2.1 = 0 then (mm_ex sc (cG d) 0 cp_66_l (99999980 + 10) cp_66_r1 [.ref 3, .int x1, .int u1.1, .null, .null] [] u2.2.2) else (if mm_in x1 16 then (if mm_in x1 16 then (mm_ex sc (cG d) 0 cp_66_l (99999980 + 0) cp_66_r1 [.ref 3, .int x1, .int u1.1, .null, .null] [] ((mm_w u2.2.2.1 32 (x1).toNatClampNeg ((u2.2.2.1 32 (x1).toNatClampNeg) ||| ((1 : Int32) <<< (u1.1 &&& 31)))), u2.2.2.2)) else none) else none)))) := by
  refine (mm_entry 99999980 20 (maxL := 5) (labs := cp_66_l) (rows := cp_66_r0) (L := [.ref 3, .int x1, .null, .null, .null]) (rk := 0) rfl rfl rfl rfl rfl rfl).trans ?_
  refine (ex_aload_n (x := 3) rfl).trans ?_
  refine (ex_get (u := .ref 2) rfl).trans ?_
  refine (ex_iload_n (x := x1) rfl).trans ?_
  refine (ex_inv_i (As := [.ref 2, .int x1]) (rest := []) rfl rfl).trans (ex_bnd fun u1 => ?_)
  refine (ex_istore_n (L2 := [.ref 3, .int x1, .int u1.1, .null, .null]) rfl).trans ?_
  refine (ex_aload_n (x := 3) rfl).trans ?_
  refine (ex_get (u := .ref 2) rfl).trans ?_
  refine (ex_iload_n (x := u1.1) rfl).trans ?_
  refine (ex_inv_z (As := [.ref 2, .int u1.1]) (rest := []) rfl rfl).trans (ex_bnd fun u2 => ?_)
  refine (ex_if_eq (p := 32) (q := cp_66_r1) rfl).trans (ex_ite ?_ ?_)
  · exact rfl
  · refine (ex_aload_n (x := 3) rfl).trans ?_
    refine (ex_get (u := .ref 32) rfl).trans ?_
    refine (ex_iload_n (x := x1) rfl).trans ?_
    refine (ex_dup2).trans ?_
    refine (ex_iaload (z := 16) rfl).trans (ex_ite ?_ rfl)
    refine (ex_iconst).trans ?_
    refine (ex_iload_n (x := u1.1) rfl).trans ?_
    refine (ex_ishl).trans ?_
    refine (ex_ior).trans ?_
    refine (ex_iastore (z := 16) rfl).trans (ex_ite ?_ rfl)
    exact rfl
set_option maxRecDepth 100000 in
set_option maxHeartbeats 4000000 in
theorem cp_66_h1 (d n : Nat) (σ : mm_S) (x1 : Int32) (x2 : Int32) : mm_ex sc (cG d) 0 cp_66_l (n + 2) cp_66_r1 [.ref 3, .int x1, .int x2, .null, .null] [] σ = (mm_ex sc (cG d) 0 cp_66_l (n + 0) cp_66_r2 [.ref 3, .int x1, .int x2, .int (0 : Int32), .null] [] σ) := by
  refine (ex_iconst).trans ?_
  refine (ex_istore_n (L2 := [.ref 3, .int x1, .int x2, .int (0 : Int32), .null]) rfl).trans ?_
  exact rfl
set_option maxRecDepth 100000 in
set_option maxHeartbeats 4000000 in
theorem cp_66_h2 (d n : Nat) (σ : mm_S) (x1 : Int32) (x2 : Int32) (x3 : Int32) : mm_ex sc (cG d) 0 cp_66_l (n + 30) cp_66_r2 [.ref 3, .int x1, .int x2, .int x3, .null] [] σ = ((cG d 11 [.ref 2, .int x1] σ).bind fun u1 => (if u1.1 ≤ x3 then (some (0, 0, u1.2.2)) else ((mm_grid sc 28 x3).bind fun q2 => ((mm_arr sc q2 0).bind fun z3 => if mm_in x1 z3 then ((cG d 16 [.ref 2, .int (u1.2.2.1 q2 (x1).toNatClampNeg)] u1.2.2).bind fun u4 => (if u4.1 = 0 then (mm_ex sc (cG d) 0 cp_66_l (n + 10) cp_66_r2 [.ref 3, .int x1, .int x2, .int (x3 + (1 : Int32)), .int (u1.2.2.1 q2 (x1).toNatClampNeg)] [] u4.2.2) else (if mm_in x1 16 then (if mm_in x1 16 then (mm_ex sc (cG d) 0 cp_66_l (n + 0) cp_66_r2 [.ref 3, .int x1, .int x2, .int (x3 + (1 : Int32)), .int (u1.2.2.1 q2 (x1).toNatClampNeg)] [] ((mm_w u4.2.2.1 32 (x1).toNatClampNeg ((u4.2.2.1 32 (x1).toNatClampNeg) ||| ((1 : Int32) <<< ((u1.2.2.1 q2 (x1).toNatClampNeg) &&& 31)))), u4.2.2.2)) else none) else none))) else none)))) := by
  refine (ex_iload_n (x := x3) rfl).trans ?_
  refine (ex_aload_n (x := 3) rfl).trans ?_
  refine (ex_get (u := .ref 2) rfl).trans ?_
  refine (ex_iload_n (x := x1) rfl).trans ?_
  refine (ex_inv_i (As := [.ref 2, .int x1]) (rest := [.int x3]) rfl rfl).trans (ex_bnd fun u1 => ?_)
  refine (ex_ic_ge (p := 87) (q := cp_66_r4) rfl).trans (ex_ite ?_ ?_)
  · exact ex_return
  · refine (ex_aload_n (x := 3) rfl).trans ?_
    refine (ex_get (u := .ref 28) rfl).trans ?_
    refine (ex_iload_n (x := x3) rfl).trans ?_
    refine ex_aaload.trans (ex_bnd fun q2 => ?_)
    refine (ex_iload_n (x := x1) rfl).trans ?_
    refine ex_iaload_b.trans (ex_bnd fun z3 => ex_ite ?_ rfl)
    refine (ex_istore (L2 := [.ref 3, .int x1, .int x2, .int x3, .int (u1.2.2.1 q2 (x1).toNatClampNeg)]) rfl).trans ?_
    refine (ex_aload_n (x := 3) rfl).trans ?_
    refine (ex_get (u := .ref 2) rfl).trans ?_
    refine (ex_iload (x := (u1.2.2.1 q2 (x1).toNatClampNeg)) rfl).trans ?_
    refine (ex_inv_z (As := [.ref 2, .int (u1.2.2.1 q2 (x1).toNatClampNeg)]) (rest := []) rfl rfl).trans (ex_bnd fun u4 => ?_)
    refine (ex_if_eq (p := 81) (q := cp_66_r3) rfl).trans (ex_ite ?_ ?_)
    · refine (ex_iinc (L2 := [.ref 3, .int x1, .int x2, .int (x3 + (1 : Int32)), .int (u1.2.2.1 q2 (x1).toNatClampNeg)]) rfl rfl).trans ?_
      refine (ex_goto (p := 34) (q := cp_66_r2) rfl).trans ?_
      exact rfl
    · refine (ex_aload_n (x := 3) rfl).trans ?_
      refine (ex_get (u := .ref 32) rfl).trans ?_
      refine (ex_iload_n (x := x1) rfl).trans ?_
      refine (ex_dup2).trans ?_
      refine (ex_iaload (z := 16) rfl).trans (ex_ite ?_ rfl)
      refine (ex_iconst).trans ?_
      refine (ex_iload (x := (u1.2.2.1 q2 (x1).toNatClampNeg)) rfl).trans ?_
      refine (ex_ishl).trans ?_
      refine (ex_ior).trans ?_
      refine (ex_iastore (z := 16) rfl).trans (ex_ite ?_ rfl)
      refine (ex_iinc (L2 := [.ref 3, .int x1, .int x2, .int (x3 + (1 : Int32)), .int (u1.2.2.1 q2 (x1).toNatClampNeg)]) rfl rfl).trans ?_
      refine (ex_goto (p := 34) (q := cp_66_r2) rfl).trans ?_
      exact rfl
-- 67: WiringContainer$Plan.someNeedsItself()Z
set_option maxRecDepth 100000 in
set_option maxHeartbeats 4000000 in
theorem cp_67_g (d : Nat) (σ : mm_S) : cG (d + 1) 67 [.ref 3] σ = (mm_ex sc (cG d) 3 cp_67_l (99999998 + 0) cp_67_r1 [.ref 3, .int (0 : Int32), .null] [] σ) := by
  refine (mm_entry 99999998 2 (maxL := 3) (labs := cp_67_l) (rows := cp_67_r0) (L := [.ref 3, .null, .null]) (rk := 3) rfl rfl rfl rfl rfl rfl).trans ?_
  refine (ex_iconst).trans ?_
  refine (ex_istore_n (L2 := [.ref 3, .int (0 : Int32), .null]) rfl).trans ?_
  exact rfl
set_option maxRecDepth 100000 in
set_option maxHeartbeats 4000000 in
theorem cp_67_h1 (d n : Nat) (σ : mm_S) (x1 : Int32) : mm_ex sc (cG d) 3 cp_67_l (n + 7) cp_67_r1 [.ref 3, .int x1, .null] [] σ = ((cG d 2 [.ref 2] σ).bind fun u1 => (if u1.1 ≤ x1 then (mm_ex sc (cG d) 3 cp_67_l (n + 0) cp_67_r6 [.ref 3, .int (0 : Int32), .null] [] u1.2.2) else (mm_ex sc (cG d) 3 cp_67_l (n + 0) cp_67_r2 [.ref 3, .int x1, .int (0 : Int32)] [] u1.2.2))) := by
  refine (ex_iload_n (x := x1) rfl).trans ?_
  refine (ex_aload_n (x := 3) rfl).trans ?_
  refine (ex_get (u := .ref 2) rfl).trans ?_
  refine (ex_inv_i (As := [.ref 2]) (rest := [.int x1]) rfl rfl).trans (ex_bnd fun u1 => ?_)
  refine (ex_ic_ge (p := 67) (q := cp_67_r5) rfl).trans (ex_ite ?_ ?_)
  · refine (ex_iconst).trans ?_
    refine (ex_istore_n (L2 := [.ref 3, .int (0 : Int32), .null]) rfl).trans ?_
    exact rfl
  · refine (ex_iconst).trans ?_
    refine (ex_istore_n (L2 := [.ref 3, .int x1, .int (0 : Int32)]) rfl).trans ?_
    exact rfl
set_option maxRecDepth 100000 in
set_option maxHeartbeats 4000000 in
theorem cp_67_h2 (d n : Nat) (σ : mm_S) (x1 : Int32) (x2 : Int32) : mm_ex sc (cG d) 3 cp_67_l (n + 28) cp_67_r2 [.ref 3, .int x1, .int x2] [] σ = ((cG d 2 [.ref 2] σ).bind fun u1 => (if u1.1 ≤ x2 then (mm_ex sc (cG d) 3 cp_67_l (n + 21) cp_67_r1 [.ref 3, .int (x1 + (1 : Int32)), .int x2] [] u1.2.2) else (if mm_in x2 16 then (if (((u1.2.2.1 32 (x2).toNatClampNeg) >>> (x1 &&& 31)) &&& (1 : Int32)) = (1 : Int32) then (if mm_in x2 16 then (if mm_in x1 16 then (if mm_in x2 16 then (mm_ex sc (cG d) 3 cp_67_l (n + 0) cp_67_r2 [.ref 3, .int x1, .int (x2 + (1 : Int32))] [] ((mm_w u1.2.2.1 32 (x2).toNatClampNeg ((u1.2.2.1 32 (x2).toNatClampNeg) ||| (u1.2.2.1 32 (x1).toNatClampNeg))), u1.2.2.2)) else none) else none) else none) else (mm_ex sc (cG d) 3 cp_67_l (n + 11) cp_67_r2 [.ref 3, .int x1, .int (x2 + (1 : Int32))] [] u1.2.2)) else none))) := by
  refine (ex_iload_n (x := x2) rfl).trans ?_
  refine (ex_aload_n (x := 3) rfl).trans ?_
  refine (ex_get (u := .ref 2) rfl).trans ?_
  refine (ex_inv_i (As := [.ref 2]) (rest := [.int x2]) rfl rfl).trans (ex_bnd fun u1 => ?_)
  refine (ex_ic_ge (p := 61) (q := cp_67_r4) rfl).trans (ex_ite ?_ ?_)
  · refine (ex_iinc (L2 := [.ref 3, .int (x1 + (1 : Int32)), .int x2]) rfl rfl).trans ?_
    refine (ex_goto (p := 2) (q := cp_67_r1) rfl).trans ?_
    exact rfl
  · refine (ex_aload_n (x := 3) rfl).trans ?_
    refine (ex_get (u := .ref 32) rfl).trans ?_
    refine (ex_iload_n (x := x2) rfl).trans ?_
    refine (ex_iaload (z := 16) rfl).trans (ex_ite ?_ rfl)
    refine (ex_iload_n (x := x1) rfl).trans ?_
    refine (ex_ishr).trans ?_
    refine (ex_iconst).trans ?_
    refine (ex_iand).trans ?_
    refine (ex_iconst).trans ?_
    refine (ex_ic_ne (p := 55) (q := cp_67_r3) rfl).trans (ex_ite ?_ ?_)
    · refine (ex_aload_n (x := 3) rfl).trans ?_
      refine (ex_get (u := .ref 32) rfl).trans ?_
      refine (ex_iload_n (x := x2) rfl).trans ?_
      refine (ex_dup2).trans ?_
      refine (ex_iaload (z := 16) rfl).trans (ex_ite ?_ rfl)
      refine (ex_aload_n (x := 3) rfl).trans ?_
      refine (ex_get (u := .ref 32) rfl).trans ?_
      refine (ex_iload_n (x := x1) rfl).trans ?_
      refine (ex_iaload (z := 16) rfl).trans (ex_ite ?_ rfl)
      refine (ex_ior).trans ?_
      refine (ex_iastore (z := 16) rfl).trans (ex_ite ?_ rfl)
      refine (ex_iinc (L2 := [.ref 3, .int x1, .int (x2 + (1 : Int32))]) rfl rfl).trans ?_
      refine (ex_goto (p := 15) (q := cp_67_r2) rfl).trans ?_
      exact rfl
    · refine (ex_iinc (L2 := [.ref 3, .int x1, .int (x2 + (1 : Int32))]) rfl rfl).trans ?_
      refine (ex_goto (p := 15) (q := cp_67_r2) rfl).trans ?_
      exact rfl
set_option maxRecDepth 100000 in
set_option maxHeartbeats 4000000 in
theorem cp_67_h6 (d n : Nat) (σ : mm_S) (x1 : Int32) : mm_ex sc (cG d) 3 cp_67_l (n + 17) cp_67_r6 [.ref 3, .int x1, .null] [] σ = ((cG d 2 [.ref 2] σ).bind fun u1 => (if u1.1 ≤ x1 then (some ((0 : Int32), 0, u1.2.2)) else (if mm_in x1 16 then (if (((u1.2.2.1 32 (x1).toNatClampNeg) >>> (x1 &&& 31)) &&& (1 : Int32)) = (1 : Int32) then (some ((1 : Int32), 0, u1.2.2)) else (mm_ex sc (cG d) 3 cp_67_l (n + 0) cp_67_r6 [.ref 3, .int (x1 + (1 : Int32)), .null] [] u1.2.2)) else none))) := by
  refine (ex_iload_n (x := x1) rfl).trans ?_
  refine (ex_aload_n (x := 3) rfl).trans ?_
  refine (ex_get (u := .ref 2) rfl).trans ?_
  refine (ex_inv_i (As := [.ref 2]) (rest := [.int x1]) rfl rfl).trans (ex_bnd fun u1 => ?_)
  refine (ex_ic_ge (p := 102) (q := cp_67_r8) rfl).trans (ex_ite ?_ ?_)
  · refine (ex_iconst).trans ?_
    exact ex_zreturn0
  · refine (ex_aload_n (x := 3) rfl).trans ?_
    refine (ex_get (u := .ref 32) rfl).trans ?_
    refine (ex_iload_n (x := x1) rfl).trans ?_
    refine (ex_iaload (z := 16) rfl).trans (ex_ite ?_ rfl)
    refine (ex_iload_n (x := x1) rfl).trans ?_
    refine (ex_ishr).trans ?_
    refine (ex_iconst).trans ?_
    refine (ex_iand).trans ?_
    refine (ex_iconst).trans ?_
    refine (ex_ic_ne (p := 96) (q := cp_67_r7) rfl).trans (ex_ite ?_ ?_)
    · refine (ex_iconst).trans ?_
      exact ex_zreturn1
    · refine (ex_iinc (L2 := [.ref 3, .int (x1 + (1 : Int32)), .null]) rfl rfl).trans ?_
      refine (ex_goto (p := 69) (q := cp_67_r6) rfl).trans ?_
      exact rfl
-- 68: WiringContainer$Plan.someNameIsShared()Z
set_option maxRecDepth 100000 in
set_option maxHeartbeats 4000000 in
theorem cp_68_g (d : Nat) (σ : mm_S) : cG (d + 1) 68 [.ref 3] σ = (mm_ex sc (cG d) 3 cp_68_l (99999998 + 0) cp_68_r1 [.ref 3, .int (1 : Int32), .null, .null] [] σ) := by
  refine (mm_entry 99999998 2 (maxL := 4) (labs := cp_68_l) (rows := cp_68_r0) (L := [.ref 3, .null, .null, .null]) (rk := 3) rfl rfl rfl rfl rfl rfl).trans ?_
  refine (ex_iconst).trans ?_
  refine (ex_istore_n (L2 := [.ref 3, .int (1 : Int32), .null, .null]) rfl).trans ?_
  exact rfl
set_option maxRecDepth 100000 in
set_option maxHeartbeats 4000000 in
theorem cp_68_h1 (d n : Nat) (σ : mm_S) (x1 : Int32) : mm_ex sc (cG d) 3 cp_68_l (n + 7) cp_68_r1 [.ref 3, .int x1, .null, .null] [] σ = (if (7 : Int32) < x1 then (some ((0 : Int32), 0, σ)) else (mm_ex sc (cG d) 3 cp_68_l (n + 0) cp_68_r2 [.ref 3, .int x1, .int (0 : Int32), .int (0 : Int32)] [] σ)) := by
  refine (ex_iload_n (x := x1) rfl).trans ?_
  refine (ex_bipush).trans ?_
  refine (ex_ic_gt (p := 81) (q := cp_68_r6) rfl).trans (ex_ite ?_ ?_)
  · refine (ex_iconst).trans ?_
    exact ex_zreturn0
  · refine (ex_iconst).trans ?_
    refine (ex_istore_n (L2 := [.ref 3, .int x1, .int (0 : Int32), .null]) rfl).trans ?_
    refine (ex_iconst).trans ?_
    refine (ex_istore_n (L2 := [.ref 3, .int x1, .int (0 : Int32), .int (0 : Int32)]) rfl).trans ?_
    exact rfl
set_option maxRecDepth 100000 in
set_option maxHeartbeats 4000000 in
theorem cp_68_h2 (d n : Nat) (σ : mm_S) (x1 : Int32) (x2 : Int32) (x3 : Int32) : mm_ex sc (cG d) 3 cp_68_l (n + 24) cp_68_r2 [.ref 3, .int x1, .int x2, .int x3] [] σ = ((cG d 2 [.ref 2] σ).bind fun u1 => (if u1.1 ≤ x3 then ((cG d 21 [.ref 2, .int x2] u1.2.2).bind fun u2 => ((cG d 100 [.int u2.1] u2.2.2).bind fun u3 => (if u3.1 ≤ (1 : Int32) then (mm_ex sc (cG d) 3 cp_68_l (n + 10) cp_68_r1 [.ref 3, .int (x1 + (1 : Int32)), .int x2, .int x3] [] u3.2.2) else (some ((1 : Int32), 0, u3.2.2))))) else ((cG d 18 [.ref 2, .int x3] u1.2.2).bind fun u4 => (if u4.1 = 0 then (mm_ex sc (cG d) 3 cp_68_l (n + 12) cp_68_r2 [.ref 3, .int x1, .int x2, .int (x3 + (1 : Int32))] [] u4.2.2) else ((cG d 8 [.ref 2, .int x3] u4.2.2).bind fun u5 => (if u5.1 = x1 then (mm_ex sc (cG d) 3 cp_68_l (n + 0) cp_68_r2 [.ref 3, .int x1, .int (x2 ||| ((1 : Int32) <<< (x3 &&& 31))), .int (x3 + (1 : Int32))] [] u5.2.2) else (mm_ex sc (cG d) 3 cp_68_l (n + 6) cp_68_r2 [.ref 3, .int x1, .int x2, .int (x3 + (1 : Int32))] [] u5.2.2))))))) := by
  refine (ex_iload_n (x := x3) rfl).trans ?_
  refine (ex_aload_n (x := 3) rfl).trans ?_
  refine (ex_get (u := .ref 2) rfl).trans ?_
  refine (ex_inv_i (As := [.ref 2]) (rest := [.int x3]) rfl rfl).trans (ex_bnd fun u1 => ?_)
  refine (ex_ic_ge (p := 58) (q := cp_68_r4) rfl).trans (ex_ite ?_ ?_)
  · refine (ex_aload_n (x := 3) rfl).trans ?_
    refine (ex_get (u := .ref 2) rfl).trans ?_
    refine (ex_iload_n (x := x2) rfl).trans ?_
    refine (ex_inv_i (As := [.ref 2, .int x2]) (rest := []) rfl rfl).trans (ex_bnd fun u2 => ?_)
    refine (ex_sta_i (As := [.int u2.1]) (rest := []) (by decide) (by decide) rfl rfl).trans (ex_bnd fun u3 => ?_)
    refine (ex_iconst).trans ?_
    refine (ex_ic_le (p := 75) (q := cp_68_r5) rfl).trans (ex_ite ?_ ?_)
    · refine (ex_iinc (L2 := [.ref 3, .int (x1 + (1 : Int32)), .int x2, .int x3]) rfl rfl).trans ?_
      refine (ex_goto (p := 2) (q := cp_68_r1) rfl).trans ?_
      exact rfl
    · refine (ex_iconst).trans ?_
      exact ex_zreturn1
  · refine (ex_aload_n (x := 3) rfl).trans ?_
    refine (ex_get (u := .ref 2) rfl).trans ?_
    refine (ex_iload_n (x := x3) rfl).trans ?_
    refine (ex_inv_z (As := [.ref 2, .int x3]) (rest := []) rfl rfl).trans (ex_bnd fun u4 => ?_)
    refine (ex_if_eq (p := 52) (q := cp_68_r3) rfl).trans (ex_ite ?_ ?_)
    · refine (ex_iinc (L2 := [.ref 3, .int x1, .int x2, .int (x3 + (1 : Int32))]) rfl rfl).trans ?_
      refine (ex_goto (p := 12) (q := cp_68_r2) rfl).trans ?_
      exact rfl
    · refine (ex_aload_n (x := 3) rfl).trans ?_
      refine (ex_get (u := .ref 2) rfl).trans ?_
      refine (ex_iload_n (x := x3) rfl).trans ?_
      refine (ex_inv_i (As := [.ref 2, .int x3]) (rest := []) rfl rfl).trans (ex_bnd fun u5 => ?_)
      refine (ex_iload_n (x := x1) rfl).trans ?_
      refine (ex_ic_ne (p := 52) (q := cp_68_r3) rfl).trans (ex_ite ?_ ?_)
      · refine (ex_iload_n (x := x2) rfl).trans ?_
        refine (ex_iconst).trans ?_
        refine (ex_iload_n (x := x3) rfl).trans ?_
        refine (ex_ishl).trans ?_
        refine (ex_ior).trans ?_
        refine (ex_istore_n (L2 := [.ref 3, .int x1, .int (x2 ||| ((1 : Int32) <<< (x3 &&& 31))), .int x3]) rfl).trans ?_
        refine (ex_iinc (L2 := [.ref 3, .int x1, .int (x2 ||| ((1 : Int32) <<< (x3 &&& 31))), .int (x3 + (1 : Int32))]) rfl rfl).trans ?_
        refine (ex_goto (p := 12) (q := cp_68_r2) rfl).trans ?_
        exact rfl
      · refine (ex_iinc (L2 := [.ref 3, .int x1, .int x2, .int (x3 + (1 : Int32))]) rfl rfl).trans ?_
        refine (ex_goto (p := 12) (q := cp_68_r2) rfl).trans ?_
        exact rfl
-- 69: WiringContainer$Plan.costOverNeeds(I)I
set_option maxRecDepth 100000 in
set_option maxHeartbeats 4000000 in
theorem cp_69_g (d : Nat) (σ : mm_S) (x1 : Int32) : cG (d + 1) 69 [.ref 3, .int x1] σ = ((cG d 10 [.ref 2, .int x1] σ).bind fun u1 => ((cG d 61 [.ref 3, .int u1.1] u1.2.2).bind fun u2 => (mm_ex sc (cG d) 1 cp_69_l (99999989 + 0) cp_69_r1 [.ref 3, .int x1, .int ((1 : Int32) + u2.1), .int (0 : Int32), .null] [] u2.2.2))) := by
  refine (mm_entry 99999989 11 (maxL := 5) (labs := cp_69_l) (rows := cp_69_r0) (L := [.ref 3, .int x1, .null, .null, .null]) (rk := 1) rfl rfl rfl rfl rfl rfl).trans ?_
  refine (ex_iconst).trans ?_
  refine (ex_aload_n (x := 3) rfl).trans ?_
  refine (ex_aload_n (x := 3) rfl).trans ?_
  refine (ex_get (u := .ref 2) rfl).trans ?_
  refine (ex_iload_n (x := x1) rfl).trans ?_
  refine (ex_inv_i (As := [.ref 2, .int x1]) (rest := [.ref 3, .int (1 : Int32)]) rfl rfl).trans (ex_bnd fun u1 => ?_)
  refine (ex_inv_i (As := [.ref 3, .int u1.1]) (rest := [.int (1 : Int32)]) rfl rfl).trans (ex_bnd fun u2 => ?_)
  refine (ex_iadd).trans ?_
  refine (ex_istore_n (L2 := [.ref 3, .int x1, .int ((1 : Int32) + u2.1), .null, .null]) rfl).trans ?_
  refine (ex_iconst).trans ?_
  refine (ex_istore_n (L2 := [.ref 3, .int x1, .int ((1 : Int32) + u2.1), .int (0 : Int32), .null]) rfl).trans ?_
  exact rfl
set_option maxRecDepth 100000 in
set_option maxHeartbeats 4000000 in
theorem cp_69_h1 (d n : Nat) (σ : mm_S) (x1 : Int32) (x2 : Int32) (x3 : Int32) : mm_ex sc (cG d) 1 cp_69_l (n + 27) cp_69_r1 [.ref 3, .int x1, .int x2, .int x3, .null] [] σ = ((cG d 11 [.ref 2, .int x1] σ).bind fun u1 => (if u1.1 ≤ x3 then (some ((if (100 : Int32) < x2 then (100 : Int32) else x2), 0, u1.2.2)) else ((mm_grid sc 28 x3).bind fun q2 => ((mm_arr sc q2 0).bind fun z3 => if mm_in x1 z3 then ((cG d 16 [.ref 2, .int (u1.2.2.1 q2 (x1).toNatClampNeg)] u1.2.2).bind fun u4 => (if u4.1 = 0 then (mm_ex sc (cG d) 1 cp_69_l (n + 7) cp_69_r1 [.ref 3, .int x1, .int x2, .int (x3 + (1 : Int32)), .int (u1.2.2.1 q2 (x1).toNatClampNeg)] [] u4.2.2) else (if mm_in (u1.2.2.1 q2 (x1).toNatClampNeg) 16 then (mm_ex sc (cG d) 1 cp_69_l (n + 0) cp_69_r1 [.ref 3, .int x1, .int (x2 + (u4.2.2.1 33 ((u1.2.2.1 q2 (x1).toNatClampNeg)).toNatClampNeg)), .int (x3 + (1 : Int32)), .int (u1.2.2.1 q2 (x1).toNatClampNeg)] [] u4.2.2) else none))) else none)))) := by
  refine (ex_iload_n (x := x3) rfl).trans ?_
  refine (ex_aload_n (x := 3) rfl).trans ?_
  refine (ex_get (u := .ref 2) rfl).trans ?_
  refine (ex_iload_n (x := x1) rfl).trans ?_
  refine (ex_inv_i (As := [.ref 2, .int x1]) (rest := [.int x3]) rfl rfl).trans (ex_bnd fun u1 => ?_)
  refine (ex_ic_ge (p := 67) (q := cp_69_r3) rfl).trans (ex_ite ?_ ?_)
  · refine (ex_iload_n (x := x2) rfl).trans ?_
    refine (ex_bipush).trans ?_
    refine (ex_min (by decide)).trans ?_
    exact ex_ireturn
  · refine (ex_aload_n (x := 3) rfl).trans ?_
    refine (ex_get (u := .ref 28) rfl).trans ?_
    refine (ex_iload_n (x := x3) rfl).trans ?_
    refine ex_aaload.trans (ex_bnd fun q2 => ?_)
    refine (ex_iload_n (x := x1) rfl).trans ?_
    refine ex_iaload_b.trans (ex_bnd fun z3 => ex_ite ?_ rfl)
    refine (ex_istore (L2 := [.ref 3, .int x1, .int x2, .int x3, .int (u1.2.2.1 q2 (x1).toNatClampNeg)]) rfl).trans ?_
    refine (ex_aload_n (x := 3) rfl).trans ?_
    refine (ex_get (u := .ref 2) rfl).trans ?_
    refine (ex_iload (x := (u1.2.2.1 q2 (x1).toNatClampNeg)) rfl).trans ?_
    refine (ex_inv_z (As := [.ref 2, .int (u1.2.2.1 q2 (x1).toNatClampNeg)]) (rest := []) rfl rfl).trans (ex_bnd fun u4 => ?_)
    refine (ex_if_eq (p := 61) (q := cp_69_r2) rfl).trans (ex_ite ?_ ?_)
    · refine (ex_iinc (L2 := [.ref 3, .int x1, .int x2, .int (x3 + (1 : Int32)), .int (u1.2.2.1 q2 (x1).toNatClampNeg)]) rfl rfl).trans ?_
      refine (ex_goto (p := 17) (q := cp_69_r1) rfl).trans ?_
      exact rfl
    · refine (ex_iload_n (x := x2) rfl).trans ?_
      refine (ex_aload_n (x := 3) rfl).trans ?_
      refine (ex_get (u := .ref 33) rfl).trans ?_
      refine (ex_iload (x := (u1.2.2.1 q2 (x1).toNatClampNeg)) rfl).trans ?_
      refine (ex_iaload (z := 16) rfl).trans (ex_ite ?_ rfl)
      refine (ex_iadd).trans ?_
      refine (ex_istore_n (L2 := [.ref 3, .int x1, .int (x2 + (u4.2.2.1 33 ((u1.2.2.1 q2 (x1).toNatClampNeg)).toNatClampNeg)), .int x3, .int (u1.2.2.1 q2 (x1).toNatClampNeg)]) rfl).trans ?_
      refine (ex_iinc (L2 := [.ref 3, .int x1, .int (x2 + (u4.2.2.1 33 ((u1.2.2.1 q2 (x1).toNatClampNeg)).toNatClampNeg)), .int (x3 + (1 : Int32)), .int (u1.2.2.1 q2 (x1).toNatClampNeg)]) rfl rfl).trans ?_
      refine (ex_goto (p := 17) (q := cp_69_r1) rfl).trans ?_
      exact rfl
