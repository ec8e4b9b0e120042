/-! THE CLASS, stretch by stretch, as pure equations (by program) -/
-- 70: WiringContainer.declare(IIZZ)I
set_option maxRecDepth 100000 in
set_option maxHeartbeats 4000000 in
theorem cp_70_g (d : Nat) (σ : mm_S) (x1 : Int32) (x2 : Int32) (x3 : Int32) (x4 : Int32) : cG (d + 1) 70 [.ref 0, .int x1, .int x2, .int x3, .int x4] σ = (if (σ.1 0 5) = 0 then ((cG d 24 [.ref 1] σ).bind fun u1 => (if u1.1 = 0 then (if x1 = 0 then (if x2 = 0 then ((cG d 30 [.ref 1, .int x1, .int x2] u1.2.2).bind fun u2 => (if u2.1 ≤ (3 : Int32) then ((cG d 31 [.ref 1, .int x1, .int x2, .int x3, .int x4] u2.2.2).bind fun u3 => (some (u3.1, 0, u3.2.2))) else (some ((-1 : Int32), 0, u2.2.2)))) else ((cG d 27 [.ref 1, .int x2, .int x3] u1.2.2).bind fun u4 => (if u4.1 = 0 then (some ((-1 : Int32), 0, u4.2.2)) else ((cG d 30 [.ref 1, .int x1, .int x2] u4.2.2).bind fun u5 => (if u5.1 ≤ (3 : Int32) then ((cG d 31 [.ref 1, .int x1, .int x2, .int x3, .int x4] u5.2.2).bind fun u6 => (some (u6.1, 0, u6.2.2))) else (some ((-1 : Int32), 0, u5.2.2))))))) else ((cG d 27 [.ref 1, .int x1, .int x3] u1.2.2).bind fun u7 => (if u7.1 = 0 then (some ((-1 : Int32), 0, u7.2.2)) else (if x2 = 0 then ((cG d 30 [.ref 1, .int x1, .int x2] u7.2.2).bind fun u8 => (if u8.1 ≤ (3 : Int32) then ((cG d 31 [.ref 1, .int x1, .int x2, .int x3, .int x4] u8.2.2).bind fun u9 => (some (u9.1, 0, u9.2.2))) else (some ((-1 : Int32), 0, u8.2.2)))) else ((cG d 27 [.ref 1, .int x2, .int x3] u7.2.2).bind fun u10 => (if u10.1 = 0 then (some ((-1 : Int32), 0, u10.2.2)) else ((cG d 30 [.ref 1, .int x1, .int x2] u10.2.2).bind fun u11 => (if u11.1 ≤ (3 : Int32) then ((cG d 31 [.ref 1, .int x1, .int x2, .int x3, .int x4] u11.2.2).bind fun u12 => (some (u12.1, 0, u12.2.2))) else (some ((-1 : Int32), 0, u11.2.2)))))))))) else (some ((-2 : Int32), 0, u1.2.2)))) else (some ((-3 : Int32), 0, σ))) := by
  refine (mm_entry 99999957 43 (maxL := 6) (labs := cp_70_l) (rows := cp_70_r0) (L := [.ref 0, .int x1, .int x2, .int x3, .int x4, .null]) (rk := 1) rfl rfl rfl rfl rfl rfl).trans ?_
  refine (ex_aload_n (x := 0) rfl).trans ?_
  refine (ex_get (u := .int (σ.1 0 5)) rfl).trans ?_
  refine (ex_if_eq (p := 10) (q := cp_70_r1) rfl).trans (ex_ite ?_ ?_)
  · refine (ex_aload_n (x := 0) rfl).trans ?_
    refine (ex_get (u := .ref 1) rfl).trans ?_
    refine (ex_inv_z (As := [.ref 1]) (rest := []) rfl rfl).trans (ex_bnd fun u1 => ?_)
    refine (ex_if_eq (p := 23) (q := cp_70_r2) rfl).trans (ex_ite ?_ ?_)
    · refine (ex_iload_n (x := x1) rfl).trans ?_
      refine (ex_if_eq (p := 39) (q := cp_70_r3) rfl).trans (ex_ite ?_ ?_)
      · refine (ex_iload_n (x := x2) rfl).trans ?_
        refine (ex_if_eq (p := 55) (q := cp_70_r4) rfl).trans (ex_ite ?_ ?_)
        · refine (ex_iconst).trans ?_
          refine (ex_goto (p := 60) (q := cp_70_r6) rfl).trans ?_
          refine (ex_istore (L2 := [.ref 0, .int x1, .int x2, .int x3, .int x4, .int (1 : Int32)]) rfl).trans ?_
          refine (ex_iload (x := (1 : Int32)) rfl).trans ?_
          refine (ex_if_eq (p := 80) (q := cp_70_r7) rfl).trans (ex_f (by decide) ?_)
          refine (ex_aload_n (x := 0) rfl).trans ?_
          refine (ex_get (u := .ref 1) rfl).trans ?_
          refine (ex_iload_n (x := x1) rfl).trans ?_
          refine (ex_iload_n (x := x2) rfl).trans ?_
          refine (ex_inv_i (As := [.ref 1, .int x1, .int x2]) (rest := []) rfl rfl).trans (ex_bnd fun u2 => ?_)
          refine (ex_iconst).trans ?_
          refine (ex_ic_le (p := 82) (q := cp_70_r8) rfl).trans (ex_ite ?_ ?_)
          · refine (ex_aload_n (x := 0) rfl).trans ?_
            refine (ex_get (u := .ref 1) rfl).trans ?_
            refine (ex_iload_n (x := x1) rfl).trans ?_
            refine (ex_iload_n (x := x2) rfl).trans ?_
            refine (ex_iload_n (x := x3) rfl).trans ?_
            refine (ex_iload (x := x4) rfl).trans ?_
            refine (ex_inv_i (As := [.ref 1, .int x1, .int x2, .int x3, .int x4]) (rest := []) rfl rfl).trans (ex_bnd fun u3 => ?_)
            exact ex_ireturn
          · refine (ex_iconst).trans ?_
            exact ex_ireturn
        · refine (ex_aload_n (x := 0) rfl).trans ?_
          refine (ex_get (u := .ref 1) rfl).trans ?_
          refine (ex_iload_n (x := x2) rfl).trans ?_
          refine (ex_iload_n (x := x3) rfl).trans ?_
          refine (ex_inv_z (As := [.ref 1, .int x2, .int x3]) (rest := []) rfl rfl).trans (ex_bnd fun u4 => ?_)
          refine (ex_if_eq (p := 59) (q := cp_70_r5) rfl).trans (ex_ite ?_ ?_)
          · refine (ex_iconst).trans ?_
            refine (ex_istore (L2 := [.ref 0, .int x1, .int x2, .int x3, .int x4, .int (0 : Int32)]) rfl).trans ?_
            refine (ex_iload (x := (0 : Int32)) rfl).trans ?_
            refine (ex_if_eq (p := 80) (q := cp_70_r7) rfl).trans (ex_t (by decide) ?_)
            refine (ex_iconst).trans ?_
            exact ex_ireturn
          · refine (ex_iconst).trans ?_
            refine (ex_goto (p := 60) (q := cp_70_r6) rfl).trans ?_
            refine (ex_istore (L2 := [.ref 0, .int x1, .int x2, .int x3, .int x4, .int (1 : Int32)]) rfl).trans ?_
            refine (ex_iload (x := (1 : Int32)) rfl).trans ?_
            refine (ex_if_eq (p := 80) (q := cp_70_r7) rfl).trans (ex_f (by decide) ?_)
            refine (ex_aload_n (x := 0) rfl).trans ?_
            refine (ex_get (u := .ref 1) rfl).trans ?_
            refine (ex_iload_n (x := x1) rfl).trans ?_
            refine (ex_iload_n (x := x2) rfl).trans ?_
            refine (ex_inv_i (As := [.ref 1, .int x1, .int x2]) (rest := []) rfl rfl).trans (ex_bnd fun u5 => ?_)
            refine (ex_iconst).trans ?_
            refine (ex_ic_le (p := 82) (q := cp_70_r8) rfl).trans (ex_ite ?_ ?_)
            · refine (ex_aload_n (x := 0) rfl).trans ?_
              refine (ex_get (u := .ref 1) rfl).trans ?_
              refine (ex_iload_n (x := x1) rfl).trans ?_
              refine (ex_iload_n (x := x2) rfl).trans ?_
              refine (ex_iload_n (x := x3) rfl).trans ?_
              refine (ex_iload (x := x4) rfl).trans ?_
              refine (ex_inv_i (As := [.ref 1, .int x1, .int x2, .int x3, .int x4]) (rest := []) rfl rfl).trans (ex_bnd fun u6 => ?_)
              exact ex_ireturn
            · refine (ex_iconst).trans ?_
              exact ex_ireturn
      · refine (ex_aload_n (x := 0) rfl).trans ?_
        refine (ex_get (u := .ref 1) rfl).trans ?_
        refine (ex_iload_n (x := x1) rfl).trans ?_
        refine (ex_iload_n (x := x3) rfl).trans ?_
        refine (ex_inv_z (As := [.ref 1, .int x1, .int x3]) (rest := []) rfl rfl).trans (ex_bnd fun u7 => ?_)
        refine (ex_if_eq (p := 59) (q := cp_70_r5) rfl).trans (ex_ite ?_ ?_)
        · refine (ex_iconst).trans ?_
          refine (ex_istore (L2 := [.ref 0, .int x1, .int x2, .int x3, .int x4, .int (0 : Int32)]) rfl).trans ?_
          refine (ex_iload (x := (0 : Int32)) rfl).trans ?_
          refine (ex_if_eq (p := 80) (q := cp_70_r7) rfl).trans (ex_t (by decide) ?_)
          refine (ex_iconst).trans ?_
          exact ex_ireturn
        · refine (ex_iload_n (x := x2) rfl).trans ?_
          refine (ex_if_eq (p := 55) (q := cp_70_r4) rfl).trans (ex_ite ?_ ?_)
          · refine (ex_iconst).trans ?_
            refine (ex_goto (p := 60) (q := cp_70_r6) rfl).trans ?_
            refine (ex_istore (L2 := [.ref 0, .int x1, .int x2, .int x3, .int x4, .int (1 : Int32)]) rfl).trans ?_
            refine (ex_iload (x := (1 : Int32)) rfl).trans ?_
            refine (ex_if_eq (p := 80) (q := cp_70_r7) rfl).trans (ex_f (by decide) ?_)
            refine (ex_aload_n (x := 0) rfl).trans ?_
            refine (ex_get (u := .ref 1) rfl).trans ?_
            refine (ex_iload_n (x := x1) rfl).trans ?_
            refine (ex_iload_n (x := x2) rfl).trans ?_
            refine (ex_inv_i (As := [.ref 1, .int x1, .int x2]) (rest := []) rfl rfl).trans (ex_bnd fun u8 => ?_)
            refine (ex_iconst).trans ?_
            refine (ex_ic_le (p := 82) (q := cp_70_r8) rfl).trans (ex_ite ?_ ?_)
            · refine (ex_aload_n (x := 0) rfl).trans ?_
              refine (ex_get (u := .ref 1) rfl).trans ?_
              refine (ex_iload_n (x := x1) rfl).trans ?_
              refine (ex_iload_n (x := x2) rfl).trans ?_
              refine (ex_iload_n (x := x3) rfl).trans ?_
              refine (ex_iload (x := x4) rfl).trans ?_
              refine (ex_inv_i (As := [.ref 1, .int x1, .int x2, .int x3, .int x4]) (rest := []) rfl rfl).trans (ex_bnd fun u9 => ?_)
              exact ex_ireturn
            · refine (ex_iconst).trans ?_
              exact ex_ireturn
          · refine (ex_aload_n (x := 0) rfl).trans ?_
            refine (ex_get (u := .ref 1) rfl).trans ?_
            refine (ex_iload_n (x := x2) rfl).trans ?_
            refine (ex_iload_n (x := x3) rfl).trans ?_
            refine (ex_inv_z (As := [.ref 1, .int x2, .int x3]) (rest := []) rfl rfl).trans (ex_bnd fun u10 => ?_)
            refine (ex_if_eq (p := 59) (q := cp_70_r5) rfl).trans (ex_ite ?_ ?_)
            · refine (ex_iconst).trans ?_
              refine (ex_istore (L2 := [.ref 0, .int x1, .int x2, .int x3, .int x4, .int (0 : Int32)]) rfl).trans ?_
              refine (ex_iload (x := (0 : Int32)) rfl).trans ?_
              refine (ex_if_eq (p := 80) (q := cp_70_r7) rfl).trans (ex_t (by decide) ?_)
              refine (ex_iconst).trans ?_
              exact ex_ireturn
            · refine (ex_iconst).trans ?_
              refine (ex_goto (p := 60) (q := cp_70_r6) rfl).trans ?_
              refine (ex_istore (L2 := [.ref 0, .int x1, .int x2, .int x3, .int x4, .int (1 : Int32)]) rfl).trans ?_
              refine (ex_iload (x := (1 : Int32)) rfl).trans ?_
              refine (ex_if_eq (p := 80) (q := cp_70_r7) rfl).trans (ex_f (by decide) ?_)
              refine (ex_aload_n (x := 0) rfl).trans ?_
              refine (ex_get (u := .ref 1) rfl).trans ?_
              refine (ex_iload_n (x := x1) rfl).trans ?_
              refine (ex_iload_n (x := x2) rfl).trans ?_
              refine (ex_inv_i (As := [.ref 1, .int x1, .int x2]) (rest := []) rfl rfl).trans (ex_bnd fun u11 => ?_)
              refine (ex_iconst).trans ?_
              refine (ex_ic_le (p := 82) (q := cp_70_r8) rfl).trans (ex_ite ?_ ?_)
              · refine (ex_aload_n (x := 0) rfl).trans ?_
                refine (ex_get (u := .ref 1) rfl).trans ?_
                refine (ex_iload_n (x := x1) rfl).trans ?_
                refine (ex_iload_n (x := x2) rfl).trans ?_
                refine (ex_iload_n (x := x3) rfl).trans ?_
                refine (ex_iload (x := x4) rfl).trans ?_
                refine (ex_inv_i (As := [.ref 1, .int x1, .int x2, .int x3, .int x4]) (rest := []) rfl rfl).trans (ex_bnd fun u12 => ?_)
                exact ex_ireturn
              · refine (ex_iconst).trans ?_
                exact ex_ireturn
    · refine (ex_bipush).trans ?_
      exact ex_ireturn
  · refine (ex_bipush).trans ?_
    exact ex_ireturn
-- 71: WiringContainer.manage(IIII)I
set_option maxRecDepth 100000 in
set_option maxHeartbeats 4000000 in
theorem cp_71_g (d : Nat) (σ : mm_S) (x1 : Int32) (x2 : Int32) (x3 : Int32) (x4 : Int32) : cG (d + 1) 71 [.ref 0, .int x1, .int x2, .int x3, .int x4] σ = (if (σ.1 0 5) = 0 then ((cG d 0 [.ref 2] σ).bind fun u1 => (if u1.1 = 0 then ((cG d 25 [.ref 1, .int x1] u1.2.2).bind fun u2 => (if u2.1 = 0 then (some ((-1 : Int32), 0, u2.2.2)) else ((cG d 93 [.int x2, .int x3, .int x4] u2.2.2).bind fun u3 => (if u3.1 = 0 then (some ((-1 : Int32), 0, u3.2.2)) else ((cG d 32 [.ref 1, .int x1] u3.2.2).bind fun u4 => ((cG d 3 [.ref 2, .int u4.1, .int x2, .int x3, .int x4] u4.2.2).bind fun u5 => ((cG d 4 [.ref 2, .int u5.1] u5.2.2).bind fun u6 => (some (u5.1, 0, u6.2.2))))))))) else (some ((-2 : Int32), 0, u1.2.2)))) else (some ((-3 : Int32), 0, σ))) := by
  refine (mm_entry 99999966 34 (maxL := 6) (labs := cp_71_l) (rows := cp_71_r0) (L := [.ref 0, .int x1, .int x2, .int x3, .int x4, .null]) (rk := 1) rfl rfl rfl rfl rfl rfl).trans ?_
  refine (ex_aload_n (x := 0) rfl).trans ?_
  refine (ex_get (u := .int (σ.1 0 5)) rfl).trans ?_
  refine (ex_if_eq (p := 10) (q := cp_71_r1) rfl).trans (ex_ite ?_ ?_)
  · refine (ex_aload_n (x := 0) rfl).trans ?_
    refine (ex_get (u := .ref 2) rfl).trans ?_
    refine (ex_inv_z (As := [.ref 2]) (rest := []) rfl rfl).trans (ex_bnd fun u1 => ?_)
    refine (ex_if_eq (p := 23) (q := cp_71_r2) rfl).trans (ex_ite ?_ ?_)
    · refine (ex_aload_n (x := 0) rfl).trans ?_
      refine (ex_get (u := .ref 1) rfl).trans ?_
      refine (ex_iload_n (x := x1) rfl).trans ?_
      refine (ex_inv_z (As := [.ref 1, .int x1]) (rest := []) rfl rfl).trans (ex_bnd fun u2 => ?_)
      refine (ex_if_eq (p := 44) (q := cp_71_r3) rfl).trans (ex_ite ?_ ?_)
      · refine (ex_iconst).trans ?_
        exact ex_ireturn
      · refine (ex_iload_n (x := x2) rfl).trans ?_
        refine (ex_iload_n (x := x3) rfl).trans ?_
        refine (ex_iload (x := x4) rfl).trans ?_
        refine (ex_sta_z (As := [.int x2, .int x3, .int x4]) (rest := []) (by decide) (by decide) rfl rfl).trans (ex_bnd fun u3 => ?_)
        refine (ex_if_ne (p := 46) (q := cp_71_r4) rfl).trans (ex_ite ?_ ?_)
        · refine (ex_iconst).trans ?_
          exact ex_ireturn
        · refine (ex_aload_n (x := 0) rfl).trans ?_
          refine (ex_get (u := .ref 2) rfl).trans ?_
          refine (ex_aload_n (x := 0) rfl).trans ?_
          refine (ex_get (u := .ref 1) rfl).trans ?_
          refine (ex_iload_n (x := x1) rfl).trans ?_
          refine (ex_inv_i (As := [.ref 1, .int x1]) (rest := [.ref 2]) rfl rfl).trans (ex_bnd fun u4 => ?_)
          refine (ex_iload_n (x := x2) rfl).trans ?_
          refine (ex_iload_n (x := x3) rfl).trans ?_
          refine (ex_iload (x := x4) rfl).trans ?_
          refine (ex_inv_i (As := [.ref 2, .int u4.1, .int x2, .int x3, .int x4]) (rest := []) rfl rfl).trans (ex_bnd fun u5 => ?_)
          refine (ex_istore (L2 := [.ref 0, .int x1, .int x2, .int x3, .int x4, .int u5.1]) rfl).trans ?_
          refine (ex_aload_n (x := 0) rfl).trans ?_
          refine (ex_get (u := .ref 2) rfl).trans ?_
          refine (ex_iload (x := u5.1) rfl).trans ?_
          refine (ex_inv_v (As := [.ref 2, .int u5.1]) (rest := []) rfl rfl).trans (ex_bnd fun u6 => ?_)
          refine (ex_iload (x := u5.1) rfl).trans ?_
          exact ex_ireturn
    · refine (ex_bipush).trans ?_
      exact ex_ireturn
  · refine (ex_bipush).trans ?_
    exact ex_ireturn
-- 72: WiringContainer.produce(IIIII)I
set_option maxRecDepth 100000 in
set_option maxHeartbeats 4000000 in
theorem cp_72_g (d : Nat) (σ : mm_S) (x1 : Int32) (x2 : Int32) (x3 : Int32) (x4 : Int32) (x5 : Int32) : cG (d + 1) 72 [.ref 0, .int x1, .int x2, .int x3, .int x4, .int x5] σ = (if (σ.1 0 5) = 0 then ((cG d 0 [.ref 2] σ).bind fun u1 => (if u1.1 = 0 then (if x1 = (-1 : Int32) then (mm_ex sc (cG d) 1 cp_72_l (99999983 + 5) cp_72_r5 [.ref 0, .int x1, .int x2, .int x3, .int x4, .int x5, .null, .null] [.int (1 : Int32)] u1.2.2) else ((cG d 15 [.ref 2, .int x1] u1.2.2).bind fun u2 => (if u2.1 = 0 then (mm_ex sc (cG d) 1 cp_72_l (99999983 + 1) cp_72_r5 [.ref 0, .int x1, .int x2, .int x3, .int x4, .int x5, .null, .null] [.int (0 : Int32)] u2.2.2) else (mm_ex sc (cG d) 1 cp_72_l (99999983 + 0) cp_72_r5 [.ref 0, .int x1, .int x2, .int x3, .int x4, .int x5, .null, .null] [.int (1 : Int32)] u2.2.2)))) else (some ((-2 : Int32), 0, u1.2.2)))) else (some ((-3 : Int32), 0, σ))) := by
  refine (mm_entry 99999983 17 (maxL := 8) (labs := cp_72_l) (rows := cp_72_r0) (L := [.ref 0, .int x1, .int x2, .int x3, .int x4, .int x5, .null, .null]) (rk := 1) rfl rfl rfl rfl rfl rfl).trans ?_
  refine (ex_aload_n (x := 0) rfl).trans ?_
  refine (ex_get (u := .int (σ.1 0 5)) rfl).trans ?_
  refine (ex_if_eq (p := 10) (q := cp_72_r1) rfl).trans (ex_ite ?_ ?_)
  · refine (ex_aload_n (x := 0) rfl).trans ?_
    refine (ex_get (u := .ref 2) rfl).trans ?_
    refine (ex_inv_z (As := [.ref 2]) (rest := []) rfl rfl).trans (ex_bnd fun u1 => ?_)
    refine (ex_if_eq (p := 23) (q := cp_72_r2) rfl).trans (ex_ite ?_ ?_)
    · refine (ex_iload_n (x := x1) rfl).trans ?_
      refine (ex_iconst).trans ?_
      refine (ex_ic_eq (p := 39) (q := cp_72_r3) rfl).trans (ex_ite ?_ ?_)
      · refine (ex_iconst).trans ?_
        refine (ex_goto (p := 44) (q := cp_72_r5) rfl).trans ?_
        exact rfl
      · refine (ex_aload_n (x := 0) rfl).trans ?_
        refine (ex_get (u := .ref 2) rfl).trans ?_
        refine (ex_iload_n (x := x1) rfl).trans ?_
        refine (ex_inv_z (As := [.ref 2, .int x1]) (rest := []) rfl rfl).trans (ex_bnd fun u2 => ?_)
        refine (ex_if_eq (p := 43) (q := cp_72_r4) rfl).trans (ex_ite ?_ ?_)
        · refine (ex_iconst).trans ?_
          exact rfl
        · refine (ex_iconst).trans ?_
          refine (ex_goto (p := 44) (q := cp_72_r5) rfl).trans ?_
          exact rfl
    · refine (ex_bipush).trans ?_
      exact ex_ireturn
  · refine (ex_bipush).trans ?_
    exact ex_ireturn
set_option maxRecDepth 100000 in
set_option maxHeartbeats 4000000 in
theorem cp_72_h5 (d n : Nat) (σ : mm_S) (x1 : Int32) (x2 : Int32) (x3 : Int32) (x4 : Int32) (x5 : Int32) (xs0 : Int32) : mm_ex sc (cG d) 1 cp_72_l (n + 28) cp_72_r5 [.ref 0, .int x1, .int x2, .int x3, .int x4, .int x5, .null, .null] [.int xs0] σ = (if xs0 = 0 then (some ((-1 : Int32), 0, σ)) else ((cG d 28 [.ref 1, .int x2] σ).bind fun u1 => (if u1.1 = 0 then (some ((-1 : Int32), 0, u1.2.2)) else ((cG d 93 [.int x3, .int x4, .int x5] u1.2.2).bind fun u2 => (if u2.1 = 0 then (some ((-1 : Int32), 0, u2.2.2)) else ((cG d 3 [.ref 2, .int x2, .int x3, .int x4, .int x5] u2.2.2).bind fun u3 => ((cG d 5 [.ref 2, .int u3.1, .int x1] u3.2.2).bind fun u4 => (some (u3.1, 0, u4.2.2))))))))) := by
  refine (ex_istore (L2 := [.ref 0, .int x1, .int x2, .int x3, .int x4, .int x5, .int xs0, .null]) rfl).trans ?_
  refine (ex_iload (x := xs0) rfl).trans ?_
  refine (ex_if_eq (p := 73) (q := cp_72_r6) rfl).trans (ex_ite ?_ ?_)
  · refine (ex_iconst).trans ?_
    exact ex_ireturn
  · refine (ex_aload_n (x := 0) rfl).trans ?_
    refine (ex_get (u := .ref 1) rfl).trans ?_
    refine (ex_iload_n (x := x2) rfl).trans ?_
    refine (ex_inv_z (As := [.ref 1, .int x2]) (rest := []) rfl rfl).trans (ex_bnd fun u1 => ?_)
    refine (ex_if_eq (p := 73) (q := cp_72_r6) rfl).trans (ex_ite ?_ ?_)
    · refine (ex_iconst).trans ?_
      exact ex_ireturn
    · refine (ex_iload_n (x := x3) rfl).trans ?_
      refine (ex_iload (x := x4) rfl).trans ?_
      refine (ex_iload (x := x5) rfl).trans ?_
      refine (ex_sta_z (As := [.int x3, .int x4, .int x5]) (rest := []) (by decide) (by decide) rfl rfl).trans (ex_bnd fun u2 => ?_)
      refine (ex_if_ne (p := 75) (q := cp_72_r7) rfl).trans (ex_ite ?_ ?_)
      · refine (ex_iconst).trans ?_
        exact ex_ireturn
      · refine (ex_aload_n (x := 0) rfl).trans ?_
        refine (ex_get (u := .ref 2) rfl).trans ?_
        refine (ex_iload_n (x := x2) rfl).trans ?_
        refine (ex_iload_n (x := x3) rfl).trans ?_
        refine (ex_iload (x := x4) rfl).trans ?_
        refine (ex_iload (x := x5) rfl).trans ?_
        refine (ex_inv_i (As := [.ref 2, .int x2, .int x3, .int x4, .int x5]) (rest := []) rfl rfl).trans (ex_bnd fun u3 => ?_)
        refine (ex_istore (L2 := [.ref 0, .int x1, .int x2, .int x3, .int x4, .int x5, .int xs0, .int u3.1]) rfl).trans ?_
        refine (ex_aload_n (x := 0) rfl).trans ?_
        refine (ex_get (u := .ref 2) rfl).trans ?_
        refine (ex_iload (x := u3.1) rfl).trans ?_
        refine (ex_iload_n (x := x1) rfl).trans ?_
        refine (ex_inv_v (As := [.ref 2, .int u3.1, .int x1]) (rest := []) rfl rfl).trans (ex_bnd fun u4 => ?_)
        refine (ex_iload (x := u3.1) rfl).trans ?_
        exact ex_ireturn
-- 73: WiringContainer.inject(III)I
set_option maxRecDepth 100000 in
set_option maxHeartbeats 4000000 in
theorem cp_73_g (d : Nat) (σ : mm_S) (x1 : Int32) (x2 : Int32) (x3 : Int32) : cG (d + 1) 73 [.ref 0, .int x1, .int x2, .int x3] σ = (if (σ.1 0 5) = 0 then ((cG d 1 [.ref 2, .int x1] σ).bind fun u1 => (if u1.1 = 0 then (some ((-1 : Int32), 0, u1.2.2)) else ((cG d 94 [.ref 0, .int x2, .int x3] u1.2.2).bind fun u2 => (if u2.1 = 0 then (some ((-1 : Int32), 0, u2.2.2)) else ((cG d 11 [.ref 2, .int x1] u2.2.2).bind fun u3 => (if u3.1 < (3 : Int32) then ((cG d 6 [.ref 2, .int x1, .int x2, .int x3] u3.2.2).bind fun u4 => (some (u4.1, 0, u4.2.2))) else (some ((-2 : Int32), 0, u3.2.2)))))))) else (some ((-3 : Int32), 0, σ))) := by
  refine (mm_entry 99999974 26 (maxL := 4) (labs := cp_73_l) (rows := cp_73_r0) (L := [.ref 0, .int x1, .int x2, .int x3]) (rk := 1) rfl rfl rfl rfl rfl rfl).trans ?_
  refine (ex_aload_n (x := 0) rfl).trans ?_
  refine (ex_get (u := .int (σ.1 0 5)) rfl).trans ?_
  refine (ex_if_eq (p := 10) (q := cp_73_r1) rfl).trans (ex_ite ?_ ?_)
  · refine (ex_aload_n (x := 0) rfl).trans ?_
    refine (ex_get (u := .ref 2) rfl).trans ?_
    refine (ex_iload_n (x := x1) rfl).trans ?_
    refine (ex_inv_z (As := [.ref 2, .int x1]) (rest := []) rfl rfl).trans (ex_bnd fun u1 => ?_)
    refine (ex_if_eq (p := 30) (q := cp_73_r2) rfl).trans (ex_ite ?_ ?_)
    · refine (ex_iconst).trans ?_
      exact ex_ireturn
    · refine (ex_aload_n (x := 0) rfl).trans ?_
      refine (ex_iload_n (x := x2) rfl).trans ?_
      refine (ex_iload_n (x := x3) rfl).trans ?_
      refine (ex_inv_z (As := [.ref 0, .int x2, .int x3]) (rest := []) rfl rfl).trans (ex_bnd fun u2 => ?_)
      refine (ex_if_ne (p := 32) (q := cp_73_r3) rfl).trans (ex_ite ?_ ?_)
      · refine (ex_iconst).trans ?_
        exact ex_ireturn
      · refine (ex_aload_n (x := 0) rfl).trans ?_
        refine (ex_get (u := .ref 2) rfl).trans ?_
        refine (ex_iload_n (x := x1) rfl).trans ?_
        refine (ex_inv_i (As := [.ref 2, .int x1]) (rest := []) rfl rfl).trans (ex_bnd fun u3 => ?_)
        refine (ex_iconst).trans ?_
        refine (ex_ic_lt (p := 47) (q := cp_73_r4) rfl).trans (ex_ite ?_ ?_)
        · refine (ex_aload_n (x := 0) rfl).trans ?_
          refine (ex_get (u := .ref 2) rfl).trans ?_
          refine (ex_iload_n (x := x1) rfl).trans ?_
          refine (ex_iload_n (x := x2) rfl).trans ?_
          refine (ex_iload_n (x := x3) rfl).trans ?_
          refine (ex_inv_i (As := [.ref 2, .int x1, .int x2, .int x3]) (rest := []) rfl rfl).trans (ex_bnd fun u4 => ?_)
          exact ex_ireturn
        · refine (ex_bipush).trans ?_
          exact ex_ireturn
  · refine (ex_bipush).trans ?_
    exact ex_ireturn
-- 74: WiringContainer.types(I)I
set_option maxRecDepth 100000 in
set_option maxHeartbeats 4000000 in
theorem cp_74_g (d : Nat) (σ : mm_S) (x1 : Int32) : cG (d + 1) 74 [.ref 0, .int x1] σ = ((cG d 1 [.ref 2, .int x1] σ).bind fun u1 => (if u1.1 = 0 then (some ((-1 : Int32), 0, u1.2.2)) else ((cG d 7 [.ref 2, .int x1] u1.2.2).bind fun u2 => ((cG d 33 [.ref 1, .long (u2.1).toInt64] u2.2.2).bind fun u3 => (some (u3.1, 0, u3.2.2)))))) := by
  refine (mm_entry 99999986 14 (maxL := 2) (labs := cp_74_l) (rows := cp_74_r0) (L := [.ref 0, .int x1]) (rk := 1) rfl rfl rfl rfl rfl rfl).trans ?_
  refine (ex_aload_n (x := 0) rfl).trans ?_
  refine (ex_get (u := .ref 2) rfl).trans ?_
  refine (ex_iload_n (x := x1) rfl).trans ?_
  refine (ex_inv_z (As := [.ref 2, .int x1]) (rest := []) rfl rfl).trans (ex_bnd fun u1 => ?_)
  refine (ex_if_ne (p := 13) (q := cp_74_r1) rfl).trans (ex_ite ?_ ?_)
  · refine (ex_iconst).trans ?_
    exact ex_ireturn
  · refine (ex_aload_n (x := 0) rfl).trans ?_
    refine (ex_get (u := .ref 1) rfl).trans ?_
    refine (ex_aload_n (x := 0) rfl).trans ?_
    refine (ex_get (u := .ref 2) rfl).trans ?_
    refine (ex_iload_n (x := x1) rfl).trans ?_
    refine (ex_inv_i (As := [.ref 2, .int x1]) (rest := [.ref 1]) rfl rfl).trans (ex_bnd fun u2 => ?_)
    refine (ex_i2l).trans ?_
    refine (ex_inv_i (As := [.ref 1, .long (u2.1).toInt64]) (rest := []) rfl rfl).trans (ex_bnd fun u3 => ?_)
    exact ex_ireturn
-- 75: WiringContainer.fits(II)I
set_option maxRecDepth 100000 in
set_option maxHeartbeats 4000000 in
theorem cp_75_g (d : Nat) (σ : mm_S) (x1 : Int32) (x2 : Int32) : cG (d + 1) 75 [.ref 0, .int x1, .int x2] σ = ((cG d 1 [.ref 2, .int x2] σ).bind fun u1 => (if u1.1 = 0 then (some ((-1 : Int32), 0, u1.2.2)) else ((cG d 29 [.ref 1, .int x1] u1.2.2).bind fun u2 => (if u2.1 = 0 then (some ((-1 : Int32), 0, u2.2.2)) else ((cG d 7 [.ref 2, .int x2] u2.2.2).bind fun u3 => ((cG d 34 [.ref 1, .long (x1).toInt64, .long (u3.1).toInt64, .int (0 : Int32)] u3.2.2).bind fun u4 => (if u4.1 = 0 then (some ((0 : Int32), 0, u4.2.2)) else (some ((1 : Int32), 0, u4.2.2))))))))) := by
  refine (mm_entry 99999975 25 (maxL := 3) (labs := cp_75_l) (rows := cp_75_r0) (L := [.ref 0, .int x1, .int x2]) (rk := 1) rfl rfl rfl rfl rfl rfl).trans ?_
  refine (ex_aload_n (x := 0) rfl).trans ?_
  refine (ex_get (u := .ref 2) rfl).trans ?_
  refine (ex_iload_n (x := x2) rfl).trans ?_
  refine (ex_inv_z (As := [.ref 2, .int x2]) (rest := []) rfl rfl).trans (ex_bnd fun u1 => ?_)
  refine (ex_if_eq (p := 22) (q := cp_75_r1) rfl).trans (ex_ite ?_ ?_)
  · refine (ex_iconst).trans ?_
    exact ex_ireturn
  · refine (ex_aload_n (x := 0) rfl).trans ?_
    refine (ex_get (u := .ref 1) rfl).trans ?_
    refine (ex_iload_n (x := x1) rfl).trans ?_
    refine (ex_inv_z (As := [.ref 1, .int x1]) (rest := []) rfl rfl).trans (ex_bnd fun u2 => ?_)
    refine (ex_if_ne (p := 24) (q := cp_75_r2) rfl).trans (ex_ite ?_ ?_)
    · refine (ex_iconst).trans ?_
      exact ex_ireturn
    · refine (ex_aload_n (x := 0) rfl).trans ?_
      refine (ex_get (u := .ref 1) rfl).trans ?_
      refine (ex_iload_n (x := x1) rfl).trans ?_
      refine (ex_i2l).trans ?_
      refine (ex_aload_n (x := 0) rfl).trans ?_
      refine (ex_get (u := .ref 2) rfl).trans ?_
      refine (ex_iload_n (x := x2) rfl).trans ?_
      refine (ex_inv_i (As := [.ref 2, .int x2]) (rest := [.long (x1).toInt64, .ref 1]) rfl rfl).trans (ex_bnd fun u3 => ?_)
      refine (ex_i2l).trans ?_
      refine (ex_iconst).trans ?_
      refine (ex_inv_z (As := [.ref 1, .long (x1).toInt64, .long (u3.1).toInt64, .int (0 : Int32)]) (rest := []) rfl rfl).trans (ex_bnd fun u4 => ?_)
      refine (ex_if_eq (p := 50) (q := cp_75_r3) rfl).trans (ex_ite ?_ ?_)
      · refine (ex_iconst).trans ?_
        exact ex_ireturn
      · refine (ex_iconst).trans ?_
        refine (ex_goto (p := 51) (q := cp_75_r4) rfl).trans ?_
        exact ex_ireturn
-- 76: WiringContainer.candidates(II)I
set_option maxRecDepth 100000 in
set_option maxHeartbeats 4000000 in
theorem cp_76_g (d : Nat) (σ : mm_S) (x1 : Int32) (x2 : Int32) : cG (d + 1) 76 [.ref 0, .int x1, .int x2] σ = ((cG d 94 [.ref 0, .int x1, .int x2] σ).bind fun u1 => (if u1.1 = 0 then (some ((-1 : Int32), 0, u1.2.2)) else ((cG d 20 [.ref 2, .int x1, .int x2] u1.2.2).bind fun u2 => ((cG d 100 [.int u2.1] u2.2.2).bind fun u3 => (some (u3.1, 0, u3.2.2)))))) := by
  refine (mm_entry 99999988 12 (maxL := 3) (labs := cp_76_l) (rows := cp_76_r0) (L := [.ref 0, .int x1, .int x2]) (rk := 1) rfl rfl rfl rfl rfl rfl).trans ?_
  refine (ex_aload_n (x := 0) rfl).trans ?_
  refine (ex_iload_n (x := x1) rfl).trans ?_
  refine (ex_iload_n (x := x2) rfl).trans ?_
  refine (ex_inv_z (As := [.ref 0, .int x1, .int x2]) (rest := []) rfl rfl).trans (ex_bnd fun u1 => ?_)
  refine (ex_if_ne (p := 11) (q := cp_76_r1) rfl).trans (ex_ite ?_ ?_)
  · refine (ex_iconst).trans ?_
    exact ex_ireturn
  · refine (ex_aload_n (x := 0) rfl).trans ?_
    refine (ex_get (u := .ref 2) rfl).trans ?_
    refine (ex_iload_n (x := x1) rfl).trans ?_
    refine (ex_iload_n (x := x2) rfl).trans ?_
    refine (ex_inv_i (As := [.ref 2, .int x1, .int x2]) (rest := []) rfl rfl).trans (ex_bnd fun u2 => ?_)
    refine (ex_sta_i (As := [.int u2.1]) (rest := []) (by decide) (by decide) rfl rfl).trans (ex_bnd fun u3 => ?_)
    exact ex_ireturn
-- 77: WiringContainer.resolve(II)I
set_option maxRecDepth 100000 in
set_option maxHeartbeats 4000000 in
theorem cp_77_g (d : Nat) (σ : mm_S) (x1 : Int32) (x2 : Int32) : cG (d + 1) 77 [.ref 0, .int x1, .int x2] σ = ((cG d 94 [.ref 0, .int x1, .int x2] σ).bind fun u1 => (if u1.1 = 0 then (some ((-1 : Int32), 0, u1.2.2)) else ((cG d 19 [.ref 2, .int x1, .int x2] u1.2.2).bind fun u2 => (some (u2.1, 0, u2.2.2))))) := by
  refine (mm_entry 99999989 11 (maxL := 3) (labs := cp_77_l) (rows := cp_77_r0) (L := [.ref 0, .int x1, .int x2]) (rk := 1) rfl rfl rfl rfl rfl rfl).trans ?_
  refine (ex_aload_n (x := 0) rfl).trans ?_
  refine (ex_iload_n (x := x1) rfl).trans ?_
  refine (ex_iload_n (x := x2) rfl).trans ?_
  refine (ex_inv_z (As := [.ref 0, .int x1, .int x2]) (rest := []) rfl rfl).trans (ex_bnd fun u1 => ?_)
  refine (ex_if_ne (p := 11) (q := cp_77_r1) rfl).trans (ex_ite ?_ ?_)
  · refine (ex_iconst).trans ?_
    exact ex_ireturn
  · refine (ex_aload_n (x := 0) rfl).trans ?_
    refine (ex_get (u := .ref 2) rfl).trans ?_
    refine (ex_iload_n (x := x1) rfl).trans ?_
    refine (ex_iload_n (x := x2) rfl).trans ?_
    refine (ex_inv_i (As := [.ref 2, .int x1, .int x2]) (rest := []) rfl rfl).trans (ex_bnd fun u2 => ?_)
    exact ex_ireturn
-- 78: WiringContainer.deploy()I
set_option maxRecDepth 100000 in
set_option maxHeartbeats 4000000 in
theorem cp_78_g (d : Nat) (σ : mm_S) : cG (d + 1) 78 [.ref 0] σ = (if (σ.1 0 5) = 0 then ((cG d 62 [.ref 3] σ).bind fun u1 => (if u1.1 = 0 then ((cG d 63 [.ref 3] u1.2.2).bind fun u2 => ((cG d 41 [.ref 5, .int (3 : Int32)] u2.2.2).bind fun u3 => (some (u1.1, 0, ((mm_w u3.2.2.1 0 5 (1 : Int32)), u3.2.2.2))))) else (some (u1.1, 0, u1.2.2)))) else (some ((-3 : Int32), 0, σ))) := by
  refine (mm_entry 99999979 21 (maxL := 2) (labs := cp_78_l) (rows := cp_78_r0) (L := [.ref 0, .null]) (rk := 1) rfl rfl rfl rfl rfl rfl).trans ?_
  refine (ex_aload_n (x := 0) rfl).trans ?_
  refine (ex_get (u := .int (σ.1 0 5)) rfl).trans ?_
  refine (ex_if_eq (p := 10) (q := cp_78_r1) rfl).trans (ex_ite ?_ ?_)
  · refine (ex_aload_n (x := 0) rfl).trans ?_
    refine (ex_get (u := .ref 3) rfl).trans ?_
    refine (ex_inv_i (As := [.ref 3]) (rest := []) rfl rfl).trans (ex_bnd fun u1 => ?_)
    refine (ex_istore_n (L2 := [.ref 0, .int u1.1]) rfl).trans ?_
    refine (ex_iload_n (x := u1.1) rfl).trans ?_
    refine (ex_if_ne (p := 42) (q := cp_78_r2) rfl).trans (ex_ite ?_ ?_)
    · refine (ex_aload_n (x := 0) rfl).trans ?_
      refine (ex_get (u := .ref 3) rfl).trans ?_
      refine (ex_inv_v (As := [.ref 3]) (rest := []) rfl rfl).trans (ex_bnd fun u2 => ?_)
      refine (ex_aload_n (x := 0) rfl).trans ?_
      refine (ex_get (u := .ref 5) rfl).trans ?_
      refine (ex_iconst).trans ?_
      refine (ex_inv_v (As := [.ref 5, .int (3 : Int32)]) (rest := []) rfl rfl).trans (ex_bnd fun u3 => ?_)
      refine (ex_aload_n (x := 0) rfl).trans ?_
      refine (ex_iconst).trans ?_
      refine (ex_put (u := ()) (by decide +kernel)).trans ?_
      refine (ex_iload_n (x := u1.1) rfl).trans ?_
      exact ex_ireturn
    · refine (ex_iload_n (x := u1.1) rfl).trans ?_
      exact ex_ireturn
  · refine (ex_bipush).trans ?_
    exact ex_ireturn
-- 79: WiringContainer.cost(I)I
set_option maxRecDepth 100000 in
set_option maxHeartbeats 4000000 in
theorem cp_79_g (d : Nat) (σ : mm_S) (x1 : Int32) : cG (d + 1) 79 [.ref 0, .int x1] σ = (if (σ.1 0 5) = 0 then (some ((-3 : Int32), 0, σ)) else ((cG d 1 [.ref 2, .int x1] σ).bind fun u1 => (if u1.1 = 0 then (some ((-1 : Int32), 0, u1.2.2)) else ((cG d 18 [.ref 2, .int x1] u1.2.2).bind fun u2 => (if u2.1 = 0 then (some ((-1 : Int32), 0, u2.2.2)) else ((cG d 61 [.ref 3, .int x1] u2.2.2).bind fun u3 => (some (u3.1, 0, u3.2.2)))))))) := by
  refine (mm_entry 99999982 18 (maxL := 2) (labs := cp_79_l) (rows := cp_79_r0) (L := [.ref 0, .int x1]) (rk := 1) rfl rfl rfl rfl rfl rfl).trans ?_
  refine (ex_aload_n (x := 0) rfl).trans ?_
  refine (ex_get (u := .int (σ.1 0 5)) rfl).trans ?_
  refine (ex_if_ne (p := 10) (q := cp_79_r1) rfl).trans (ex_ite ?_ ?_)
  · refine (ex_bipush).trans ?_
    exact ex_ireturn
  · refine (ex_aload_n (x := 0) rfl).trans ?_
    refine (ex_get (u := .ref 2) rfl).trans ?_
    refine (ex_iload_n (x := x1) rfl).trans ?_
    refine (ex_inv_z (As := [.ref 2, .int x1]) (rest := []) rfl rfl).trans (ex_bnd fun u1 => ?_)
    refine (ex_if_eq (p := 32) (q := cp_79_r2) rfl).trans (ex_ite ?_ ?_)
    · refine (ex_iconst).trans ?_
      exact ex_ireturn
    · refine (ex_aload_n (x := 0) rfl).trans ?_
      refine (ex_get (u := .ref 2) rfl).trans ?_
      refine (ex_iload_n (x := x1) rfl).trans ?_
      refine (ex_inv_z (As := [.ref 2, .int x1]) (rest := []) rfl rfl).trans (ex_bnd fun u2 => ?_)
      refine (ex_if_ne (p := 34) (q := cp_79_r3) rfl).trans (ex_ite ?_ ?_)
      · refine (ex_iconst).trans ?_
        exact ex_ireturn
      · refine (ex_aload_n (x := 0) rfl).trans ?_
        refine (ex_get (u := .ref 3) rfl).trans ?_
        refine (ex_iload_n (x := x1) rfl).trans ?_
        refine (ex_inv_i (As := [.ref 3, .int x1]) (rest := []) rfl rfl).trans (ex_bnd fun u3 => ?_)
        exact ex_ireturn
-- 80: WiringContainer.begin(I)Z
set_option maxRecDepth 100000 in
set_option maxHeartbeats 4000000 in
theorem cp_80_g (d : Nat) (σ : mm_S) (x1 : Int32) : cG (d + 1) 80 [.ref 0, .int x1] σ = (if (σ.1 0 5) = 0 then (some ((0 : Int32), 0, σ)) else ((cG d 90 [.int x1] σ).bind fun u1 => (if u1.1 = 0 then (some ((0 : Int32), 0, u1.2.2)) else ((cG d 40 [.ref 5, .int x1] u1.2.2).bind fun u2 => (if u2.1 = 0 then ((cG d 41 [.ref 5, .int x1] u2.2.2).bind fun u3 => (some ((1 : Int32), 0, u3.2.2))) else (some ((0 : Int32), 0, u2.2.2))))))) := by
  refine (mm_entry 99999983 17 (maxL := 2) (labs := cp_80_l) (rows := cp_80_r0) (L := [.ref 0, .int x1]) (rk := 3) rfl rfl rfl rfl rfl rfl).trans ?_
  refine (ex_aload_n (x := 0) rfl).trans ?_
  refine (ex_get (u := .int (σ.1 0 5)) rfl).trans ?_
  refine (ex_if_eq (p := 25) (q := cp_80_r1) rfl).trans (ex_ite ?_ ?_)
  · refine (ex_iconst).trans ?_
    exact ex_zreturn0
  · refine (ex_iload_n (x := x1) rfl).trans ?_
    refine (ex_sta_z (As := [.int x1]) (rest := []) (by decide) (by decide) rfl rfl).trans (ex_bnd fun u1 => ?_)
    refine (ex_if_eq (p := 25) (q := cp_80_r1) rfl).trans (ex_ite ?_ ?_)
    · refine (ex_iconst).trans ?_
      exact ex_zreturn0
    · refine (ex_aload_n (x := 0) rfl).trans ?_
      refine (ex_get (u := .ref 5) rfl).trans ?_
      refine (ex_iload_n (x := x1) rfl).trans ?_
      refine (ex_inv_z (As := [.ref 5, .int x1]) (rest := []) rfl rfl).trans (ex_bnd fun u2 => ?_)
      refine (ex_if_eq (p := 27) (q := cp_80_r2) rfl).trans (ex_ite ?_ ?_)
      · refine (ex_aload_n (x := 0) rfl).trans ?_
        refine (ex_get (u := .ref 5) rfl).trans ?_
        refine (ex_iload_n (x := x1) rfl).trans ?_
        refine (ex_inv_v (As := [.ref 5, .int x1]) (rest := []) rfl rfl).trans (ex_bnd fun u3 => ?_)
        refine (ex_iconst).trans ?_
        exact ex_zreturn1
      · refine (ex_iconst).trans ?_
        exact ex_zreturn0
-- 81: WiringContainer.end(I)I
set_option maxRecDepth 100000 in
set_option maxHeartbeats 4000000 in
theorem cp_81_g (d : Nat) (σ : mm_S) (x1 : Int32) : cG (d + 1) 81 [.ref 0, .int x1] σ = (if (σ.1 0 5) = 0 then (some ((-3 : Int32), 0, σ)) else ((cG d 90 [.int x1] σ).bind fun u1 => (if u1.1 = 0 then (some ((-1 : Int32), 0, u1.2.2)) else ((cG d 40 [.ref 5, .int x1] u1.2.2).bind fun u2 => (if u2.1 = 0 then (some ((-7 : Int32), 0, u2.2.2)) else ((cG d 51 [.ref 4] u2.2.2).bind fun u3 => ((cG d 98 [.ref 0, .int x1] u3.2.2).bind fun u4 => ((cG d 51 [.ref 4] u4.2.2).bind fun u5 => (some ((u5.1 - u3.1), 0, u5.2.2)))))))))) := by
  refine (mm_entry 99999976 24 (maxL := 3) (labs := cp_81_l) (rows := cp_81_r0) (L := [.ref 0, .int x1, .null]) (rk := 1) rfl rfl rfl rfl rfl rfl).trans ?_
  refine (ex_aload_n (x := 0) rfl).trans ?_
  refine (ex_get (u := .int (σ.1 0 5)) rfl).trans ?_
  refine (ex_if_ne (p := 10) (q := cp_81_r1) rfl).trans (ex_ite ?_ ?_)
  · refine (ex_bipush).trans ?_
    exact ex_ireturn
  · refine (ex_iload_n (x := x1) rfl).trans ?_
    refine (ex_sta_z (As := [.int x1]) (rest := []) (by decide) (by decide) rfl rfl).trans (ex_bnd fun u1 => ?_)
    refine (ex_if_ne (p := 19) (q := cp_81_r2) rfl).trans (ex_ite ?_ ?_)
    · refine (ex_iconst).trans ?_
      exact ex_ireturn
    · refine (ex_aload_n (x := 0) rfl).trans ?_
      refine (ex_get (u := .ref 5) rfl).trans ?_
      refine (ex_iload_n (x := x1) rfl).trans ?_
      refine (ex_inv_z (As := [.ref 5, .int x1]) (rest := []) rfl rfl).trans (ex_bnd fun u2 => ?_)
      refine (ex_if_ne (p := 33) (q := cp_81_r3) rfl).trans (ex_ite ?_ ?_)
      · refine (ex_bipush).trans ?_
        exact ex_ireturn
      · refine (ex_aload_n (x := 0) rfl).trans ?_
        refine (ex_get (u := .ref 4) rfl).trans ?_
        refine (ex_inv_i (As := [.ref 4]) (rest := []) rfl rfl).trans (ex_bnd fun u3 => ?_)
        refine (ex_istore_n (L2 := [.ref 0, .int x1, .int u3.1]) rfl).trans ?_
        refine (ex_aload_n (x := 0) rfl).trans ?_
        refine (ex_iload_n (x := x1) rfl).trans ?_
        refine (ex_inv_v (As := [.ref 0, .int x1]) (rest := []) rfl rfl).trans (ex_bnd fun u4 => ?_)
        refine (ex_aload_n (x := 0) rfl).trans ?_
        refine (ex_get (u := .ref 4) rfl).trans ?_
        refine (ex_inv_i (As := [.ref 4]) (rest := []) rfl rfl).trans (ex_bnd fun u5 => ?_)
        refine (ex_iload_n (x := u3.1) rfl).trans ?_
        refine (ex_isub).trans ?_
        exact ex_ireturn
-- 82: WiringContainer.obtain(III)I
set_option maxRecDepth 100000 in
set_option maxHeartbeats 4000000 in
theorem cp_82_g (d : Nat) (σ : mm_S) (x1 : Int32) (x2 : Int32) (x3 : Int32) : cG (d + 1) 82 [.ref 0, .int x1, .int x2, .int x3] σ = (if (σ.1 0 5) = 0 then (some ((-3 : Int32), 0, σ)) else ((cG d 90 [.int x1] σ).bind fun u1 => (if u1.1 = 0 then (some ((-1 : Int32), 0, u1.2.2)) else ((cG d 94 [.ref 0, .int x2, .int x3] u1.2.2).bind fun u2 => (if u2.1 = 0 then (some ((-1 : Int32), 0, u2.2.2)) else ((cG d 19 [.ref 2, .int x2, .int x3] u2.2.2).bind fun u3 => (if 0 ≤ u3.1 then ((cG d 16 [.ref 2, .int u3.1] u3.2.2).bind fun u4 => (if u4.1 = 0 then ((cG d 26 [.ref 1, .int x2] u4.2.2).bind fun u5 => (if u5.1 = 0 then ((cG d 95 [.ref 0, .int x1, .int u3.1] u5.2.2).bind fun u6 => (some (u6.1, 0, u6.2.2))) else (some ((-6 : Int32), 0, u5.2.2)))) else ((cG d 96 [.ref 0, .int u3.1] u4.2.2).bind fun u7 => (some (u7.1, 0, u7.2.2))))) else (some (u3.1, 0, u3.2.2))))))))) := by
  refine (mm_entry 99999966 34 (maxL := 5) (labs := cp_82_l) (rows := cp_82_r0) (L := [.ref 0, .int x1, .int x2, .int x3, .null]) (rk := 1) rfl rfl rfl rfl rfl rfl).trans ?_
  refine (ex_aload_n (x := 0) rfl).trans ?_
  refine (ex_get (u := .int (σ.1 0 5)) rfl).trans ?_
  refine (ex_if_ne (p := 10) (q := cp_82_r1) rfl).trans (ex_ite ?_ ?_)
  · refine (ex_bipush).trans ?_
    exact ex_ireturn
  · refine (ex_iload_n (x := x1) rfl).trans ?_
    refine (ex_sta_z (As := [.int x1]) (rest := []) (by decide) (by decide) rfl rfl).trans (ex_bnd fun u1 => ?_)
    refine (ex_if_eq (p := 26) (q := cp_82_r2) rfl).trans (ex_ite ?_ ?_)
    · refine (ex_iconst).trans ?_
      exact ex_ireturn
    · refine (ex_aload_n (x := 0) rfl).trans ?_
      refine (ex_iload_n (x := x2) rfl).trans ?_
      refine (ex_iload_n (x := x3) rfl).trans ?_
      refine (ex_inv_z (As := [.ref 0, .int x2, .int x3]) (rest := []) rfl rfl).trans (ex_bnd fun u2 => ?_)
      refine (ex_if_ne (p := 28) (q := cp_82_r3) rfl).trans (ex_ite ?_ ?_)
      · refine (ex_iconst).trans ?_
        exact ex_ireturn
      · refine (ex_aload_n (x := 0) rfl).trans ?_
        refine (ex_get (u := .ref 2) rfl).trans ?_
        refine (ex_iload_n (x := x2) rfl).trans ?_
        refine (ex_iload_n (x := x3) rfl).trans ?_
        refine (ex_inv_i (As := [.ref 2, .int x2, .int x3]) (rest := []) rfl rfl).trans (ex_bnd fun u3 => ?_)
        refine (ex_istore (L2 := [.ref 0, .int x1, .int x2, .int x3, .int u3.1]) rfl).trans ?_
        refine (ex_iload (x := u3.1) rfl).trans ?_
        refine (ex_if_ge (p := 47) (q := cp_82_r4) rfl).trans (ex_ite ?_ ?_)
        · refine (ex_aload_n (x := 0) rfl).trans ?_
          refine (ex_get (u := .ref 2) rfl).trans ?_
          refine (ex_iload (x := u3.1) rfl).trans ?_
          refine (ex_inv_z (As := [.ref 2, .int u3.1]) (rest := []) rfl rfl).trans (ex_bnd fun u4 => ?_)
          refine (ex_if_eq (p := 66) (q := cp_82_r5) rfl).trans (ex_ite ?_ ?_)
          · refine (ex_aload_n (x := 0) rfl).trans ?_
            refine (ex_get (u := .ref 1) rfl).trans ?_
            refine (ex_iload_n (x := x2) rfl).trans ?_
            refine (ex_inv_z (As := [.ref 1, .int x2]) (rest := []) rfl rfl).trans (ex_bnd fun u5 => ?_)
            refine (ex_if_eq (p := 80) (q := cp_82_r6) rfl).trans (ex_ite ?_ ?_)
            · refine (ex_aload_n (x := 0) rfl).trans ?_
              refine (ex_iload_n (x := x1) rfl).trans ?_
              refine (ex_iload (x := u3.1) rfl).trans ?_
              refine (ex_inv_i (As := [.ref 0, .int x1, .int u3.1]) (rest := []) rfl rfl).trans (ex_bnd fun u6 => ?_)
              exact ex_ireturn
            · refine (ex_bipush).trans ?_
              exact ex_ireturn
          · refine (ex_aload_n (x := 0) rfl).trans ?_
            refine (ex_iload (x := u3.1) rfl).trans ?_
            refine (ex_inv_i (As := [.ref 0, .int u3.1]) (rest := []) rfl rfl).trans (ex_bnd fun u7 => ?_)
            exact ex_ireturn
        · refine (ex_iload (x := u3.1) rfl).trans ?_
          exact ex_ireturn
-- 83: WiringContainer.call(III)I
set_option maxRecDepth 100000 in
set_option maxHeartbeats 4000000 in
theorem cp_83_g (d : Nat) (σ : mm_S) (x1 : Int32) (x2 : Int32) (x3 : Int32) : cG (d + 1) 83 [.ref 0, .int x1, .int x2, .int x3] σ = (if (σ.1 0 5) = 0 then (some ((-3 : Int32), 0, σ)) else ((cG d 90 [.int x1] σ).bind fun u1 => (if u1.1 = 0 then (some ((-1 : Int32), 0, u1.2.2)) else ((cG d 53 [.ref 4, .int x2] u1.2.2).bind fun u2 => (if u2.1 = 0 then (some ((-8 : Int32), 0, u2.2.2)) else ((cG d 54 [.ref 4, .int x2] u2.2.2).bind fun u3 => ((cG d 12 [.ref 2, .int u3.1, .int x3] u3.2.2).bind fun u4 => (if u4.1 = 0 then (some ((-1 : Int32), 0, u4.2.2)) else ((cG d 60 [.ref 3, .int u3.1, .int x3] u4.2.2).bind fun u5 => ((cG d 16 [.ref 2, .int u5.1] u5.2.2).bind fun u6 => (if u6.1 = 0 then ((cG d 95 [.ref 0, .int x1, .int u5.1] u6.2.2).bind fun u7 => (some (u7.1, 0, u7.2.2))) else ((cG d 56 [.ref 4, .int x2, .int x3] u6.2.2).bind fun u8 => (some (u8.1, 0, u8.2.2)))))))))))))) := by
  refine (mm_entry 99999961 39 (maxL := 6) (labs := cp_83_l) (rows := cp_83_r0) (L := [.ref 0, .int x1, .int x2, .int x3, .null, .null]) (rk := 1) rfl rfl rfl rfl rfl rfl).trans ?_
  refine (ex_aload_n (x := 0) rfl).trans ?_
  refine (ex_get (u := .int (σ.1 0 5)) rfl).trans ?_
  refine (ex_if_ne (p := 10) (q := cp_83_r1) rfl).trans (ex_ite ?_ ?_)
  · refine (ex_bipush).trans ?_
    exact ex_ireturn
  · refine (ex_iload_n (x := x1) rfl).trans ?_
    refine (ex_sta_z (As := [.int x1]) (rest := []) (by decide) (by decide) rfl rfl).trans (ex_bnd fun u1 => ?_)
    refine (ex_if_ne (p := 19) (q := cp_83_r2) rfl).trans (ex_ite ?_ ?_)
    · refine (ex_iconst).trans ?_
      exact ex_ireturn
    · refine (ex_aload_n (x := 0) rfl).trans ?_
      refine (ex_get (u := .ref 4) rfl).trans ?_
      refine (ex_iload_n (x := x2) rfl).trans ?_
      refine (ex_inv_z (As := [.ref 4, .int x2]) (rest := []) rfl rfl).trans (ex_bnd fun u2 => ?_)
      refine (ex_if_ne (p := 33) (q := cp_83_r3) rfl).trans (ex_ite ?_ ?_)
      · refine (ex_bipush).trans ?_
        exact ex_ireturn
      · refine (ex_aload_n (x := 0) rfl).trans ?_
        refine (ex_get (u := .ref 4) rfl).trans ?_
        refine (ex_iload_n (x := x2) rfl).trans ?_
        refine (ex_inv_i (As := [.ref 4, .int x2]) (rest := []) rfl rfl).trans (ex_bnd fun u3 => ?_)
        refine (ex_istore (L2 := [.ref 0, .int x1, .int x2, .int x3, .int u3.1, .null]) rfl).trans ?_
        refine (ex_aload_n (x := 0) rfl).trans ?_
        refine (ex_get (u := .ref 2) rfl).trans ?_
        refine (ex_iload (x := u3.1) rfl).trans ?_
        refine (ex_iload_n (x := x3) rfl).trans ?_
        refine (ex_inv_z (As := [.ref 2, .int u3.1, .int x3]) (rest := []) rfl rfl).trans (ex_bnd fun u4 => ?_)
        refine (ex_if_ne (p := 58) (q := cp_83_r4) rfl).trans (ex_ite ?_ ?_)
        · refine (ex_iconst).trans ?_
          exact ex_ireturn
        · refine (ex_aload_n (x := 0) rfl).trans ?_
          refine (ex_get (u := .ref 3) rfl).trans ?_
          refine (ex_iload (x := u3.1) rfl).trans ?_
          refine (ex_iload_n (x := x3) rfl).trans ?_
          refine (ex_inv_i (As := [.ref 3, .int u3.1, .int x3]) (rest := []) rfl rfl).trans (ex_bnd fun u5 => ?_)
          refine (ex_istore (L2 := [.ref 0, .int x1, .int x2, .int x3, .int u3.1, .int u5.1]) rfl).trans ?_
          refine (ex_aload_n (x := 0) rfl).trans ?_
          refine (ex_get (u := .ref 2) rfl).trans ?_
          refine (ex_iload (x := u5.1) rfl).trans ?_
          refine (ex_inv_z (As := [.ref 2, .int u5.1]) (rest := []) rfl rfl).trans (ex_bnd fun u6 => ?_)
          refine (ex_if_eq (p := 92) (q := cp_83_r5) rfl).trans (ex_ite ?_ ?_)
          · refine (ex_aload_n (x := 0) rfl).trans ?_
            refine (ex_iload_n (x := x1) rfl).trans ?_
            refine (ex_iload (x := u5.1) rfl).trans ?_
            refine (ex_inv_i (As := [.ref 0, .int x1, .int u5.1]) (rest := []) rfl rfl).trans (ex_bnd fun u7 => ?_)
            exact ex_ireturn
          · refine (ex_aload_n (x := 0) rfl).trans ?_
            refine (ex_get (u := .ref 4) rfl).trans ?_
            refine (ex_iload_n (x := x2) rfl).trans ?_
            refine (ex_iload_n (x := x3) rfl).trans ?_
            refine (ex_inv_i (As := [.ref 4, .int x2, .int x3]) (rest := []) rfl rfl).trans (ex_bnd fun u8 => ?_)
            exact ex_ireturn
-- 84: WiringContainer.destroy(I)I
set_option maxRecDepth 100000 in
set_option maxHeartbeats 4000000 in
theorem cp_84_g (d : Nat) (σ : mm_S) (x1 : Int32) : cG (d + 1) 84 [.ref 0, .int x1] σ = (if (σ.1 0 5) = 0 then (some ((-3 : Int32), 0, σ)) else ((cG d 53 [.ref 4, .int x1] σ).bind fun u1 => (if u1.1 = 0 then (some ((-8 : Int32), 0, u1.2.2)) else ((cG d 55 [.ref 4, .int x1] u1.2.2).bind fun u2 => (if u2.1 = 0 then ((cG d 51 [.ref 4] u2.2.2).bind fun u3 => ((cG d 54 [.ref 4, .int x1] u3.2.2).bind fun u4 => ((cG d 46 [.ref 5, .int u4.1, .int x1] u4.2.2).bind fun u5 => ((cG d 59 [.ref 4, .int x1, .int (0 : Int32)] u5.2.2).bind fun u6 => ((cG d 51 [.ref 4] u6.2.2).bind fun u7 => (some ((u7.1 - u3.1), 0, u7.2.2))))))) else (some ((-1 : Int32), 0, u2.2.2))))))) := by
  refine (mm_entry 99999964 36 (maxL := 3) (labs := cp_84_l) (rows := cp_84_r0) (L := [.ref 0, .int x1, .null]) (rk := 1) rfl rfl rfl rfl rfl rfl).trans ?_
  refine (ex_aload_n (x := 0) rfl).trans ?_
  refine (ex_get (u := .int (σ.1 0 5)) rfl).trans ?_
  refine (ex_if_ne (p := 10) (q := cp_84_r1) rfl).trans (ex_ite ?_ ?_)
  · refine (ex_bipush).trans ?_
    exact ex_ireturn
  · refine (ex_aload_n (x := 0) rfl).trans ?_
    refine (ex_get (u := .ref 4) rfl).trans ?_
    refine (ex_iload_n (x := x1) rfl).trans ?_
    refine (ex_inv_z (As := [.ref 4, .int x1]) (rest := []) rfl rfl).trans (ex_bnd fun u1 => ?_)
    refine (ex_if_ne (p := 24) (q := cp_84_r2) rfl).trans (ex_ite ?_ ?_)
    · refine (ex_bipush).trans ?_
      exact ex_ireturn
    · refine (ex_aload_n (x := 0) rfl).trans ?_
      refine (ex_get (u := .ref 4) rfl).trans ?_
      refine (ex_iload_n (x := x1) rfl).trans ?_
      refine (ex_inv_i (As := [.ref 4, .int x1]) (rest := []) rfl rfl).trans (ex_bnd fun u2 => ?_)
      refine (ex_if_eq (p := 37) (q := cp_84_r3) rfl).trans (ex_ite ?_ ?_)
      · refine (ex_aload_n (x := 0) rfl).trans ?_
        refine (ex_get (u := .ref 4) rfl).trans ?_
        refine (ex_inv_i (As := [.ref 4]) (rest := []) rfl rfl).trans (ex_bnd fun u3 => ?_)
        refine (ex_istore_n (L2 := [.ref 0, .int x1, .int u3.1]) rfl).trans ?_
        refine (ex_aload_n (x := 0) rfl).trans ?_
        refine (ex_get (u := .ref 5) rfl).trans ?_
        refine (ex_aload_n (x := 0) rfl).trans ?_
        refine (ex_get (u := .ref 4) rfl).trans ?_
        refine (ex_iload_n (x := x1) rfl).trans ?_
        refine (ex_inv_i (As := [.ref 4, .int x1]) (rest := [.ref 5]) rfl rfl).trans (ex_bnd fun u4 => ?_)
        refine (ex_iload_n (x := x1) rfl).trans ?_
        refine (ex_inv_v (As := [.ref 5, .int u4.1, .int x1]) (rest := []) rfl rfl).trans (ex_bnd fun u5 => ?_)
        refine (ex_aload_n (x := 0) rfl).trans ?_
        refine (ex_get (u := .ref 4) rfl).trans ?_
        refine (ex_iload_n (x := x1) rfl).trans ?_
        refine (ex_iconst).trans ?_
        refine (ex_inv_v (As := [.ref 4, .int x1, .int (0 : Int32)]) (rest := []) rfl rfl).trans (ex_bnd fun u6 => ?_)
        refine (ex_aload_n (x := 0) rfl).trans ?_
        refine (ex_get (u := .ref 4) rfl).trans ?_
        refine (ex_inv_i (As := [.ref 4]) (rest := []) rfl rfl).trans (ex_bnd fun u7 => ?_)
        refine (ex_iload_n (x := u3.1) rfl).trans ?_
        refine (ex_isub).trans ?_
        exact ex_ireturn
      · refine (ex_iconst).trans ?_
        exact ex_ireturn
-- 85: WiringContainer.shutdown()I
set_option maxRecDepth 100000 in
set_option maxHeartbeats 4000000 in
theorem cp_85_g (d : Nat) (σ : mm_S) : cG (d + 1) 85 [.ref 0] σ = (if (σ.1 0 5) = 0 then (some ((-3 : Int32), 0, σ)) else ((cG d 51 [.ref 4] σ).bind fun u1 => (mm_ex sc (cG d) 1 cp_85_l (99999991 + 0) cp_85_r2 [.ref 0, .int u1.1, .int (0 : Int32)] [] u1.2.2))) := by
  refine (mm_entry 99999991 9 (maxL := 3) (labs := cp_85_l) (rows := cp_85_r0) (L := [.ref 0, .null, .null]) (rk := 1) rfl rfl rfl rfl rfl rfl).trans ?_
  refine (ex_aload_n (x := 0) rfl).trans ?_
  refine (ex_get (u := .int (σ.1 0 5)) rfl).trans ?_
  refine (ex_if_ne (p := 10) (q := cp_85_r1) rfl).trans (ex_ite ?_ ?_)
  · refine (ex_bipush).trans ?_
    exact ex_ireturn
  · refine (ex_aload_n (x := 0) rfl).trans ?_
    refine (ex_get (u := .ref 4) rfl).trans ?_
    refine (ex_inv_i (As := [.ref 4]) (rest := []) rfl rfl).trans (ex_bnd fun u1 => ?_)
    refine (ex_istore_n (L2 := [.ref 0, .int u1.1, .null]) rfl).trans ?_
    refine (ex_iconst).trans ?_
    refine (ex_istore_n (L2 := [.ref 0, .int u1.1, .int (0 : Int32)]) rfl).trans ?_
    exact rfl
set_option maxRecDepth 100000 in
set_option maxHeartbeats 4000000 in
theorem cp_85_h2 (d n : Nat) (σ : mm_S) (x1 : Int32) (x2 : Int32) : mm_ex sc (cG d) 1 cp_85_l (n + 17) cp_85_r2 [.ref 0, .int x1, .int x2] [] σ = (if (3 : Int32) ≤ x2 then ((cG d 99 [.ref 0] σ).bind fun u1 => ((cG d 98 [.ref 0, .int (3 : Int32)] u1.2.2).bind fun u2 => ((cG d 51 [.ref 4] ((mm_w u2.2.2.1 0 5 (0 : Int32)), u2.2.2.2)).bind fun u3 => (some ((u3.1 - x1), 0, u3.2.2))))) else ((cG d 40 [.ref 5, .int x2] σ).bind fun u4 => (if u4.1 = 0 then (mm_ex sc (cG d) 1 cp_85_l (n + 7) cp_85_r2 [.ref 0, .int x1, .int (x2 + (1 : Int32))] [] u4.2.2) else ((cG d 98 [.ref 0, .int x2] u4.2.2).bind fun u5 => (mm_ex sc (cG d) 1 cp_85_l (n + 4) cp_85_r2 [.ref 0, .int x1, .int (x2 + (1 : Int32))] [] u5.2.2))))) := by
  refine (ex_iload_n (x := x2) rfl).trans ?_
  refine (ex_iconst).trans ?_
  refine (ex_ic_ge (p := 47) (q := cp_85_r4) rfl).trans (ex_ite ?_ ?_)
  · refine (ex_aload_n (x := 0) rfl).trans ?_
    refine (ex_inv_v (As := [.ref 0]) (rest := []) rfl rfl).trans (ex_bnd fun u1 => ?_)
    refine (ex_aload_n (x := 0) rfl).trans ?_
    refine (ex_iconst).trans ?_
    refine (ex_inv_v (As := [.ref 0, .int (3 : Int32)]) (rest := []) rfl rfl).trans (ex_bnd fun u2 => ?_)
    refine (ex_aload_n (x := 0) rfl).trans ?_
    refine (ex_iconst).trans ?_
    refine (ex_put (u := ()) (by decide +kernel)).trans ?_
    refine (ex_aload_n (x := 0) rfl).trans ?_
    refine (ex_get (u := .ref 4) rfl).trans ?_
    refine (ex_inv_i (As := [.ref 4]) (rest := []) rfl rfl).trans (ex_bnd fun u3 => ?_)
    refine (ex_iload_n (x := x1) rfl).trans ?_
    refine (ex_isub).trans ?_
    exact ex_ireturn
  · refine (ex_aload_n (x := 0) rfl).trans ?_
    refine (ex_get (u := .ref 5) rfl).trans ?_
    refine (ex_iload_n (x := x2) rfl).trans ?_
    refine (ex_inv_z (As := [.ref 5, .int x2]) (rest := []) rfl rfl).trans (ex_bnd fun u4 => ?_)
    refine (ex_if_eq (p := 41) (q := cp_85_r3) rfl).trans (ex_ite ?_ ?_)
    · refine (ex_iinc (L2 := [.ref 0, .int x1, .int (x2 + (1 : Int32))]) rfl rfl).trans ?_
      refine (ex_goto (p := 20) (q := cp_85_r2) rfl).trans ?_
      exact rfl
    · refine (ex_aload_n (x := 0) rfl).trans ?_
      refine (ex_iload_n (x := x2) rfl).trans ?_
      refine (ex_inv_v (As := [.ref 0, .int x2]) (rest := []) rfl rfl).trans (ex_bnd fun u5 => ?_)
      refine (ex_iinc (L2 := [.ref 0, .int x1, .int (x2 + (1 : Int32))]) rfl rfl).trans ?_
      refine (ex_goto (p := 20) (q := cp_85_r2) rfl).trans ?_
      exact rfl
-- 86: WiringContainer.beanOf(I)I
set_option maxRecDepth 100000 in
set_option maxHeartbeats 4000000 in
theorem cp_86_g (d : Nat) (σ : mm_S) (x1 : Int32) : cG (d + 1) 86 [.ref 0, .int x1] σ = ((cG d 53 [.ref 4, .int x1] σ).bind fun u1 => (if u1.1 = 0 then (some ((-8 : Int32), 0, u1.2.2)) else ((cG d 54 [.ref 4, .int x1] u1.2.2).bind fun u2 => (some (u2.1, 0, u2.2.2))))) := by
  refine (mm_entry 99999989 11 (maxL := 2) (labs := cp_86_l) (rows := cp_86_r0) (L := [.ref 0, .int x1]) (rk := 1) rfl rfl rfl rfl rfl rfl).trans ?_
  refine (ex_aload_n (x := 0) rfl).trans ?_
  refine (ex_get (u := .ref 4) rfl).trans ?_
  refine (ex_iload_n (x := x1) rfl).trans ?_
  refine (ex_inv_z (As := [.ref 4, .int x1]) (rest := []) rfl rfl).trans (ex_bnd fun u1 => ?_)
  refine (ex_if_eq (p := 22) (q := cp_86_r1) rfl).trans (ex_ite ?_ ?_)
  · refine (ex_bipush).trans ?_
    exact ex_ireturn
  · refine (ex_aload_n (x := 0) rfl).trans ?_
    refine (ex_get (u := .ref 4) rfl).trans ?_
    refine (ex_iload_n (x := x1) rfl).trans ?_
    refine (ex_inv_i (As := [.ref 4, .int x1]) (rest := []) rfl rfl).trans (ex_bnd fun u2 => ?_)
    refine (ex_goto (p := 24) (q := cp_86_r2) rfl).trans ?_
    exact ex_ireturn
-- 87: WiringContainer.owner(I)I
set_option maxRecDepth 100000 in
set_option maxHeartbeats 4000000 in
theorem cp_87_g (d : Nat) (σ : mm_S) (x1 : Int32) : cG (d + 1) 87 [.ref 0, .int x1] σ = ((cG d 53 [.ref 4, .int x1] σ).bind fun u1 => (if u1.1 = 0 then (some ((-8 : Int32), 0, u1.2.2)) else ((cG d 55 [.ref 4, .int x1] u1.2.2).bind fun u2 => (some (u2.1, 0, u2.2.2))))) := by
  refine (mm_entry 99999989 11 (maxL := 2) (labs := cp_87_l) (rows := cp_87_r0) (L := [.ref 0, .int x1]) (rk := 1) rfl rfl rfl rfl rfl rfl).trans ?_
  refine (ex_aload_n (x := 0) rfl).trans ?_
  refine (ex_get (u := .ref 4) rfl).trans ?_
  refine (ex_iload_n (x := x1) rfl).trans ?_
  refine (ex_inv_z (As := [.ref 4, .int x1]) (rest := []) rfl rfl).trans (ex_bnd fun u1 => ?_)
  refine (ex_if_eq (p := 22) (q := cp_87_r1) rfl).trans (ex_ite ?_ ?_)
  · refine (ex_bipush).trans ?_
    exact ex_ireturn
  · refine (ex_aload_n (x := 0) rfl).trans ?_
    refine (ex_get (u := .ref 4) rfl).trans ?_
    refine (ex_iload_n (x := x1) rfl).trans ?_
    refine (ex_inv_i (As := [.ref 4, .int x1]) (rest := []) rfl rfl).trans (ex_bnd fun u2 => ?_)
    refine (ex_goto (p := 24) (q := cp_87_r2) rfl).trans ?_
    exact ex_ireturn
-- 88: WiringContainer.destroyed(I)I
set_option maxRecDepth 100000 in
set_option maxHeartbeats 4000000 in
theorem cp_88_g (d : Nat) (σ : mm_S) (x1 : Int32) : cG (d + 1) 88 [.ref 0, .int x1] σ = ((cG d 52 [.ref 4, .int x1] σ).bind fun u1 => (some (u1.1, 0, u1.2.2))) := by
  refine (mm_entry 99999995 5 (maxL := 2) (labs := cp_88_l) (rows := cp_88_r0) (L := [.ref 0, .int x1]) (rk := 1) rfl rfl rfl rfl rfl rfl).trans ?_
  refine (ex_aload_n (x := 0) rfl).trans ?_
  refine (ex_get (u := .ref 4) rfl).trans ?_
  refine (ex_iload_n (x := x1) rfl).trans ?_
  refine (ex_inv_i (As := [.ref 4, .int x1]) (rest := []) rfl rfl).trans (ex_bnd fun u1 => ?_)
  exact ex_ireturn
-- 89: WiringContainer.live()I
set_option maxRecDepth 100000 in
set_option maxHeartbeats 4000000 in
theorem cp_89_g (d : Nat) (σ : mm_S) : cG (d + 1) 89 [.ref 0] σ = ((cG d 50 [.ref 4] σ).bind fun u1 => (some (u1.1, 0, u1.2.2))) := by
  refine (mm_entry 99999996 4 (maxL := 1) (labs := cp_89_l) (rows := cp_89_r0) (L := [.ref 0]) (rk := 1) rfl rfl rfl rfl rfl rfl).trans ?_
  refine (ex_aload_n (x := 0) rfl).trans ?_
  refine (ex_get (u := .ref 4) rfl).trans ?_
  refine (ex_inv_i (As := [.ref 4]) (rest := []) rfl rfl).trans (ex_bnd fun u1 => ?_)
  exact ex_ireturn
-- 90: WiringContainer.isThread(I)Z
set_option maxRecDepth 100000 in
set_option maxHeartbeats 4000000 in
theorem cp_90_g (d : Nat) (σ : mm_S) (x0 : Int32) : cG (d + 1) 90 [.int x0] σ = (if x0 < 0 then (some ((0 : Int32), 0, σ)) else (if (3 : Int32) ≤ x0 then (some ((0 : Int32), 0, σ)) else (some ((1 : Int32), 0, σ)))) := by
  refine (mm_entry 99999992 8 (maxL := 1) (labs := cp_90_l) (rows := cp_90_r0) (L := [.int x0]) (rk := 3) rfl rfl rfl rfl rfl rfl).trans ?_
  refine (ex_iload_n (x := x0) rfl).trans ?_
  refine (ex_if_lt (p := 13) (q := cp_90_r1) rfl).trans (ex_ite ?_ ?_)
  · refine (ex_iconst).trans ?_
    exact ex_zreturn0
  · refine (ex_iload_n (x := x0) rfl).trans ?_
    refine (ex_iconst).trans ?_
    refine (ex_ic_ge (p := 13) (q := cp_90_r1) rfl).trans (ex_ite ?_ ?_)
    · refine (ex_iconst).trans ?_
      exact ex_zreturn0
    · refine (ex_iconst).trans ?_
      refine (ex_goto (p := 14) (q := cp_90_r2) rfl).trans ?_
      exact ex_zreturn1
-- 91: WiringContainer.markOf(II)I
set_option maxRecDepth 100000 in
set_option maxHeartbeats 4000000 in
theorem cp_91_g (d : Nat) (σ : mm_S) (x0 : Int32) (x1 : Int32) : cG (d + 1) 91 [.int x0, .int x1] σ = (some (((x0 >>> ((x1 * (3 : Int32)) &&& 31)) &&& (7 : Int32)), 0, σ)) := by
  refine (mm_entry 99999992 8 (maxL := 2) (labs := cp_91_l) (rows := cp_91_r0) (L := [.int x0, .int x1]) (rk := 1) rfl rfl rfl rfl rfl rfl).trans ?_
  refine (ex_iload_n (x := x0) rfl).trans ?_
  refine (ex_iload_n (x := x1) rfl).trans ?_
  refine (ex_iconst).trans ?_
  refine (ex_imul).trans ?_
  refine (ex_ishr).trans ?_
  refine (ex_bipush).trans ?_
  refine (ex_iand).trans ?_
  exact ex_ireturn
-- 92: WiringContainer.areMarks(I)Z
set_option maxRecDepth 100000 in
set_option maxHeartbeats 4000000 in
theorem cp_92_g (d : Nat) (σ : mm_S) (x0 : Int32) : cG (d + 1) 92 [.int x0] σ = (if x0 < 0 then (some ((0 : Int32), 0, σ)) else (if (32767 : Int32) < x0 then (some ((0 : Int32), 0, σ)) else ((cG d 91 [.int x0, .int (1 : Int32)] σ).bind fun u1 => (if (1 : Int32) < u1.1 then (some ((0 : Int32), 0, u1.2.2)) else (some ((1 : Int32), 0, u1.2.2)))))) := by
  refine (mm_entry 99999987 13 (maxL := 1) (labs := cp_92_l) (rows := cp_92_r0) (L := [.int x0]) (rk := 3) rfl rfl rfl rfl rfl rfl).trans ?_
  refine (ex_iload_n (x := x0) rfl).trans ?_
  refine (ex_if_lt (p := 24) (q := cp_92_r1) rfl).trans (ex_ite ?_ ?_)
  · refine (ex_iconst).trans ?_
    exact ex_zreturn0
  · refine (ex_iload_n (x := x0) rfl).trans ?_
    refine (ex_sipush).trans ?_
    refine (ex_ic_gt (p := 24) (q := cp_92_r1) rfl).trans (ex_ite ?_ ?_)
    · refine (ex_iconst).trans ?_
      exact ex_zreturn0
    · refine (ex_iload_n (x := x0) rfl).trans ?_
      refine (ex_iconst).trans ?_
      refine (ex_sta_i (As := [.int x0, .int (1 : Int32)]) (rest := []) (by decide) (by decide) rfl rfl).trans (ex_bnd fun u1 => ?_)
      refine (ex_iconst).trans ?_
      refine (ex_ic_gt (p := 24) (q := cp_92_r1) rfl).trans (ex_ite ?_ ?_)
      · refine (ex_iconst).trans ?_
        exact ex_zreturn0
      · refine (ex_iconst).trans ?_
        refine (ex_goto (p := 25) (q := cp_92_r2) rfl).trans ?_
        exact ex_zreturn1
-- 93: WiringContainer.areBeanTraits(III)Z
set_option maxRecDepth 100000 in
set_option maxHeartbeats 4000000 in
theorem cp_93_g (d : Nat) (σ : mm_S) (x0 : Int32) (x1 : Int32) (x2 : Int32) : cG (d + 1) 93 [.int x0, .int x1, .int x2] σ = ((cG d 92 [.int x0] σ).bind fun u1 => (if u1.1 = 0 then (some ((0 : Int32), 0, u1.2.2)) else (if x1 < 0 then (some ((0 : Int32), 0, u1.2.2)) else (if (2 : Int32) < x1 then (some ((0 : Int32), 0, u1.2.2)) else (if x2 < (-1 : Int32) then (some ((0 : Int32), 0, u1.2.2)) else (if (100 : Int32) < x2 then (some ((0 : Int32), 0, u1.2.2)) else (some ((1 : Int32), 0, u1.2.2)))))))) := by
  refine (mm_entry 99999983 17 (maxL := 3) (labs := cp_93_l) (rows := cp_93_r0) (L := [.int x0, .int x1, .int x2]) (rk := 3) rfl rfl rfl rfl rfl rfl).trans ?_
  refine (ex_iload_n (x := x0) rfl).trans ?_
  refine (ex_sta_z (As := [.int x0]) (rest := []) (by decide) (by decide) rfl rfl).trans (ex_bnd fun u1 => ?_)
  refine (ex_if_eq (p := 31) (q := cp_93_r1) rfl).trans (ex_ite ?_ ?_)
  · refine (ex_iconst).trans ?_
    exact ex_zreturn0
  · refine (ex_iload_n (x := x1) rfl).trans ?_
    refine (ex_if_lt (p := 31) (q := cp_93_r1) rfl).trans (ex_ite ?_ ?_)
    · refine (ex_iconst).trans ?_
      exact ex_zreturn0
    · refine (ex_iload_n (x := x1) rfl).trans ?_
      refine (ex_iconst).trans ?_
      refine (ex_ic_gt (p := 31) (q := cp_93_r1) rfl).trans (ex_ite ?_ ?_)
      · refine (ex_iconst).trans ?_
        exact ex_zreturn0
      · refine (ex_iload_n (x := x2) rfl).trans ?_
        refine (ex_iconst).trans ?_
        refine (ex_ic_lt (p := 31) (q := cp_93_r1) rfl).trans (ex_ite ?_ ?_)
        · refine (ex_iconst).trans ?_
          exact ex_zreturn0
        · refine (ex_iload_n (x := x2) rfl).trans ?_
          refine (ex_bipush).trans ?_
          refine (ex_ic_gt (p := 31) (q := cp_93_r1) rfl).trans (ex_ite ?_ ?_)
          · refine (ex_iconst).trans ?_
            exact ex_zreturn0
          · refine (ex_iconst).trans ?_
            refine (ex_goto (p := 32) (q := cp_93_r2) rfl).trans ?_
            exact ex_zreturn1
-- 94: WiringContainer.isRequirement(II)Z
set_option maxRecDepth 100000 in
set_option maxHeartbeats 4000000 in
theorem cp_94_g (d : Nat) (σ : mm_S) (x1 : Int32) (x2 : Int32) : cG (d + 1) 94 [.ref 0, .int x1, .int x2] σ = ((cG d 29 [.ref 1, .int x1] σ).bind fun u1 => (if u1.1 = 0 then (some ((0 : Int32), 0, u1.2.2)) else (if x2 = (-1 : Int32) then (some ((1 : Int32), 0, u1.2.2)) else ((cG d 92 [.int x2] u1.2.2).bind fun u2 => (if u2.1 = 0 then (some ((0 : Int32), 0, u2.2.2)) else (some ((1 : Int32), 0, u2.2.2))))))) := by
  refine (mm_entry 99999986 14 (maxL := 3) (labs := cp_94_l) (rows := cp_94_r0) (L := [.ref 0, .int x1, .int x2]) (rk := 3) rfl rfl rfl rfl rfl rfl).trans ?_
  refine (ex_aload_n (x := 0) rfl).trans ?_
  refine (ex_get (u := .ref 1) rfl).trans ?_
  refine (ex_iload_n (x := x1) rfl).trans ?_
  refine (ex_inv_z (As := [.ref 1, .int x1]) (rest := []) rfl rfl).trans (ex_bnd fun u1 => ?_)
  refine (ex_if_eq (p := 27) (q := cp_94_r2) rfl).trans (ex_ite ?_ ?_)
  · refine (ex_iconst).trans ?_
    exact ex_zreturn0
  · refine (ex_iload_n (x := x2) rfl).trans ?_
    refine (ex_iconst).trans ?_
    refine (ex_ic_eq (p := 23) (q := cp_94_r1) rfl).trans (ex_ite ?_ ?_)
    · refine (ex_iconst).trans ?_
      refine (ex_goto (p := 28) (q := cp_94_r3) rfl).trans ?_
      exact ex_zreturn1
    · refine (ex_iload_n (x := x2) rfl).trans ?_
      refine (ex_sta_z (As := [.int x2]) (rest := []) (by decide) (by decide) rfl rfl).trans (ex_bnd fun u2 => ?_)
      refine (ex_if_eq (p := 27) (q := cp_94_r2) rfl).trans (ex_ite ?_ ?_)
      · refine (ex_iconst).trans ?_
        exact ex_zreturn0
      · refine (ex_iconst).trans ?_
        refine (ex_goto (p := 28) (q := cp_94_r3) rfl).trans ?_
        exact ex_zreturn1
-- 95: WiringContainer.reach(II)I
set_option maxRecDepth 100000 in
set_option maxHeartbeats 4000000 in
theorem cp_95_g (d : Nat) (σ : mm_S) (x1 : Int32) (x2 : Int32) : cG (d + 1) 95 [.ref 0, .int x1, .int x2] σ = ((cG d 9 [.ref 2, .int x2] σ).bind fun u1 => (if u1.1 = (2 : Int32) then ((cG d 40 [.ref 5, .int (3 : Int32)] u1.2.2).bind fun u6 => (if u6.1 = 0 then (some ((-7 : Int32), 0, u6.2.2)) else ((cG d 43 [.ref 5, .int (3 : Int32), .int x2] u6.2.2).bind fun u7 => (if u7.1 ≤ 0 then ((cG d 96 [.ref 0, .int x2] u7.2.2).bind fun u8 => (if u8.1 ≤ 0 then (some (u8.1, 0, u8.2.2)) else ((cG d 44 [.ref 5, .int (3 : Int32), .int x2, .int u8.1] u8.2.2).bind fun u9 => (some (u8.1, 0, u9.2.2))))) else (some (u7.1, 0, u7.2.2)))))) else ((cG d 40 [.ref 5, .int x1] u1.2.2).bind fun u2 => (if u2.1 = 0 then (some ((-7 : Int32), 0, u2.2.2)) else ((cG d 43 [.ref 5, .int x1, .int x2] u2.2.2).bind fun u3 => (if u3.1 ≤ 0 then ((cG d 96 [.ref 0, .int x2] u3.2.2).bind fun u4 => (if u4.1 ≤ 0 then (some (u4.1, 0, u4.2.2)) else ((cG d 44 [.ref 5, .int x1, .int x2, .int u4.1] u4.2.2).bind fun u5 => (some (u4.1, 0, u5.2.2))))) else (some (u3.1, 0, u3.2.2)))))))) := by
  refine (mm_entry 99999964 36 (maxL := 6) (labs := cp_95_l) (rows := cp_95_r0) (L := [.ref 0, .int x1, .int x2, .null, .null, .null]) (rk := 1) rfl rfl rfl rfl rfl rfl).trans ?_
  refine (ex_aload_n (x := 0) rfl).trans ?_
  refine (ex_get (u := .ref 2) rfl).trans ?_
  refine (ex_iload_n (x := x2) rfl).trans ?_
  refine (ex_inv_i (As := [.ref 2, .int x2]) (rest := []) rfl rfl).trans (ex_bnd fun u1 => ?_)
  refine (ex_iconst).trans ?_
  refine (ex_ic_ne (p := 16) (q := cp_95_r1) rfl).trans (ex_ite ?_ ?_)
  · refine (ex_iconst).trans ?_
    refine (ex_goto (p := 17) (q := cp_95_r2) rfl).trans ?_
    refine (ex_istore_n (L2 := [.ref 0, .int x1, .int x2, .int (3 : Int32), .null, .null]) rfl).trans ?_
    refine (ex_aload_n (x := 0) rfl).trans ?_
    refine (ex_get (u := .ref 5) rfl).trans ?_
    refine (ex_iload_n (x := (3 : Int32)) rfl).trans ?_
    refine (ex_inv_z (As := [.ref 5, .int (3 : Int32)]) (rest := []) rfl rfl).trans (ex_bnd fun u6 => ?_)
    refine (ex_if_ne (p := 32) (q := cp_95_r3) rfl).trans (ex_ite ?_ ?_)
    · refine (ex_bipush).trans ?_
      exact ex_ireturn
    · refine (ex_aload_n (x := 0) rfl).trans ?_
      refine (ex_get (u := .ref 5) rfl).trans ?_
      refine (ex_iload_n (x := (3 : Int32)) rfl).trans ?_
      refine (ex_iload_n (x := x2) rfl).trans ?_
      refine (ex_inv_i (As := [.ref 5, .int (3 : Int32), .int x2]) (rest := []) rfl rfl).trans (ex_bnd fun u7 => ?_)
      refine (ex_istore (L2 := [.ref 0, .int x1, .int x2, .int (3 : Int32), .int u7.1, .null]) rfl).trans ?_
      refine (ex_iload (x := u7.1) rfl).trans ?_
      refine (ex_if_le (p := 51) (q := cp_95_r4) rfl).trans (ex_ite ?_ ?_)
      · refine (ex_aload_n (x := 0) rfl).trans ?_
        refine (ex_iload_n (x := x2) rfl).trans ?_
        refine (ex_inv_i (As := [.ref 0, .int x2]) (rest := []) rfl rfl).trans (ex_bnd fun u8 => ?_)
        refine (ex_istore (L2 := [.ref 0, .int x1, .int x2, .int (3 : Int32), .int u7.1, .int u8.1]) rfl).trans ?_
        refine (ex_iload (x := u8.1) rfl).trans ?_
        refine (ex_if_le (p := 74) (q := cp_95_r5) rfl).trans (ex_ite ?_ ?_)
        · refine (ex_iload (x := u8.1) rfl).trans ?_
          exact ex_ireturn
        · refine (ex_aload_n (x := 0) rfl).trans ?_
          refine (ex_get (u := .ref 5) rfl).trans ?_
          refine (ex_iload_n (x := (3 : Int32)) rfl).trans ?_
          refine (ex_iload_n (x := x2) rfl).trans ?_
          refine (ex_iload (x := u8.1) rfl).trans ?_
          refine (ex_inv_v (As := [.ref 5, .int (3 : Int32), .int x2, .int u8.1]) (rest := []) rfl rfl).trans (ex_bnd fun u9 => ?_)
          refine (ex_iload (x := u8.1) rfl).trans ?_
          exact ex_ireturn
      · refine (ex_iload (x := u7.1) rfl).trans ?_
        exact ex_ireturn
  · refine (ex_iload_n (x := x1) rfl).trans ?_
    refine (ex_istore_n (L2 := [.ref 0, .int x1, .int x2, .int x1, .null, .null]) rfl).trans ?_
    refine (ex_aload_n (x := 0) rfl).trans ?_
    refine (ex_get (u := .ref 5) rfl).trans ?_
    refine (ex_iload_n (x := x1) rfl).trans ?_
    refine (ex_inv_z (As := [.ref 5, .int x1]) (rest := []) rfl rfl).trans (ex_bnd fun u2 => ?_)
    refine (ex_if_ne (p := 32) (q := cp_95_r3) rfl).trans (ex_ite ?_ ?_)
    · refine (ex_bipush).trans ?_
      exact ex_ireturn
    · refine (ex_aload_n (x := 0) rfl).trans ?_
      refine (ex_get (u := .ref 5) rfl).trans ?_
      refine (ex_iload_n (x := x1) rfl).trans ?_
      refine (ex_iload_n (x := x2) rfl).trans ?_
      refine (ex_inv_i (As := [.ref 5, .int x1, .int x2]) (rest := []) rfl rfl).trans (ex_bnd fun u3 => ?_)
      refine (ex_istore (L2 := [.ref 0, .int x1, .int x2, .int x1, .int u3.1, .null]) rfl).trans ?_
      refine (ex_iload (x := u3.1) rfl).trans ?_
      refine (ex_if_le (p := 51) (q := cp_95_r4) rfl).trans (ex_ite ?_ ?_)
      · refine (ex_aload_n (x := 0) rfl).trans ?_
        refine (ex_iload_n (x := x2) rfl).trans ?_
        refine (ex_inv_i (As := [.ref 0, .int x2]) (rest := []) rfl rfl).trans (ex_bnd fun u4 => ?_)
        refine (ex_istore (L2 := [.ref 0, .int x1, .int x2, .int x1, .int u3.1, .int u4.1]) rfl).trans ?_
        refine (ex_iload (x := u4.1) rfl).trans ?_
        refine (ex_if_le (p := 74) (q := cp_95_r5) rfl).trans (ex_ite ?_ ?_)
        · refine (ex_iload (x := u4.1) rfl).trans ?_
          exact ex_ireturn
        · refine (ex_aload_n (x := 0) rfl).trans ?_
          refine (ex_get (u := .ref 5) rfl).trans ?_
          refine (ex_iload_n (x := x1) rfl).trans ?_
          refine (ex_iload_n (x := x2) rfl).trans ?_
          refine (ex_iload (x := u4.1) rfl).trans ?_
          refine (ex_inv_v (As := [.ref 5, .int x1, .int x2, .int u4.1]) (rest := []) rfl rfl).trans (ex_bnd fun u5 => ?_)
          refine (ex_iload (x := u4.1) rfl).trans ?_
          exact ex_ireturn
      · refine (ex_iload (x := u3.1) rfl).trans ?_
        exact ex_ireturn
-- 96: WiringContainer.makeOrRefuse(I)I
set_option maxRecDepth 100000 in
set_option maxHeartbeats 4000000 in
theorem cp_96_g (d : Nat) (σ : mm_S) (x1 : Int32) : cG (d + 1) 96 [.ref 0, .int x1] σ = ((cG d 61 [.ref 3, .int x1] σ).bind fun u1 => (if (10 : Int32) < u1.1 then (some ((-2 : Int32), 0, u1.2.2)) else ((cG d 49 [.ref 4] u1.2.2).bind fun u2 => (if u1.1 ≤ u2.1 then ((cG d 97 [.ref 0, .int x1, .int (0 : Int32), .int (0 : Int32)] u2.2.2).bind fun u3 => (some (u3.1, 0, u3.2.2))) else (some ((-2 : Int32), 0, u2.2.2)))))) := by
  refine (mm_entry 99999981 19 (maxL := 3) (labs := cp_96_l) (rows := cp_96_r0) (L := [.ref 0, .int x1, .null]) (rk := 1) rfl rfl rfl rfl rfl rfl).trans ?_
  refine (ex_aload_n (x := 0) rfl).trans ?_
  refine (ex_get (u := .ref 3) rfl).trans ?_
  refine (ex_iload_n (x := x1) rfl).trans ?_
  refine (ex_inv_i (As := [.ref 3, .int x1]) (rest := []) rfl rfl).trans (ex_bnd fun u1 => ?_)
  refine (ex_istore_n (L2 := [.ref 0, .int x1, .int u1.1]) rfl).trans ?_
  refine (ex_iload_n (x := u1.1) rfl).trans ?_
  refine (ex_bipush).trans ?_
  refine (ex_ic_gt (p := 26) (q := cp_96_r1) rfl).trans (ex_ite ?_ ?_)
  · refine (ex_bipush).trans ?_
    exact ex_ireturn
  · refine (ex_iload_n (x := u1.1) rfl).trans ?_
    refine (ex_aload_n (x := 0) rfl).trans ?_
    refine (ex_get (u := .ref 4) rfl).trans ?_
    refine (ex_inv_i (As := [.ref 4]) (rest := [.int u1.1]) rfl rfl).trans (ex_bnd fun u2 => ?_)
    refine (ex_ic_le (p := 29) (q := cp_96_r2) rfl).trans (ex_ite ?_ ?_)
    · refine (ex_aload_n (x := 0) rfl).trans ?_
      refine (ex_iload_n (x := x1) rfl).trans ?_
      refine (ex_iconst).trans ?_
      refine (ex_iconst).trans ?_
      refine (ex_inv_i (As := [.ref 0, .int x1, .int (0 : Int32), .int (0 : Int32)]) (rest := []) rfl rfl).trans (ex_bnd fun u3 => ?_)
      exact ex_ireturn
    · refine (ex_bipush).trans ?_
      exact ex_ireturn
-- 97: WiringContainer.make(III)I
set_option maxRecDepth 100000 in
set_option maxHeartbeats 4000000 in
theorem cp_97_g (d : Nat) (σ : mm_S) (x1 : Int32) (x2 : Int32) (x3 : Int32) : cG (d + 1) 97 [.ref 0, .int x1, .int x2, .int x3] σ = (if x3 ≤ (10 : Int32) then ((cG d 10 [.ref 2, .int x1] σ).bind fun u1 => (if u1.1 = (-1 : Int32) then (mm_ex sc (cG d) 1 cp_97_l (99999982 + 5) cp_97_r3 [.ref 0, .int x1, .int x2, .int x3, .int u1.1, .null, .null, .null, .null] [.int (0 : Int32)] u1.2.2) else ((cG d 97 [.ref 0, .int u1.1, .int (0 : Int32), .int (x3 + (1 : Int32))] u1.2.2).bind fun u2 => (mm_ex sc (cG d) 1 cp_97_l (99999982 + 0) cp_97_r3 [.ref 0, .int x1, .int x2, .int x3, .int u1.1, .null, .null, .null, .null] [.int u2.1] u2.2.2)))) else (some ((0 : Int32), 0, σ))) := by
  refine (mm_entry 99999982 18 (maxL := 9) (labs := cp_97_l) (rows := cp_97_r0) (L := [.ref 0, .int x1, .int x2, .int x3, .null, .null, .null, .null, .null]) (rk := 1) rfl rfl rfl rfl rfl rfl).trans ?_
  refine (ex_iload_n (x := x3) rfl).trans ?_
  refine (ex_bipush).trans ?_
  refine (ex_ic_le (p := 8) (q := cp_97_r1) rfl).trans (ex_ite ?_ ?_)
  · refine (ex_aload_n (x := 0) rfl).trans ?_
    refine (ex_get (u := .ref 2) rfl).trans ?_
    refine (ex_iload_n (x := x1) rfl).trans ?_
    refine (ex_inv_i (As := [.ref 2, .int x1]) (rest := []) rfl rfl).trans (ex_bnd fun u1 => ?_)
    refine (ex_istore (L2 := [.ref 0, .int x1, .int x2, .int x3, .int u1.1, .null, .null, .null, .null]) rfl).trans ?_
    refine (ex_iload (x := u1.1) rfl).trans ?_
    refine (ex_iconst).trans ?_
    refine (ex_ic_ne (p := 28) (q := cp_97_r2) rfl).trans (ex_ite ?_ ?_)
    · refine (ex_iconst).trans ?_
      refine (ex_goto (p := 38) (q := cp_97_r3) rfl).trans ?_
      exact rfl
    · refine (ex_aload_n (x := 0) rfl).trans ?_
      refine (ex_iload (x := u1.1) rfl).trans ?_
      refine (ex_iconst).trans ?_
      refine (ex_iload_n (x := x3) rfl).trans ?_
      refine (ex_iconst).trans ?_
      refine (ex_iadd).trans ?_
      refine (ex_inv_i (As := [.ref 0, .int u1.1, .int (0 : Int32), .int (x3 + (1 : Int32))]) (rest := []) rfl rfl).trans (ex_bnd fun u2 => ?_)
      exact rfl
  · refine (ex_iconst).trans ?_
    exact ex_ireturn
set_option maxRecDepth 100000 in
set_option maxHeartbeats 4000000 in
theorem cp_97_h3 (d n : Nat) (σ : mm_S) (x1 : Int32) (x2 : Int32) (x3 : Int32) (x4 : Int32) (xs0 : Int32) : mm_ex sc (cG d) 1 cp_97_l (n + 9) cp_97_r3 [.ref 0, .int x1, .int x2, .int x3, .int x4, .null, .null, .null, .null] [.int xs0] σ = ((cG d 57 [.ref 4, .int x1, .int x2] σ).bind fun u1 => (mm_ex sc (cG d) 1 cp_97_l (n + 0) cp_97_r4 [.ref 0, .int x1, .int x2, .int x3, .int x4, .int xs0, .int u1.1, .int (0 : Int32), .null] [] u1.2.2)) := by
  refine (ex_istore (L2 := [.ref 0, .int x1, .int x2, .int x3, .int x4, .int xs0, .null, .null, .null]) rfl).trans ?_
  refine (ex_aload_n (x := 0) rfl).trans ?_
  refine (ex_get (u := .ref 4) rfl).trans ?_
  refine (ex_iload_n (x := x1) rfl).trans ?_
  refine (ex_iload_n (x := x2) rfl).trans ?_
  refine (ex_inv_i (As := [.ref 4, .int x1, .int x2]) (rest := []) rfl rfl).trans (ex_bnd fun u1 => ?_)
  refine (ex_istore (L2 := [.ref 0, .int x1, .int x2, .int x3, .int x4, .int xs0, .int u1.1, .null, .null]) rfl).trans ?_
  refine (ex_iconst).trans ?_
  refine (ex_istore (L2 := [.ref 0, .int x1, .int x2, .int x3, .int x4, .int xs0, .int u1.1, .int (0 : Int32), .null]) rfl).trans ?_
  exact rfl
set_option maxRecDepth 100000 in
set_option maxHeartbeats 4000000 in
theorem cp_97_h4 (d n : Nat) (σ : mm_S) (x1 : Int32) (x2 : Int32) (x3 : Int32) (x4 : Int32) (x5 : Int32) (x6 : Int32) (x7 : Int32) : mm_ex sc (cG d) 1 cp_97_l (n + 31) cp_97_r4 [.ref 0, .int x1, .int x2, .int x3, .int x4, .int x5, .int x6, .int x7, .null] [] σ = ((cG d 11 [.ref 2, .int x1] σ).bind fun u1 => (if u1.1 ≤ x7 then ((cG d 59 [.ref 4, .int x5, .int (0 : Int32)] u1.2.2).bind fun u2 => (some (x6, 0, u2.2.2))) else ((cG d 60 [.ref 3, .int x1, .int x7] u1.2.2).bind fun u3 => ((cG d 16 [.ref 2, .int u3.1] u3.2.2).bind fun u4 => (if u4.1 = 0 then (mm_ex sc (cG d) 1 cp_97_l (n + 12) cp_97_r4 [.ref 0, .int x1, .int x2, .int x3, .int x4, .int x5, .int x6, .int (x7 + (1 : Int32)), .int u3.1] [] u4.2.2) else ((cG d 97 [.ref 0, .int u3.1, .int x6, .int (x3 + (1 : Int32))] u4.2.2).bind fun u5 => ((cG d 58 [.ref 4, .int x6, .int x7, .int u5.1] u5.2.2).bind fun u6 => (mm_ex sc (cG d) 1 cp_97_l (n + 0) cp_97_r4 [.ref 0, .int x1, .int x2, .int x3, .int x4, .int x5, .int x6, .int (x7 + (1 : Int32)), .int u3.1] [] u6.2.2)))))))) := by
  refine (ex_iload (x := x7) rfl).trans ?_
  refine (ex_aload_n (x := 0) rfl).trans ?_
  refine (ex_get (u := .ref 2) rfl).trans ?_
  refine (ex_iload_n (x := x1) rfl).trans ?_
  refine (ex_inv_i (As := [.ref 2, .int x1]) (rest := [.int x7]) rfl rfl).trans (ex_bnd fun u1 => ?_)
  refine (ex_ic_ge (p := 119) (q := cp_97_r6) rfl).trans (ex_ite ?_ ?_)
  · refine (ex_aload_n (x := 0) rfl).trans ?_
    refine (ex_get (u := .ref 4) rfl).trans ?_
    refine (ex_iload (x := x5) rfl).trans ?_
    refine (ex_iconst).trans ?_
    refine (ex_inv_v (As := [.ref 4, .int x5, .int (0 : Int32)]) (rest := []) rfl rfl).trans (ex_bnd fun u2 => ?_)
    refine (ex_iload (x := x6) rfl).trans ?_
    exact ex_ireturn
  · refine (ex_aload_n (x := 0) rfl).trans ?_
    refine (ex_get (u := .ref 3) rfl).trans ?_
    refine (ex_iload_n (x := x1) rfl).trans ?_
    refine (ex_iload (x := x7) rfl).trans ?_
    refine (ex_inv_i (As := [.ref 3, .int x1, .int x7]) (rest := []) rfl rfl).trans (ex_bnd fun u3 => ?_)
    refine (ex_istore (L2 := [.ref 0, .int x1, .int x2, .int x3, .int x4, .int x5, .int x6, .int x7, .int u3.1]) rfl).trans ?_
    refine (ex_aload_n (x := 0) rfl).trans ?_
    refine (ex_get (u := .ref 2) rfl).trans ?_
    refine (ex_iload (x := u3.1) rfl).trans ?_
    refine (ex_inv_z (As := [.ref 2, .int u3.1]) (rest := []) rfl rfl).trans (ex_bnd fun u4 => ?_)
    refine (ex_if_eq (p := 113) (q := cp_97_r5) rfl).trans (ex_ite ?_ ?_)
    · refine (ex_iinc (L2 := [.ref 0, .int x1, .int x2, .int x3, .int x4, .int x5, .int x6, .int (x7 + (1 : Int32)), .int u3.1]) rfl rfl).trans ?_
      refine (ex_goto (p := 54) (q := cp_97_r4) rfl).trans ?_
      exact rfl
    · refine (ex_aload_n (x := 0) rfl).trans ?_
      refine (ex_get (u := .ref 4) rfl).trans ?_
      refine (ex_iload (x := x6) rfl).trans ?_
      refine (ex_iload (x := x7) rfl).trans ?_
      refine (ex_aload_n (x := 0) rfl).trans ?_
      refine (ex_iload (x := u3.1) rfl).trans ?_
      refine (ex_iload (x := x6) rfl).trans ?_
      refine (ex_iload_n (x := x3) rfl).trans ?_
      refine (ex_iconst).trans ?_
      refine (ex_iadd).trans ?_
      refine (ex_inv_i (As := [.ref 0, .int u3.1, .int x6, .int (x3 + (1 : Int32))]) (rest := [.int x7, .int x6, .ref 4]) rfl rfl).trans (ex_bnd fun u5 => ?_)
      refine (ex_inv_v (As := [.ref 4, .int x6, .int x7, .int u5.1]) (rest := []) rfl rfl).trans (ex_bnd fun u6 => ?_)
      refine (ex_iinc (L2 := [.ref 0, .int x1, .int x2, .int x3, .int x4, .int x5, .int x6, .int (x7 + (1 : Int32)), .int u3.1]) rfl rfl).trans ?_
      refine (ex_goto (p := 54) (q := cp_97_r4) rfl).trans ?_
      exact rfl
-- 98: WiringContainer.endContext(I)V
set_option maxRecDepth 100000 in
set_option maxHeartbeats 4000000 in
theorem cp_98_g (d : Nat) (σ : mm_S) (x1 : Int32) : cG (d + 1) 98 [.ref 0, .int x1] σ = (mm_ex sc (cG d) 0 cp_98_l (99999998 + 0) cp_98_r1 [.ref 0, .int x1, .int (0 : Int32)] [] σ) := by
  refine (mm_entry 99999998 2 (maxL := 3) (labs := cp_98_l) (rows := cp_98_r0) (L := [.ref 0, .int x1, .null]) (rk := 0) rfl rfl rfl rfl rfl rfl).trans ?_
  refine (ex_iconst).trans ?_
  refine (ex_istore_n (L2 := [.ref 0, .int x1, .int (0 : Int32)]) rfl).trans ?_
  exact rfl
set_option maxRecDepth 100000 in
set_option maxHeartbeats 4000000 in
theorem cp_98_h1 (d n : Nat) (σ : mm_S) (x1 : Int32) (x2 : Int32) : mm_ex sc (cG d) 0 cp_98_l (n + 13) cp_98_r1 [.ref 0, .int x1, .int x2] [] σ = (if (16 : Int32) ≤ x2 then ((cG d 42 [.ref 5, .int x1] σ).bind fun u1 => (some (0, 0, u1.2.2))) else ((cG d 45 [.ref 5, .int x1] σ).bind fun u2 => ((cG d 59 [.ref 4, .int u2.1, .int (0 : Int32)] u2.2.2).bind fun u3 => (mm_ex sc (cG d) 0 cp_98_l (n + 0) cp_98_r1 [.ref 0, .int x1, .int (x2 + (1 : Int32))] [] u3.2.2)))) := by
  refine (ex_iload_n (x := x2) rfl).trans ?_
  refine (ex_bipush).trans ?_
  refine (ex_ic_ge (p := 30) (q := cp_98_r2) rfl).trans (ex_ite ?_ ?_)
  · refine (ex_aload_n (x := 0) rfl).trans ?_
    refine (ex_get (u := .ref 5) rfl).trans ?_
    refine (ex_iload_n (x := x1) rfl).trans ?_
    refine (ex_inv_v (As := [.ref 5, .int x1]) (rest := []) rfl rfl).trans (ex_bnd fun u1 => ?_)
    exact ex_return
  · refine (ex_aload_n (x := 0) rfl).trans ?_
    refine (ex_get (u := .ref 4) rfl).trans ?_
    refine (ex_aload_n (x := 0) rfl).trans ?_
    refine (ex_get (u := .ref 5) rfl).trans ?_
    refine (ex_iload_n (x := x1) rfl).trans ?_
    refine (ex_inv_i (As := [.ref 5, .int x1]) (rest := [.ref 4]) rfl rfl).trans (ex_bnd fun u2 => ?_)
    refine (ex_iconst).trans ?_
    refine (ex_inv_v (As := [.ref 4, .int u2.1, .int (0 : Int32)]) (rest := []) rfl rfl).trans (ex_bnd fun u3 => ?_)
    refine (ex_iinc (L2 := [.ref 0, .int x1, .int (x2 + (1 : Int32))]) rfl rfl).trans ?_
    refine (ex_goto (p := 2) (q := cp_98_r1) rfl).trans ?_
    exact rfl
-- 99: WiringContainer.destroyObtained()V
set_option maxRecDepth 100000 in
set_option maxHeartbeats 4000000 in
theorem cp_99_g (d : Nat) (σ : mm_S) : cG (d + 1) 99 [.ref 0] σ = (mm_ex sc (cG d) 0 cp_99_l (99999998 + 0) cp_99_r1 [.ref 0, .int (200 : Int32)] [] σ) := by
  refine (mm_entry 99999998 2 (maxL := 2) (labs := cp_99_l) (rows := cp_99_r0) (L := [.ref 0, .null]) (rk := 0) rfl rfl rfl rfl rfl rfl).trans ?_
  refine (ex_sipush).trans ?_
  refine (ex_istore_n (L2 := [.ref 0, .int (200 : Int32)]) rfl).trans ?_
  exact rfl
set_option maxRecDepth 100000 in
set_option maxHeartbeats 4000000 in
theorem cp_99_h1 (d n : Nat) (σ : mm_S) (x1 : Int32) : mm_ex sc (cG d) 0 cp_99_l (n + 28) cp_99_r1 [.ref 0, .int x1] [] σ = (if x1 < (1 : Int32) then (some (0, 0, σ)) else ((cG d 53 [.ref 4, .int x1] σ).bind fun u1 => (if u1.1 = 0 then (mm_ex sc (cG d) 0 cp_99_l (n + 18) cp_99_r1 [.ref 0, .int (x1 + (-1 : Int32))] [] u1.2.2) else ((cG d 55 [.ref 4, .int x1] u1.2.2).bind fun u2 => (if u2.1 = 0 then ((cG d 54 [.ref 4, .int x1] u2.2.2).bind fun u3 => ((cG d 16 [.ref 2, .int u3.1] u3.2.2).bind fun u4 => (if u4.1 = 0 then (mm_ex sc (cG d) 0 cp_99_l (n + 5) cp_99_r1 [.ref 0, .int (x1 + (-1 : Int32))] [] u4.2.2) else ((cG d 59 [.ref 4, .int x1, .int (0 : Int32)] u4.2.2).bind fun u5 => (mm_ex sc (cG d) 0 cp_99_l (n + 0) cp_99_r1 [.ref 0, .int (x1 + (-1 : Int32))] [] u5.2.2))))) else (mm_ex sc (cG d) 0 cp_99_l (n + 13) cp_99_r1 [.ref 0, .int (x1 + (-1 : Int32))] [] u2.2.2)))))) := by
  refine (ex_iload_n (x := x1) rfl).trans ?_
  refine (ex_iconst).trans ?_
  refine (ex_ic_lt (p := 64) (q := cp_99_r3) rfl).trans (ex_ite ?_ ?_)
  · exact ex_return
  · refine (ex_aload_n (x := 0) rfl).trans ?_
    refine (ex_get (u := .ref 4) rfl).trans ?_
    refine (ex_iload_n (x := x1) rfl).trans ?_
    refine (ex_inv_z (As := [.ref 4, .int x1]) (rest := []) rfl rfl).trans (ex_bnd fun u1 => ?_)
    refine (ex_if_eq (p := 58) (q := cp_99_r2) rfl).trans (ex_ite ?_ ?_)
    · refine (ex_iinc (L2 := [.ref 0, .int (x1 + (-1 : Int32))]) rfl rfl).trans ?_
      refine (ex_goto (p := 4) (q := cp_99_r1) rfl).trans ?_
      exact rfl
    · refine (ex_aload_n (x := 0) rfl).trans ?_
      refine (ex_get (u := .ref 4) rfl).trans ?_
      refine (ex_iload_n (x := x1) rfl).trans ?_
      refine (ex_inv_i (As := [.ref 4, .int x1]) (rest := []) rfl rfl).trans (ex_bnd fun u2 => ?_)
      refine (ex_if_ne (p := 58) (q := cp_99_r2) rfl).trans (ex_ite ?_ ?_)
      · refine (ex_aload_n (x := 0) rfl).trans ?_
        refine (ex_get (u := .ref 2) rfl).trans ?_
        refine (ex_aload_n (x := 0) rfl).trans ?_
        refine (ex_get (u := .ref 4) rfl).trans ?_
        refine (ex_iload_n (x := x1) rfl).trans ?_
        refine (ex_inv_i (As := [.ref 4, .int x1]) (rest := [.ref 2]) rfl rfl).trans (ex_bnd fun u3 => ?_)
        refine (ex_inv_z (As := [.ref 2, .int u3.1]) (rest := []) rfl rfl).trans (ex_bnd fun u4 => ?_)
        refine (ex_if_eq (p := 58) (q := cp_99_r2) rfl).trans (ex_ite ?_ ?_)
        · refine (ex_iinc (L2 := [.ref 0, .int (x1 + (-1 : Int32))]) rfl rfl).trans ?_
          refine (ex_goto (p := 4) (q := cp_99_r1) rfl).trans ?_
          exact rfl
        · refine (ex_aload_n (x := 0) rfl).trans ?_
          refine (ex_get (u := .ref 4) rfl).trans ?_
          refine (ex_iload_n (x := x1) rfl).trans ?_
          refine (ex_iconst).trans ?_
          refine (ex_inv_v (As := [.ref 4, .int x1, .int (0 : Int32)]) (rest := []) rfl rfl).trans (ex_bnd fun u5 => ?_)
          refine (ex_iinc (L2 := [.ref 0, .int (x1 + (-1 : Int32))]) rfl rfl).trans ?_
          refine (ex_goto (p := 4) (q := cp_99_r1) rfl).trans ?_
          exact rfl
      · refine (ex_iinc (L2 := [.ref 0, .int (x1 + (-1 : Int32))]) rfl rfl).trans ?_
        refine (ex_goto (p := 4) (q := cp_99_r1) rfl).trans ?_
        exact rfl
-- 100: java/lang/Integer.bitCount(I)I
set_option maxRecDepth 100000 in
set_option maxHeartbeats 4000000 in
theorem cp_100_g (d : Nat) (σ : mm_S) (x0 : Int32) : cG (d + 1) 100 [.int x0] σ = (some (((((((((x0 - (((x0).toUInt32 >>> (((1 : Int32)).toUInt32 &&& Int32.toUInt32 31)).toInt32 &&& (1431655765 : Int32))) &&& (858993459 : Int32)) + ((((x0 - (((x0).toUInt32 >>> (((1 : Int32)).toUInt32 &&& Int32.toUInt32 31)).toInt32 &&& (1431655765 : Int32)))).toUInt32 >>> (((2 : Int32)).toUInt32 &&& Int32.toUInt32 31)).toInt32 &&& (858993459 : Int32))) + (((((x0 - (((x0).toUInt32 >>> (((1 : Int32)).toUInt32 &&& Int32.toUInt32 31)).toInt32 &&& (1431655765 : Int32))) &&& (858993459 : Int32)) + ((((x0 - (((x0).toUInt32 >>> (((1 : Int32)).toUInt32 &&& Int32.toUInt32 31)).toInt32 &&& (1431655765 : Int32)))).toUInt32 >>> (((2 : Int32)).toUInt32 &&& Int32.toUInt32 31)).toInt32 &&& (858993459 : Int32)))).toUInt32 >>> (((4 : Int32)).toUInt32 &&& Int32.toUInt32 31)).toInt32) &&& (252645135 : Int32)) + (((((((x0 - (((x0).toUInt32 >>> (((1 : Int32)).toUInt32 &&& Int32.toUInt32 31)).toInt32 &&& (1431655765 : Int32))) &&& (858993459 : Int32)) + ((((x0 - (((x0).toUInt32 >>> (((1 : Int32)).toUInt32 &&& Int32.toUInt32 31)).toInt32 &&& (1431655765 : Int32)))).toUInt32 >>> (((2 : Int32)).toUInt32 &&& Int32.toUInt32 31)).toInt32 &&& (858993459 : Int32))) + (((((x0 - (((x0).toUInt32 >>> (((1 : Int32)).toUInt32 &&& Int32.toUInt32 31)).toInt32 &&& (1431655765 : Int32))) &&& (858993459 : Int32)) + ((((x0 - (((x0).toUInt32 >>> (((1 : Int32)).toUInt32 &&& Int32.toUInt32 31)).toInt32 &&& (1431655765 : Int32)))).toUInt32 >>> (((2 : Int32)).toUInt32 &&& Int32.toUInt32 31)).toInt32 &&& (858993459 : Int32)))).toUInt32 >>> (((4 : Int32)).toUInt32 &&& Int32.toUInt32 31)).toInt32) &&& (252645135 : Int32))).toUInt32 >>> (((8 : Int32)).toUInt32 &&& Int32.toUInt32 31)).toInt32) + ((((((((x0 - (((x0).toUInt32 >>> (((1 : Int32)).toUInt32 &&& Int32.toUInt32 31)).toInt32 &&& (1431655765 : Int32))) &&& (858993459 : Int32)) + ((((x0 - (((x0).toUInt32 >>> (((1 : Int32)).toUInt32 &&& Int32.toUInt32 31)).toInt32 &&& (1431655765 : Int32)))).toUInt32 >>> (((2 : Int32)).toUInt32 &&& Int32.toUInt32 31)).toInt32 &&& (858993459 : Int32))) + (((((x0 - (((x0).toUInt32 >>> (((1 : Int32)).toUInt32 &&& Int32.toUInt32 31)).toInt32 &&& (1431655765 : Int32))) &&& (858993459 : Int32)) + ((((x0 - (((x0).toUInt32 >>> (((1 : Int32)).toUInt32 &&& Int32.toUInt32 31)).toInt32 &&& (1431655765 : Int32)))).toUInt32 >>> (((2 : Int32)).toUInt32 &&& Int32.toUInt32 31)).toInt32 &&& (858993459 : Int32)))).toUInt32 >>> (((4 : Int32)).toUInt32 &&& Int32.toUInt32 31)).toInt32) &&& (252645135 : Int32)) + (((((((x0 - (((x0).toUInt32 >>> (((1 : Int32)).toUInt32 &&& Int32.toUInt32 31)).toInt32 &&& (1431655765 : Int32))) &&& (858993459 : Int32)) + ((((x0 - (((x0).toUInt32 >>> (((1 : Int32)).toUInt32 &&& Int32.toUInt32 31)).toInt32 &&& (1431655765 : Int32)))).toUInt32 >>> (((2 : Int32)).toUInt32 &&& Int32.toUInt32 31)).toInt32 &&& (858993459 : Int32))) + (((((x0 - (((x0).toUInt32 >>> (((1 : Int32)).toUInt32 &&& Int32.toUInt32 31)).toInt32 &&& (1431655765 : Int32))) &&& (858993459 : Int32)) + ((((x0 - (((x0).toUInt32 >>> (((1 : Int32)).toUInt32 &&& Int32.toUInt32 31)).toInt32 &&& (1431655765 : Int32)))).toUInt32 >>> (((2 : Int32)).toUInt32 &&& Int32.toUInt32 31)).toInt32 &&& (858993459 : Int32)))).toUInt32 >>> (((4 : Int32)).toUInt32 &&& Int32.toUInt32 31)).toInt32) &&& (252645135 : Int32))).toUInt32 >>> (((8 : Int32)).toUInt32 &&& Int32.toUInt32 31)).toInt32)).toUInt32 >>> (((16 : Int32)).toUInt32 &&& Int32.toUInt32 31)).toInt32) &&& (63 : Int32)), 0, σ)) := by
  refine (mm_entry 99999958 42 (maxL := 1) (labs := cp_100_l) (rows := cp_100_r0) (L := [.int x0]) (rk := 1) rfl rfl rfl rfl rfl rfl).trans ?_
  refine (ex_iload_n (x := x0) rfl).trans ?_
  refine (ex_iload_n (x := x0) rfl).trans ?_
  refine (ex_iconst).trans ?_
  refine (ex_iushr).trans ?_
  refine (ex_ldc_w).trans ?_
  refine (ex_iand).trans ?_
  refine (ex_isub).trans ?_
  refine (ex_istore_n (L2 := [.int (x0 - (((x0).toUInt32 >>> (((1 : Int32)).toUInt32 &&& Int32.toUInt32 31)).toInt32 &&& (1431655765 : Int32)))]) rfl).trans ?_
  refine (ex_iload_n (x := (x0 - (((x0).toUInt32 >>> (((1 : Int32)).toUInt32 &&& Int32.toUInt32 31)).toInt32 &&& (1431655765 : Int32)))) rfl).trans ?_
  refine (ex_ldc_w).trans ?_
  refine (ex_iand).trans ?_
  refine (ex_iload_n (x := (x0 - (((x0).toUInt32 >>> (((1 : Int32)).toUInt32 &&& Int32.toUInt32 31)).toInt32 &&& (1431655765 : Int32)))) rfl).trans ?_
  refine (ex_iconst).trans ?_
  refine (ex_iushr).trans ?_
  refine (ex_ldc_w).trans ?_
  refine (ex_iand).trans ?_
  refine (ex_iadd).trans ?_
  refine (ex_istore_n (L2 := [.int (((x0 - (((x0).toUInt32 >>> (((1 : Int32)).toUInt32 &&& Int32.toUInt32 31)).toInt32 &&& (1431655765 : Int32))) &&& (858993459 : Int32)) + ((((x0 - (((x0).toUInt32 >>> (((1 : Int32)).toUInt32 &&& Int32.toUInt32 31)).toInt32 &&& (1431655765 : Int32)))).toUInt32 >>> (((2 : Int32)).toUInt32 &&& Int32.toUInt32 31)).toInt32 &&& (858993459 : Int32)))]) rfl).trans ?_
  refine (ex_iload_n (x := (((x0 - (((x0).toUInt32 >>> (((1 : Int32)).toUInt32 &&& Int32.toUInt32 31)).toInt32 &&& (1431655765 : Int32))) &&& (858993459 : Int32)) + ((((x0 - (((x0).toUInt32 >>> (((1 : Int32)).toUInt32 &&& Int32.toUInt32 31)).toInt32 &&& (1431655765 : Int32)))).toUInt32 >>> (((2 : Int32)).toUInt32 &&& Int32.toUInt32 31)).toInt32 &&& (858993459 : Int32)))) rfl).trans ?_
  refine (ex_iload_n (x := (((x0 - (((x0).toUInt32 >>> (((1 : Int32)).toUInt32 &&& Int32.toUInt32 31)).toInt32 &&& (1431655765 : Int32))) &&& (858993459 : Int32)) + ((((x0 - (((x0).toUInt32 >>> (((1 : Int32)).toUInt32 &&& Int32.toUInt32 31)).toInt32 &&& (1431655765 : Int32)))).toUInt32 >>> (((2 : Int32)).toUInt32 &&& Int32.toUInt32 31)).toInt32 &&& (858993459 : Int32)))) rfl).trans ?_
  refine (ex_iconst).trans ?_
  refine (ex_iushr).trans ?_
  refine (ex_iadd).trans ?_
  refine (ex_ldc_w).trans ?_
  refine (ex_iand).trans ?_
  refine (ex_istore_n (L2 := [.int (((((x0 - (((x0).toUInt32 >>> (((1 : Int32)).toUInt32 &&& Int32.toUInt32 31)).toInt32 &&& (1431655765 : Int32))) &&& (858993459 : Int32)) + ((((x0 - (((x0).toUInt32 >>> (((1 : Int32)).toUInt32 &&& Int32.toUInt32 31)).toInt32 &&& (1431655765 : Int32)))).toUInt32 >>> (((2 : Int32)).toUInt32 &&& Int32.toUInt32 31)).toInt32 &&& (858993459 : Int32))) + (((((x0 - (((x0).toUInt32 >>> (((1 : Int32)).toUInt32 &&& Int32.toUInt32 31)).toInt32 &&& (1431655765 : Int32))) &&& (858993459 : Int32)) + ((((x0 - (((x0).toUInt32 >>> (((1 : Int32)).toUInt32 &&& Int32.toUInt32 31)).toInt32 &&& (1431655765 : Int32)))).toUInt32 >>> (((2 : Int32)).toUInt32 &&& Int32.toUInt32 31)).toInt32 &&& (858993459 : Int32)))).toUInt32 >>> (((4 : Int32)).toUInt32 &&& Int32.toUInt32 31)).toInt32) &&& (252645135 : Int32))]) rfl).trans ?_
  refine (ex_iload_n (x := (((((x0 - (((x0).toUInt32 >>> (((1 : Int32)).toUInt32 &&& Int32.toUInt32 31)).toInt32 &&& (1431655765 : Int32))) &&& (858993459 : Int32)) + ((((x0 - (((x0).toUInt32 >>> (((1 : Int32)).toUInt32 &&& Int32.toUInt32 31)).toInt32 &&& (1431655765 : Int32)))).toUInt32 >>> (((2 : Int32)).toUInt32 &&& Int32.toUInt32 31)).toInt32 &&& (858993459 : Int32))) + (((((x0 - (((x0).toUInt32 >>> (((1 : Int32)).toUInt32 &&& Int32.toUInt32 31)).toInt32 &&& (1431655765 : Int32))) &&& (858993459 : Int32)) + ((((x0 - (((x0).toUInt32 >>> (((1 : Int32)).toUInt32 &&& Int32.toUInt32 31)).toInt32 &&& (1431655765 : Int32)))).toUInt32 >>> (((2 : Int32)).toUInt32 &&& Int32.toUInt32 31)).toInt32 &&& (858993459 : Int32)))).toUInt32 >>> (((4 : Int32)).toUInt32 &&& Int32.toUInt32 31)).toInt32) &&& (252645135 : Int32))) rfl).trans ?_
  refine (ex_iload_n (x := (((((x0 - (((x0).toUInt32 >>> (((1 : Int32)).toUInt32 &&& Int32.toUInt32 31)).toInt32 &&& (1431655765 : Int32))) &&& (858993459 : Int32)) + ((((x0 - (((x0).toUInt32 >>> (((1 : Int32)).toUInt32 &&& Int32.toUInt32 31)).toInt32 &&& (1431655765 : Int32)))).toUInt32 >>> (((2 : Int32)).toUInt32 &&& Int32.toUInt32 31)).toInt32 &&& (858993459 : Int32))) + (((((x0 - (((x0).toUInt32 >>> (((1 : Int32)).toUInt32 &&& Int32.toUInt32 31)).toInt32 &&& (1431655765 : Int32))) &&& (858993459 : Int32)) + ((((x0 - (((x0).toUInt32 >>> (((1 : Int32)).toUInt32 &&& Int32.toUInt32 31)).toInt32 &&& (1431655765 : Int32)))).toUInt32 >>> (((2 : Int32)).toUInt32 &&& Int32.toUInt32 31)).toInt32 &&& (858993459 : Int32)))).toUInt32 >>> (((4 : Int32)).toUInt32 &&& Int32.toUInt32 31)).toInt32) &&& (252645135 : Int32))) rfl).trans ?_
  refine (ex_bipush).trans ?_
  refine (ex_iushr).trans ?_
  refine (ex_iadd).trans ?_
  refine (ex_istore_n (L2 := [.int ((((((x0 - (((x0).toUInt32 >>> (((1 : Int32)).toUInt32 &&& Int32.toUInt32 31)).toInt32 &&& (1431655765 : Int32))) &&& (858993459 : Int32)) + ((((x0 - (((x0).toUInt32 >>> (((1 : Int32)).toUInt32 &&& Int32.toUInt32 31)).toInt32 &&& (1431655765 : Int32)))).toUInt32 >>> (((2 : Int32)).toUInt32 &&& Int32.toUInt32 31)).toInt32 &&& (858993459 : Int32))) + (((((x0 - (((x0).toUInt32 >>> (((1 : Int32)).toUInt32 &&& Int32.toUInt32 31)).toInt32 &&& (1431655765 : Int32))) &&& (858993459 : Int32)) + ((((x0 - (((x0).toUInt32 >>> (((1 : Int32)).toUInt32 &&& Int32.toUInt32 31)).toInt32 &&& (1431655765 : Int32)))).toUInt32 >>> (((2 : Int32)).toUInt32 &&& Int32.toUInt32 31)).toInt32 &&& (858993459 : Int32)))).toUInt32 >>> (((4 : Int32)).toUInt32 &&& Int32.toUInt32 31)).toInt32) &&& (252645135 : Int32)) + (((((((x0 - (((x0).toUInt32 >>> (((1 : Int32)).toUInt32 &&& Int32.toUInt32 31)).toInt32 &&& (1431655765 : Int32))) &&& (858993459 : Int32)) + ((((x0 - (((x0).toUInt32 >>> (((1 : Int32)).toUInt32 &&& Int32.toUInt32 31)).toInt32 &&& (1431655765 : Int32)))).toUInt32 >>> (((2 : Int32)).toUInt32 &&& Int32.toUInt32 31)).toInt32 &&& (858993459 : Int32))) + (((((x0 - (((x0).toUInt32 >>> (((1 : Int32)).toUInt32 &&& Int32.toUInt32 31)).toInt32 &&& (1431655765 : Int32))) &&& (858993459 : Int32)) + ((((x0 - (((x0).toUInt32 >>> (((1 : Int32)).toUInt32 &&& Int32.toUInt32 31)).toInt32 &&& (1431655765 : Int32)))).toUInt32 >>> (((2 : Int32)).toUInt32 &&& Int32.toUInt32 31)).toInt32 &&& (858993459 : Int32)))).toUInt32 >>> (((4 : Int32)).toUInt32 &&& Int32.toUInt32 31)).toInt32) &&& (252645135 : Int32))).toUInt32 >>> (((8 : Int32)).toUInt32 &&& Int32.toUInt32 31)).toInt32)]) rfl).trans ?_
  refine (ex_iload_n (x := ((((((x0 - (((x0).toUInt32 >>> (((1 : Int32)).toUInt32 &&& Int32.toUInt32 31)).toInt32 &&& (1431655765 : Int32))) &&& (858993459 : Int32)) + ((((x0 - (((x0).toUInt32 >>> (((1 : Int32)).toUInt32 &&& Int32.toUInt32 31)).toInt32 &&& (1431655765 : Int32)))).toUInt32 >>> (((2 : Int32)).toUInt32 &&& Int32.toUInt32 31)).toInt32 &&& (858993459 : Int32))) + (((((x0 - (((x0).toUInt32 >>> (((1 : Int32)).toUInt32 &&& Int32.toUInt32 31)).toInt32 &&& (1431655765 : Int32))) &&& (858993459 : Int32)) + ((((x0 - (((x0).toUInt32 >>> (((1 : Int32)).toUInt32 &&& Int32.toUInt32 31)).toInt32 &&& (1431655765 : Int32)))).toUInt32 >>> (((2 : Int32)).toUInt32 &&& Int32.toUInt32 31)).toInt32 &&& (858993459 : Int32)))).toUInt32 >>> (((4 : Int32)).toUInt32 &&& Int32.toUInt32 31)).toInt32) &&& (252645135 : Int32)) + (((((((x0 - (((x0).toUInt32 >>> (((1 : Int32)).toUInt32 &&& Int32.toUInt32 31)).toInt32 &&& (1431655765 : Int32))) &&& (858993459 : Int32)) + ((((x0 - (((x0).toUInt32 >>> (((1 : Int32)).toUInt32 &&& Int32.toUInt32 31)).toInt32 &&& (1431655765 : Int32)))).toUInt32 >>> (((2 : Int32)).toUInt32 &&& Int32.toUInt32 31)).toInt32 &&& (858993459 : Int32))) + (((((x0 - (((x0).toUInt32 >>> (((1 : Int32)).toUInt32 &&& Int32.toUInt32 31)).toInt32 &&& (1431655765 : Int32))) &&& (858993459 : Int32)) + ((((x0 - (((x0).toUInt32 >>> (((1 : Int32)).toUInt32 &&& Int32.toUInt32 31)).toInt32 &&& (1431655765 : Int32)))).toUInt32 >>> (((2 : Int32)).toUInt32 &&& Int32.toUInt32 31)).toInt32 &&& (858993459 : Int32)))).toUInt32 >>> (((4 : Int32)).toUInt32 &&& Int32.toUInt32 31)).toInt32) &&& (252645135 : Int32))).toUInt32 >>> (((8 : Int32)).toUInt32 &&& Int32.toUInt32 31)).toInt32)) rfl).trans ?_
  refine (ex_iload_n (x := ((((((x0 - (((x0).toUInt32 >>> (((1 : Int32)).toUInt32 &&& Int32.toUInt32 31)).toInt32 &&& (1431655765 : Int32))) &&& (858993459 : Int32)) + ((((x0 - (((x0).toUInt32 >>> (((1 : Int32)).toUInt32 &&& Int32.toUInt32 31)).toInt32 &&& (1431655765 : Int32)))).toUInt32 >>> (((2 : Int32)).toUInt32 &&& Int32.toUInt32 31)).toInt32 &&& (858993459 : Int32))) + (((((x0 - (((x0).toUInt32 >>> (((1 : Int32)).toUInt32 &&& Int32.toUInt32 31)).toInt32 &&& (1431655765 : Int32))) &&& (858993459 : Int32)) + ((((x0 - (((x0).toUInt32 >>> (((1 : Int32)).toUInt32 &&& Int32.toUInt32 31)).toInt32 &&& (1431655765 : Int32)))).toUInt32 >>> (((2 : Int32)).toUInt32 &&& Int32.toUInt32 31)).toInt32 &&& (858993459 : Int32)))).toUInt32 >>> (((4 : Int32)).toUInt32 &&& Int32.toUInt32 31)).toInt32) &&& (252645135 : Int32)) + (((((((x0 - (((x0).toUInt32 >>> (((1 : Int32)).toUInt32 &&& Int32.toUInt32 31)).toInt32 &&& (1431655765 : Int32))) &&& (858993459 : Int32)) + ((((x0 - (((x0).toUInt32 >>> (((1 : Int32)).toUInt32 &&& Int32.toUInt32 31)).toInt32 &&& (1431655765 : Int32)))).toUInt32 >>> (((2 : Int32)).toUInt32 &&& Int32.toUInt32 31)).toInt32 &&& (858993459 : Int32))) + (((((x0 - (((x0).toUInt32 >>> (((1 : Int32)).toUInt32 &&& Int32.toUInt32 31)).toInt32 &&& (1431655765 : Int32))) &&& (858993459 : Int32)) + ((((x0 - (((x0).toUInt32 >>> (((1 : Int32)).toUInt32 &&& Int32.toUInt32 31)).toInt32 &&& (1431655765 : Int32)))).toUInt32 >>> (((2 : Int32)).toUInt32 &&& Int32.toUInt32 31)).toInt32 &&& (858993459 : Int32)))).toUInt32 >>> (((4 : Int32)).toUInt32 &&& Int32.toUInt32 31)).toInt32) &&& (252645135 : Int32))).toUInt32 >>> (((8 : Int32)).toUInt32 &&& Int32.toUInt32 31)).toInt32)) rfl).trans ?_
  refine (ex_bipush).trans ?_
  refine (ex_iushr).trans ?_
  refine (ex_iadd).trans ?_
  refine (ex_istore_n (L2 := [.int (((((((x0 - (((x0).toUInt32 >>> (((1 : Int32)).toUInt32 &&& Int32.toUInt32 31)).toInt32 &&& (1431655765 : Int32))) &&& (858993459 : Int32)) + ((((x0 - (((x0).toUInt32 >>> (((1 : Int32)).toUInt32 &&& Int32.toUInt32 31)).toInt32 &&& (1431655765 : Int32)))).toUInt32 >>> (((2 : Int32)).toUInt32 &&& Int32.toUInt32 31)).toInt32 &&& (858993459 : Int32))) + (((((x0 - (((x0).toUInt32 >>> (((1 : Int32)).toUInt32 &&& Int32.toUInt32 31)).toInt32 &&& (1431655765 : Int32))) &&& (858993459 : Int32)) + ((((x0 - (((x0).toUInt32 >>> (((1 : Int32)).toUInt32 &&& Int32.toUInt32 31)).toInt32 &&& (1431655765 : Int32)))).toUInt32 >>> (((2 : Int32)).toUInt32 &&& Int32.toUInt32 31)).toInt32 &&& (858993459 : Int32)))).toUInt32 >>> (((4 : Int32)).toUInt32 &&& Int32.toUInt32 31)).toInt32) &&& (252645135 : Int32)) + (((((((x0 - (((x0).toUInt32 >>> (((1 : Int32)).toUInt32 &&& Int32.toUInt32 31)).toInt32 &&& (1431655765 : Int32))) &&& (858993459 : Int32)) + ((((x0 - (((x0).toUInt32 >>> (((1 : Int32)).toUInt32 &&& Int32.toUInt32 31)).toInt32 &&& (1431655765 : Int32)))).toUInt32 >>> (((2 : Int32)).toUInt32 &&& Int32.toUInt32 31)).toInt32 &&& (858993459 : Int32))) + (((((x0 - (((x0).toUInt32 >>> (((1 : Int32)).toUInt32 &&& Int32.toUInt32 31)).toInt32 &&& (1431655765 : Int32))) &&& (858993459 : Int32)) + ((((x0 - (((x0).toUInt32 >>> (((1 : Int32)).toUInt32 &&& Int32.toUInt32 31)).toInt32 &&& (1431655765 : Int32)))).toUInt32 >>> (((2 : Int32)).toUInt32 &&& Int32.toUInt32 31)).toInt32 &&& (858993459 : Int32)))).toUInt32 >>> (((4 : Int32)).toUInt32 &&& Int32.toUInt32 31)).toInt32) &&& (252645135 : Int32))).toUInt32 >>> (((8 : Int32)).toUInt32 &&& Int32.toUInt32 31)).toInt32) + ((((((((x0 - (((x0).toUInt32 >>> (((1 : Int32)).toUInt32 &&& Int32.toUInt32 31)).toInt32 &&& (1431655765 : Int32))) &&& (858993459 : Int32)) + ((((x0 - (((x0).toUInt32 >>> (((1 : Int32)).toUInt32 &&& Int32.toUInt32 31)).toInt32 &&& (1431655765 : Int32)))).toUInt32 >>> (((2 : Int32)).toUInt32 &&& Int32.toUInt32 31)).toInt32 &&& (858993459 : Int32))) + (((((x0 - (((x0).toUInt32 >>> (((1 : Int32)).toUInt32 &&& Int32.toUInt32 31)).toInt32 &&& (1431655765 : Int32))) &&& (858993459 : Int32)) + ((((x0 - (((x0).toUInt32 >>> (((1 : Int32)).toUInt32 &&& Int32.toUInt32 31)).toInt32 &&& (1431655765 : Int32)))).toUInt32 >>> (((2 : Int32)).toUInt32 &&& Int32.toUInt32 31)).toInt32 &&& (858993459 : Int32)))).toUInt32 >>> (((4 : Int32)).toUInt32 &&& Int32.toUInt32 31)).toInt32) &&& (252645135 : Int32)) + (((((((x0 - (((x0).toUInt32 >>> (((1 : Int32)).toUInt32 &&& Int32.toUInt32 31)).toInt32 &&& (1431655765 : Int32))) &&& (858993459 : Int32)) + ((((x0 - (((x0).toUInt32 >>> (((1 : Int32)).toUInt32 &&& Int32.toUInt32 31)).toInt32 &&& (1431655765 : Int32)))).toUInt32 >>> (((2 : Int32)).toUInt32 &&& Int32.toUInt32 31)).toInt32 &&& (858993459 : Int32))) + (((((x0 - (((x0).toUInt32 >>> (((1 : Int32)).toUInt32 &&& Int32.toUInt32 31)).toInt32 &&& (1431655765 : Int32))) &&& (858993459 : Int32)) + ((((x0 - (((x0).toUInt32 >>> (((1 : Int32)).toUInt32 &&& Int32.toUInt32 31)).toInt32 &&& (1431655765 : Int32)))).toUInt32 >>> (((2 : Int32)).toUInt32 &&& Int32.toUInt32 31)).toInt32 &&& (858993459 : Int32)))).toUInt32 >>> (((4 : Int32)).toUInt32 &&& Int32.toUInt32 31)).toInt32) &&& (252645135 : Int32))).toUInt32 >>> (((8 : Int32)).toUInt32 &&& Int32.toUInt32 31)).toInt32)).toUInt32 >>> (((16 : Int32)).toUInt32 &&& Int32.toUInt32 31)).toInt32)]) rfl).trans ?_
  refine (ex_iload_n (x := (((((((x0 - (((x0).toUInt32 >>> (((1 : Int32)).toUInt32 &&& Int32.toUInt32 31)).toInt32 &&& (1431655765 : Int32))) &&& (858993459 : Int32)) + ((((x0 - (((x0).toUInt32 >>> (((1 : Int32)).toUInt32 &&& Int32.toUInt32 31)).toInt32 &&& (1431655765 : Int32)))).toUInt32 >>> (((2 : Int32)).toUInt32 &&& Int32.toUInt32 31)).toInt32 &&& (858993459 : Int32))) + (((((x0 - (((x0).toUInt32 >>> (((1 : Int32)).toUInt32 &&& Int32.toUInt32 31)).toInt32 &&& (1431655765 : Int32))) &&& (858993459 : Int32)) + ((((x0 - (((x0).toUInt32 >>> (((1 : Int32)).toUInt32 &&& Int32.toUInt32 31)).toInt32 &&& (1431655765 : Int32)))).toUInt32 >>> (((2 : Int32)).toUInt32 &&& Int32.toUInt32 31)).toInt32 &&& (858993459 : Int32)))).toUInt32 >>> (((4 : Int32)).toUInt32 &&& Int32.toUInt32 31)).toInt32) &&& (252645135 : Int32)) + (((((((x0 - (((x0).toUInt32 >>> (((1 : Int32)).toUInt32 &&& Int32.toUInt32 31)).toInt32 &&& (1431655765 : Int32))) &&& (858993459 : Int32)) + ((((x0 - (((x0).toUInt32 >>> (((1 : Int32)).toUInt32 &&& Int32.toUInt32 31)).toInt32 &&& (1431655765 : Int32)))).toUInt32 >>> (((2 : Int32)).toUInt32 &&& Int32.toUInt32 31)).toInt32 &&& (858993459 : Int32))) + (((((x0 - (((x0).toUInt32 >>> (((1 : Int32)).toUInt32 &&& Int32.toUInt32 31)).toInt32 &&& (1431655765 : Int32))) &&& (858993459 : Int32)) + ((((x0 - (((x0).toUInt32 >>> (((1 : Int32)).toUInt32 &&& Int32.toUInt32 31)).toInt32 &&& (1431655765 : Int32)))).toUInt32 >>> (((2 : Int32)).toUInt32 &&& Int32.toUInt32 31)).toInt32 &&& (858993459 : Int32)))).toUInt32 >>> (((4 : Int32)).toUInt32 &&& Int32.toUInt32 31)).toInt32) &&& (252645135 : Int32))).toUInt32 >>> (((8 : Int32)).toUInt32 &&& Int32.toUInt32 31)).toInt32) + ((((((((x0 - (((x0).toUInt32 >>> (((1 : Int32)).toUInt32 &&& Int32.toUInt32 31)).toInt32 &&& (1431655765 : Int32))) &&& (858993459 : Int32)) + ((((x0 - (((x0).toUInt32 >>> (((1 : Int32)).toUInt32 &&& Int32.toUInt32 31)).toInt32 &&& (1431655765 : Int32)))).toUInt32 >>> (((2 : Int32)).toUInt32 &&& Int32.toUInt32 31)).toInt32 &&& (858993459 : Int32))) + (((((x0 - (((x0).toUInt32 >>> (((1 : Int32)).toUInt32 &&& Int32.toUInt32 31)).toInt32 &&& (1431655765 : Int32))) &&& (858993459 : Int32)) + ((((x0 - (((x0).toUInt32 >>> (((1 : Int32)).toUInt32 &&& Int32.toUInt32 31)).toInt32 &&& (1431655765 : Int32)))).toUInt32 >>> (((2 : Int32)).toUInt32 &&& Int32.toUInt32 31)).toInt32 &&& (858993459 : Int32)))).toUInt32 >>> (((4 : Int32)).toUInt32 &&& Int32.toUInt32 31)).toInt32) &&& (252645135 : Int32)) + (((((((x0 - (((x0).toUInt32 >>> (((1 : Int32)).toUInt32 &&& Int32.toUInt32 31)).toInt32 &&& (1431655765 : Int32))) &&& (858993459 : Int32)) + ((((x0 - (((x0).toUInt32 >>> (((1 : Int32)).toUInt32 &&& Int32.toUInt32 31)).toInt32 &&& (1431655765 : Int32)))).toUInt32 >>> (((2 : Int32)).toUInt32 &&& Int32.toUInt32 31)).toInt32 &&& (858993459 : Int32))) + (((((x0 - (((x0).toUInt32 >>> (((1 : Int32)).toUInt32 &&& Int32.toUInt32 31)).toInt32 &&& (1431655765 : Int32))) &&& (858993459 : Int32)) + ((((x0 - (((x0).toUInt32 >>> (((1 : Int32)).toUInt32 &&& Int32.toUInt32 31)).toInt32 &&& (1431655765 : Int32)))).toUInt32 >>> (((2 : Int32)).toUInt32 &&& Int32.toUInt32 31)).toInt32 &&& (858993459 : Int32)))).toUInt32 >>> (((4 : Int32)).toUInt32 &&& Int32.toUInt32 31)).toInt32) &&& (252645135 : Int32))).toUInt32 >>> (((8 : Int32)).toUInt32 &&& Int32.toUInt32 31)).toInt32)).toUInt32 >>> (((16 : Int32)).toUInt32 &&& Int32.toUInt32 31)).toInt32)) rfl).trans ?_
  refine (ex_bipush).trans ?_
  refine (ex_iand).trans ?_
  exact ex_ireturn
