/-! THE REFERENCE, stretch by stretch, as pure equations (by program) -/
-- 25: WiringContainerModel.candidates(II)I
set_option maxRecDepth 100000 in
set_option maxHeartbeats 4000000 in
theorem rp_25_g (d : Nat) (σ : mm_S) (x1 : Int32) (x2 : Int32) : rG (d + 1) 25 [.ref 0, .int x1, .int x2] σ = ((rG d 1 [.ref 0, .int x1] σ).bind fun u1 => (if u1.1 = 0 then (some ((-1 : Int32), 0, u1.2.2)) else ((rG d 3 [.int x2] u1.2.2).bind fun u2 => (if u2.1 = 0 then (some ((-1 : Int32), 0, u2.2.2)) else ((rG d 19 [.ref 0, .int x1, .int x2] u2.2.2).bind fun u3 => ((rG d 20 [.int u3.1] u3.2.2).bind fun u4 => (some (u4.1, 0, u4.2.2)))))))) := by
  refine (mm_entry 99999985 15 (maxL := 4) (labs := rp_25_l) (rows := rp_25_r0) (L := [.ref 0, .int x1, .int x2, .null]) (rk := 1) rfl rfl rfl rfl rfl rfl).trans ?_
  refine (ex_aload_n (x := 0) rfl).trans ?_
  refine (ex_iload_n (x := x1) rfl).trans ?_
  refine (ex_inv_z (As := [.ref 0, .int x1]) (rest := []) rfl rfl).trans (ex_bnd fun u1 => ?_)
  refine (ex_if_eq (p := 15) (q := rp_25_r1) rfl).trans (ex_ite ?_ ?_)
  · refine (ex_iconst).trans ?_
    exact ex_ireturn
  · refine (ex_iload_n (x := x2) rfl).trans ?_
    refine (ex_sta_z (As := [.int x2]) (rest := []) (by decide) (by decide) rfl rfl).trans (ex_bnd fun u2 => ?_)
    refine (ex_if_ne (p := 17) (q := rp_25_r2) rfl).trans (ex_ite ?_ ?_)
    · refine (ex_iconst).trans ?_
      exact ex_ireturn
    · refine (ex_aload_n (x := 0) rfl).trans ?_
      refine (ex_iload_n (x := x1) rfl).trans ?_
      refine (ex_iload_n (x := x2) rfl).trans ?_
      refine (ex_inv_i (As := [.ref 0, .int x1, .int x2]) (rest := []) rfl rfl).trans (ex_bnd fun u3 => ?_)
      refine (ex_istore_n (L2 := [.ref 0, .int x1, .int x2, .int u3.1]) rfl).trans ?_
      refine (ex_iload_n (x := u3.1) rfl).trans ?_
      refine (ex_sta_i (As := [.int u3.1]) (rest := []) (by decide) (by decide) rfl rfl).trans (ex_bnd fun u4 => ?_)
      exact ex_ireturn
-- 26: WiringContainerModel.resolve(II)I
set_option maxRecDepth 100000 in
set_option maxHeartbeats 4000000 in
theorem rp_26_g (d : Nat) (σ : mm_S) (x1 : Int32) (x2 : Int32) : rG (d + 1) 26 [.ref 0, .int x1, .int x2] σ = ((rG d 1 [.ref 0, .int x1] σ).bind fun u1 => (if u1.1 = 0 then (some ((-1 : Int32), 0, u1.2.2)) else ((rG d 3 [.int x2] u1.2.2).bind fun u2 => (if u2.1 = 0 then (some ((-1 : Int32), 0, u2.2.2)) else ((rG d 22 [.ref 0, .int x1, .int x2] u2.2.2).bind fun u3 => (some (u3.1, 0, u3.2.2))))))) := by
  refine (mm_entry 99999988 12 (maxL := 3) (labs := rp_26_l) (rows := rp_26_r0) (L := [.ref 0, .int x1, .int x2]) (rk := 1) rfl rfl rfl rfl rfl rfl).trans ?_
  refine (ex_aload_n (x := 0) rfl).trans ?_
  refine (ex_iload_n (x := x1) rfl).trans ?_
  refine (ex_inv_z (As := [.ref 0, .int x1]) (rest := []) rfl rfl).trans (ex_bnd fun u1 => ?_)
  refine (ex_if_eq (p := 15) (q := rp_26_r1) rfl).trans (ex_ite ?_ ?_)
  · refine (ex_iconst).trans ?_
    exact ex_ireturn
  · refine (ex_iload_n (x := x2) rfl).trans ?_
    refine (ex_sta_z (As := [.int x2]) (rest := []) (by decide) (by decide) rfl rfl).trans (ex_bnd fun u2 => ?_)
    refine (ex_if_ne (p := 17) (q := rp_26_r2) rfl).trans (ex_ite ?_ ?_)
    · refine (ex_iconst).trans ?_
      exact ex_ireturn
    · refine (ex_aload_n (x := 0) rfl).trans ?_
      refine (ex_iload_n (x := x1) rfl).trans ?_
      refine (ex_iload_n (x := x2) rfl).trans ?_
      refine (ex_inv_i (As := [.ref 0, .int x1, .int x2]) (rest := []) rfl rfl).trans (ex_bnd fun u3 => ?_)
      exact ex_ireturn
-- 27: WiringContainerModel.hasVariable(I)Z
set_option maxRecDepth 100000 in
set_option maxHeartbeats 4000000 in
theorem rp_27_g (d : Nat) (σ : mm_S) (x1 : Int32) : rG (d + 1) 27 [.ref 0, .int x1] σ = (mm_ex sr (rG d) 3 rp_27_l (99999998 + 0) rp_27_r1 [.ref 0, .int x1, .int (0 : Int32)] [] σ) := by
  refine (mm_entry 99999998 2 (maxL := 3) (labs := rp_27_l) (rows := rp_27_r0) (L := [.ref 0, .int x1, .null]) (rk := 3) rfl rfl rfl rfl rfl rfl).trans ?_
  refine (ex_iconst).trans ?_
  refine (ex_istore_n (L2 := [.ref 0, .int x1, .int (0 : Int32)]) rfl).trans ?_
  exact rfl
set_option maxRecDepth 100000 in
set_option maxHeartbeats 4000000 in
theorem rp_27_h1 (d n : Nat) (σ : mm_S) (x1 : Int32) (x2 : Int32) : mm_ex sr (rG d) 3 rp_27_l (n + 17) rp_27_r1 [.ref 0, .int x1, .int x2] [] σ = (if (4 : Int32) ≤ x2 then (some ((0 : Int32), 0, σ)) else (if mm_in x1 16 then (if (((σ.1 5 (x1).toNatClampNeg) >>> (((5 : Int32) * x2) &&& 31)) &&& (31 : Int32)) = (31 : Int32) then (some ((1 : Int32), 0, σ)) else (mm_ex sr (rG d) 3 rp_27_l (n + 0) rp_27_r1 [.ref 0, .int x1, .int (x2 + (1 : Int32))] [] σ)) else none)) := by
  refine (ex_iload_n (x := x2) rfl).trans ?_
  refine (ex_iconst).trans ?_
  refine (ex_ic_ge (p := 33) (q := rp_27_r3) rfl).trans (ex_ite ?_ ?_)
  · refine (ex_iconst).trans ?_
    exact ex_zreturn0
  · refine (ex_aload_n (x := 0) rfl).trans ?_
    refine (ex_get (u := .ref 5) rfl).trans ?_
    refine (ex_iload_n (x := x1) rfl).trans ?_
    refine (ex_iaload (z := 16) rfl).trans (ex_ite ?_ rfl)
    refine (ex_iconst).trans ?_
    refine (ex_iload_n (x := x2) rfl).trans ?_
    refine (ex_imul).trans ?_
    refine (ex_ishr).trans ?_
    refine (ex_bipush).trans ?_
    refine (ex_iand).trans ?_
    refine (ex_bipush).trans ?_
    refine (ex_ic_ne (p := 27) (q := rp_27_r2) rfl).trans (ex_ite ?_ ?_)
    · refine (ex_iconst).trans ?_
      exact ex_zreturn1
    · refine (ex_iinc (L2 := [.ref 0, .int x1, .int (x2 + (1 : Int32))]) rfl rfl).trans ?_
      refine (ex_goto (p := 2) (q := rp_27_r1) rfl).trans ?_
      exact rfl
-- 28: WiringContainerModel.judge(I)I
set_option maxRecDepth 100000 in
set_option maxHeartbeats 4000000 in
theorem rp_28_g (d : Nat) (σ : mm_S) (x1 : Int32) : rG (d + 1) 28 [.ref 0, .int x1] σ = (if mm_in x1 16 then (if (σ.1 7 (x1).toNatClampNeg) = 0 then (mm_ex sr (rG d) 1 rp_28_l (99999989 + 6) rp_28_r1 [.ref 0, .int x1, .null, .null, .null] [] σ) else ((rG d 27 [.ref 0, .int x1] σ).bind fun u1 => (if u1.1 = 0 then (mm_ex sr (rG d) 1 rp_28_l (99999989 + 2) rp_28_r1 [.ref 0, .int x1, .null, .null, .null] [] u1.2.2) else (mm_ex sr (rG d) 1 rp_28_l (99999989 + 0) rp_28_r2 [.ref 0, .int x1, .null, .null, .null] [.int (1 : Int32)] u1.2.2)))) else none) := by
  refine (mm_entry 99999989 11 (maxL := 5) (labs := rp_28_l) (rows := rp_28_r0) (L := [.ref 0, .int x1, .null, .null, .null]) (rk := 1) rfl rfl rfl rfl rfl rfl).trans ?_
  refine (ex_aload_n (x := 0) rfl).trans ?_
  refine (ex_get (u := .ref 7) rfl).trans ?_
  refine (ex_iload_n (x := x1) rfl).trans ?_
  refine (ex_iaload (z := 16) rfl).trans (ex_ite ?_ rfl)
  refine (ex_if_eq (p := 21) (q := rp_28_r1) rfl).trans (ex_ite ?_ ?_)
  · exact rfl
  · refine (ex_aload_n (x := 0) rfl).trans ?_
    refine (ex_iload_n (x := x1) rfl).trans ?_
    refine (ex_inv_z (As := [.ref 0, .int x1]) (rest := []) rfl rfl).trans (ex_bnd fun u1 => ?_)
    refine (ex_if_eq (p := 21) (q := rp_28_r1) rfl).trans (ex_ite ?_ ?_)
    · exact rfl
    · refine (ex_iconst).trans ?_
      refine (ex_goto (p := 22) (q := rp_28_r2) rfl).trans ?_
      exact rfl
set_option maxRecDepth 100000 in
set_option maxHeartbeats 4000000 in
theorem rp_28_h1 (d n : Nat) (σ : mm_S) (x1 : Int32) : mm_ex sr (rG d) 1 rp_28_l (n + 1) rp_28_r1 [.ref 0, .int x1, .null, .null, .null] [] σ = (mm_ex sr (rG d) 1 rp_28_l (n + 0) rp_28_r2 [.ref 0, .int x1, .null, .null, .null] [.int (0 : Int32)] σ) := by
  refine (ex_iconst).trans ?_
  exact rfl
set_option maxRecDepth 100000 in
set_option maxHeartbeats 4000000 in
theorem rp_28_h2 (d n : Nat) (σ : mm_S) (x1 : Int32) (xs0 : Int32) : mm_ex sr (rG d) 1 rp_28_l (n + 16) rp_28_r2 [.ref 0, .int x1, .null, .null, .null] [.int xs0] σ = (if mm_in x1 16 then (if (σ.1 9 (x1).toNatClampNeg) < 0 then (mm_ex sr (rG d) 1 rp_28_l (n + 6) rp_28_r4 [.ref 0, .int x1, .int xs0, .null, .null] [.int (0 : Int32), .int x1, .ref 15] σ) else (if mm_in x1 16 then (mm_ex sr (rG d) 1 rp_28_l (n + 0) rp_28_r4 [.ref 0, .int x1, .int xs0, .null, .null] [.int ((1 : Int32) <<< ((σ.1 9 (x1).toNatClampNeg) &&& 31)), .int x1, .ref 15] σ) else none)) else none) := by
  refine (ex_istore_n (L2 := [.ref 0, .int x1, .int xs0, .null, .null]) rfl).trans ?_
  refine (ex_aload_n (x := 0) rfl).trans ?_
  refine (ex_get (u := .ref 15) rfl).trans ?_
  refine (ex_iload_n (x := x1) rfl).trans ?_
  refine (ex_aload_n (x := 0) rfl).trans ?_
  refine (ex_get (u := .ref 9) rfl).trans ?_
  refine (ex_iload_n (x := x1) rfl).trans ?_
  refine (ex_iaload (z := 16) rfl).trans (ex_ite ?_ rfl)
  refine (ex_if_lt (p := 48) (q := rp_28_r3) rfl).trans (ex_ite ?_ ?_)
  · refine (ex_iconst).trans ?_
    exact rfl
  · refine (ex_iconst).trans ?_
    refine (ex_aload_n (x := 0) rfl).trans ?_
    refine (ex_get (u := .ref 9) rfl).trans ?_
    refine (ex_iload_n (x := x1) rfl).trans ?_
    refine (ex_iaload (z := 16) rfl).trans (ex_ite ?_ rfl)
    refine (ex_ishl).trans ?_
    refine (ex_goto (p := 49) (q := rp_28_r4) rfl).trans ?_
    exact rfl
set_option maxRecDepth 100000 in
set_option maxHeartbeats 4000000 in
theorem rp_28_h4 (d n : Nat) (σ : mm_S) (x1 : Int32) (x2 : Int32) (xs0 : Int32) (xs1 : Int32) : mm_ex sr (rG d) 1 rp_28_l (n + 5) rp_28_r4 [.ref 0, .int x1, .int x2, .null, .null] [.int xs0, .int xs1, .ref 15] σ = (if mm_in xs1 16 then (mm_ex sr (rG d) 1 rp_28_l (n + 0) rp_28_r5 [.ref 0, .int x1, .int x2, .int ((3 : Int32) * x1), .null] [] ((mm_w σ.1 15 (xs1).toNatClampNeg xs0), σ.2)) else none) := by
  refine (ex_iastore (z := 16) rfl).trans (ex_ite ?_ rfl)
  refine (ex_iconst).trans ?_
  refine (ex_iload_n (x := x1) rfl).trans ?_
  refine (ex_imul).trans ?_
  refine (ex_istore_n (L2 := [.ref 0, .int x1, .int x2, .int ((3 : Int32) * x1), .null]) rfl).trans ?_
  exact rfl
set_option maxRecDepth 100000 in
set_option maxHeartbeats 4000000 in
theorem rp_28_h5 (d n : Nat) (σ : mm_S) (x1 : Int32) (x2 : Int32) (x3 : Int32) : mm_ex sr (rG d) 1 rp_28_l (n + 35) rp_28_r5 [.ref 0, .int x1, .int x2, .int x3, .null] [] σ = (if mm_in x1 16 then (if (((3 : Int32) * x1) + (σ.1 11 (x1).toNatClampNeg)) ≤ x3 then (some (x2, 0, σ)) else (if mm_in x3 48 then (if mm_in x3 48 then ((rG d 22 [.ref 0, .int (σ.1 12 (x3).toNatClampNeg), .int (σ.1 13 (x3).toNatClampNeg)] σ).bind fun u1 => (if mm_in x3 48 then (if u1.1 = (-4 : Int32) then (mm_ex sr (rG d) 1 rp_28_l (n + 3) rp_28_r8 [.ref 0, .int x1, .int x2, .int x3, .int u1.1] [.int (2 : Int32), .int x2] ((mm_w u1.2.2.1 14 (x3).toNatClampNeg u1.1), u1.2.2.2)) else (if u1.1 = (-5 : Int32) then (mm_ex sr (rG d) 1 rp_28_l (n + 0) rp_28_r8 [.ref 0, .int x1, .int x2, .int x3, .int u1.1] [.int (4 : Int32), .int x2] ((mm_w u1.2.2.1 14 (x3).toNatClampNeg u1.1), u1.2.2.2)) else (mm_ex sr (rG d) 1 rp_28_l (n + 1) rp_28_r8 [.ref 0, .int x1, .int x2, .int x3, .int u1.1] [.int (0 : Int32), .int x2] ((mm_w u1.2.2.1 14 (x3).toNatClampNeg u1.1), u1.2.2.2)))) else none)) else none) else none)) else none) := by
  refine (ex_iload_n (x := x3) rfl).trans ?_
  refine (ex_iconst).trans ?_
  refine (ex_iload_n (x := x1) rfl).trans ?_
  refine (ex_imul).trans ?_
  refine (ex_aload_n (x := 0) rfl).trans ?_
  refine (ex_get (u := .ref 11) rfl).trans ?_
  refine (ex_iload_n (x := x1) rfl).trans ?_
  refine (ex_iaload (z := 16) rfl).trans (ex_ite ?_ rfl)
  refine (ex_iadd).trans ?_
  refine (ex_ic_ge (p := 195) (q := rp_28_r11) rfl).trans (ex_ite ?_ ?_)
  · refine (ex_iload_n (x := x2) rfl).trans ?_
    exact ex_ireturn
  · refine (ex_aload_n (x := 0) rfl).trans ?_
    refine (ex_aload_n (x := 0) rfl).trans ?_
    refine (ex_get (u := .ref 12) rfl).trans ?_
    refine (ex_iload_n (x := x3) rfl).trans ?_
    refine (ex_iaload (z := 48) rfl).trans (ex_ite ?_ rfl)
    refine (ex_aload_n (x := 0) rfl).trans ?_
    refine (ex_get (u := .ref 13) rfl).trans ?_
    refine (ex_iload_n (x := x3) rfl).trans ?_
    refine (ex_iaload (z := 48) rfl).trans (ex_ite ?_ rfl)
    refine (ex_inv_i (As := [.ref 0, .int (σ.1 12 (x3).toNatClampNeg), .int (σ.1 13 (x3).toNatClampNeg)]) (rest := []) rfl rfl).trans (ex_bnd fun u1 => ?_)
    refine (ex_istore (L2 := [.ref 0, .int x1, .int x2, .int x3, .int u1.1]) rfl).trans ?_
    refine (ex_aload_n (x := 0) rfl).trans ?_
    refine (ex_get (u := .ref 14) rfl).trans ?_
    refine (ex_iload_n (x := x3) rfl).trans ?_
    refine (ex_iload (x := u1.1) rfl).trans ?_
    refine (ex_iastore (z := 48) rfl).trans (ex_ite ?_ rfl)
    refine (ex_iload_n (x := x2) rfl).trans ?_
    refine (ex_iload (x := u1.1) rfl).trans ?_
    refine (ex_bipush).trans ?_
    refine (ex_ic_ne (p := 106) (q := rp_28_r6) rfl).trans (ex_ite ?_ ?_)
    · refine (ex_iconst).trans ?_
      refine (ex_goto (p := 118) (q := rp_28_r8) rfl).trans ?_
      exact rfl
    · refine (ex_iload (x := u1.1) rfl).trans ?_
      refine (ex_bipush).trans ?_
      refine (ex_ic_ne (p := 117) (q := rp_28_r7) rfl).trans (ex_ite ?_ ?_)
      · refine (ex_iconst).trans ?_
        refine (ex_goto (p := 118) (q := rp_28_r8) rfl).trans ?_
        exact rfl
      · refine (ex_iconst).trans ?_
        exact rfl
set_option maxRecDepth 100000 in
set_option maxHeartbeats 4000000 in
theorem rp_28_h8 (d n : Nat) (σ : mm_S) (x1 : Int32) (x2 : Int32) (x3 : Int32) (x4 : Int32) (xs0 : Int32) (xs1 : Int32) : mm_ex sr (rG d) 1 rp_28_l (n + 23) rp_28_r8 [.ref 0, .int x1, .int x2, .int x3, .int x4] [.int xs0, .int xs1] σ = (if x4 < 0 then (mm_ex sr (rG d) 1 rp_28_l (n + 19) rp_28_r9 [.ref 0, .int x1, .int (xs1 ||| xs0), .int x3, .int x4] [] σ) else (if mm_in x4 16 then (if (σ.1 7 (x4).toNatClampNeg) = 0 then (mm_ex sr (rG d) 1 rp_28_l (n + 14) rp_28_r9 [.ref 0, .int x1, .int (xs1 ||| xs0), .int x3, .int x4] [] σ) else (if mm_in x3 48 then (if mm_in ((σ.1 12 (x3).toNatClampNeg) &&& (31 : Int32)) 32 then (if (σ.1 2 (((σ.1 12 (x3).toNatClampNeg) &&& (31 : Int32))).toNatClampNeg) = 0 then (mm_ex sr (rG d) 1 rp_28_l (n + 4) rp_28_r9 [.ref 0, .int x1, .int (xs1 ||| xs0), .int x3, .int x4] [] σ) else (mm_ex sr (rG d) 1 rp_28_l (n + 0) rp_28_r9 [.ref 0, .int x1, .int ((xs1 ||| xs0) ||| (8 : Int32)), .int x3, .int x4] [] σ)) else none) else none)) else none)) := by
  refine (ex_ior).trans ?_
  refine (ex_istore_n (L2 := [.ref 0, .int x1, .int (xs1 ||| xs0), .int x3, .int x4]) rfl).trans ?_
  refine (ex_iload (x := x4) rfl).trans ?_
  refine (ex_if_lt (p := 157) (q := rp_28_r9) rfl).trans (ex_ite ?_ ?_)
  · exact rfl
  · refine (ex_aload_n (x := 0) rfl).trans ?_
    refine (ex_get (u := .ref 7) rfl).trans ?_
    refine (ex_iload (x := x4) rfl).trans ?_
    refine (ex_iaload (z := 16) rfl).trans (ex_ite ?_ rfl)
    refine (ex_if_eq (p := 157) (q := rp_28_r9) rfl).trans (ex_ite ?_ ?_)
    · exact rfl
    · refine (ex_aload_n (x := 0) rfl).trans ?_
      refine (ex_get (u := .ref 2) rfl).trans ?_
      refine (ex_aload_n (x := 0) rfl).trans ?_
      refine (ex_get (u := .ref 12) rfl).trans ?_
      refine (ex_iload_n (x := x3) rfl).trans ?_
      refine (ex_iaload (z := 48) rfl).trans (ex_ite ?_ rfl)
      refine (ex_bipush).trans ?_
      refine (ex_iand).trans ?_
      refine (ex_baload (z := 32) rfl).trans (ex_ite ?_ rfl)
      refine (ex_if_eq (p := 157) (q := rp_28_r9) rfl).trans (ex_ite ?_ ?_)
      · exact rfl
      · refine (ex_iload_n (x := (xs1 ||| xs0)) rfl).trans ?_
        refine (ex_bipush).trans ?_
        refine (ex_ior).trans ?_
        refine (ex_istore_n (L2 := [.ref 0, .int x1, .int ((xs1 ||| xs0) ||| (8 : Int32)), .int x3, .int x4]) rfl).trans ?_
        exact rfl
set_option maxRecDepth 100000 in
set_option maxHeartbeats 4000000 in
theorem rp_28_h9 (d n : Nat) (σ : mm_S) (x1 : Int32) (x2 : Int32) (x3 : Int32) (x4 : Int32) : mm_ex sr (rG d) 1 rp_28_l (n + 21) rp_28_r9 [.ref 0, .int x1, .int x2, .int x3, .int x4] [] σ = (if x4 < 0 then (mm_ex sr (rG d) 1 rp_28_l (n + 17) rp_28_r5 [.ref 0, .int x1, .int x2, .int (x3 + (1 : Int32)), .int x4] [] σ) else (if mm_in x4 16 then (if (σ.1 7 (x4).toNatClampNeg) = 0 then (if mm_in x1 16 then (if mm_in x1 16 then (mm_ex sr (rG d) 1 rp_28_l (n + 0) rp_28_r5 [.ref 0, .int x1, .int x2, .int (x3 + (1 : Int32)), .int x4] [] ((mm_w σ.1 15 (x1).toNatClampNeg ((σ.1 15 (x1).toNatClampNeg) ||| ((1 : Int32) <<< (x4 &&& 31)))), σ.2)) else none) else none) else (mm_ex sr (rG d) 1 rp_28_l (n + 12) rp_28_r5 [.ref 0, .int x1, .int x2, .int (x3 + (1 : Int32)), .int x4] [] σ)) else none)) := by
  refine (ex_iload (x := x4) rfl).trans ?_
  refine (ex_if_lt (p := 189) (q := rp_28_r10) rfl).trans (ex_ite ?_ ?_)
  · refine (ex_iinc (L2 := [.ref 0, .int x1, .int x2, .int (x3 + (1 : Int32)), .int x4]) rfl rfl).trans ?_
    refine (ex_goto (p := 54) (q := rp_28_r5) rfl).trans ?_
    exact rfl
  · refine (ex_aload_n (x := 0) rfl).trans ?_
    refine (ex_get (u := .ref 7) rfl).trans ?_
    refine (ex_iload (x := x4) rfl).trans ?_
    refine (ex_iaload (z := 16) rfl).trans (ex_ite ?_ rfl)
    refine (ex_if_ne (p := 189) (q := rp_28_r10) rfl).trans (ex_ite ?_ ?_)
    · refine (ex_aload_n (x := 0) rfl).trans ?_
      refine (ex_get (u := .ref 15) rfl).trans ?_
      refine (ex_iload_n (x := x1) rfl).trans ?_
      refine (ex_aload_n (x := 0) rfl).trans ?_
      refine (ex_get (u := .ref 15) rfl).trans ?_
      refine (ex_iload_n (x := x1) rfl).trans ?_
      refine (ex_iaload (z := 16) rfl).trans (ex_ite ?_ rfl)
      refine (ex_iconst).trans ?_
      refine (ex_iload (x := x4) rfl).trans ?_
      refine (ex_ishl).trans ?_
      refine (ex_ior).trans ?_
      refine (ex_iastore (z := 16) rfl).trans (ex_ite ?_ rfl)
      refine (ex_iinc (L2 := [.ref 0, .int x1, .int x2, .int (x3 + (1 : Int32)), .int x4]) rfl rfl).trans ?_
      refine (ex_goto (p := 54) (q := rp_28_r5) rfl).trans ?_
      exact rfl
    · refine (ex_iinc (L2 := [.ref 0, .int x1, .int x2, .int (x3 + (1 : Int32)), .int x4]) rfl rfl).trans ?_
      refine (ex_goto (p := 54) (q := rp_28_r5) rfl).trans ?_
      exact rfl
-- 29: WiringContainerModel.rings()Z
set_option maxRecDepth 100000 in
set_option maxHeartbeats 4000000 in
theorem rp_29_g (d : Nat) (σ : mm_S) : rG (d + 1) 29 [.ref 0] σ = (mm_ex sr (rG d) 3 rp_29_l (99999998 + 0) rp_29_r1 [.ref 0, .int (0 : Int32), .null] [] σ) := by
  refine (mm_entry 99999998 2 (maxL := 3) (labs := rp_29_l) (rows := rp_29_r0) (L := [.ref 0, .null, .null]) (rk := 3) rfl rfl rfl rfl rfl rfl).trans ?_
  refine (ex_iconst).trans ?_
  refine (ex_istore_n (L2 := [.ref 0, .int (0 : Int32), .null]) rfl).trans ?_
  exact rfl
set_option maxRecDepth 100000 in
set_option maxHeartbeats 4000000 in
theorem rp_29_h1 (d n : Nat) (σ : mm_S) (x1 : Int32) : mm_ex sr (rG d) 3 rp_29_l (n + 6) rp_29_r1 [.ref 0, .int x1, .null] [] σ = (if (σ.1 0 5) ≤ x1 then (mm_ex sr (rG d) 3 rp_29_l (n + 0) rp_29_r6 [.ref 0, .int (0 : Int32), .null] [] σ) else (mm_ex sr (rG d) 3 rp_29_l (n + 0) rp_29_r2 [.ref 0, .int x1, .int (0 : Int32)] [] σ)) := by
  refine (ex_iload_n (x := x1) rfl).trans ?_
  refine (ex_aload_n (x := 0) rfl).trans ?_
  refine (ex_get (u := .int (σ.1 0 5)) rfl).trans ?_
  refine (ex_ic_ge (p := 65) (q := rp_29_r5) rfl).trans (ex_ite ?_ ?_)
  · refine (ex_iconst).trans ?_
    refine (ex_istore_n (L2 := [.ref 0, .int (0 : Int32), .null]) rfl).trans ?_
    exact rfl
  · refine (ex_iconst).trans ?_
    refine (ex_istore_n (L2 := [.ref 0, .int x1, .int (0 : Int32)]) rfl).trans ?_
    exact rfl
set_option maxRecDepth 100000 in
set_option maxHeartbeats 4000000 in
theorem rp_29_h2 (d n : Nat) (σ : mm_S) (x1 : Int32) (x2 : Int32) : mm_ex sr (rG d) 3 rp_29_l (n + 29) rp_29_r2 [.ref 0, .int x1, .int x2] [] σ = (if (σ.1 0 5) ≤ x2 then (mm_ex sr (rG d) 3 rp_29_l (n + 23) rp_29_r1 [.ref 0, .int (x1 + (1 : Int32)), .int x2] [] σ) else (if mm_in x2 16 then (if (((σ.1 15 (x2).toNatClampNeg) >>> (x1 &&& 31)) &&& (1 : Int32)) = (1 : Int32) then (if mm_in x2 16 then (if mm_in x1 16 then (if mm_in x2 16 then (mm_ex sr (rG d) 3 rp_29_l (n + 0) rp_29_r2 [.ref 0, .int x1, .int (x2 + (1 : Int32))] [] ((mm_w σ.1 15 (x2).toNatClampNeg ((σ.1 15 (x2).toNatClampNeg) ||| (σ.1 15 (x1).toNatClampNeg))), σ.2)) else none) else none) else none) else (mm_ex sr (rG d) 3 rp_29_l (n + 13) rp_29_r2 [.ref 0, .int x1, .int (x2 + (1 : Int32))] [] σ)) else none)) := by
  refine (ex_iload_n (x := x2) rfl).trans ?_
  refine (ex_aload_n (x := 0) rfl).trans ?_
  refine (ex_get (u := .int (σ.1 0 5)) rfl).trans ?_
  refine (ex_ic_ge (p := 59) (q := rp_29_r4) rfl).trans (ex_ite ?_ ?_)
  · refine (ex_iinc (L2 := [.ref 0, .int (x1 + (1 : Int32)), .int x2]) rfl rfl).trans ?_
    refine (ex_goto (p := 2) (q := rp_29_r1) rfl).trans ?_
    exact rfl
  · refine (ex_aload_n (x := 0) rfl).trans ?_
    refine (ex_get (u := .ref 15) rfl).trans ?_
    refine (ex_iload_n (x := x2) rfl).trans ?_
    refine (ex_iaload (z := 16) rfl).trans (ex_ite ?_ rfl)
    refine (ex_iload_n (x := x1) rfl).trans ?_
    refine (ex_ishr).trans ?_
    refine (ex_iconst).trans ?_
    refine (ex_iand).trans ?_
    refine (ex_iconst).trans ?_
    refine (ex_ic_ne (p := 53) (q := rp_29_r3) rfl).trans (ex_ite ?_ ?_)
    · refine (ex_aload_n (x := 0) rfl).trans ?_
      refine (ex_get (u := .ref 15) rfl).trans ?_
      refine (ex_iload_n (x := x2) rfl).trans ?_
      refine (ex_aload_n (x := 0) rfl).trans ?_
      refine (ex_get (u := .ref 15) rfl).trans ?_
      refine (ex_iload_n (x := x2) rfl).trans ?_
      refine (ex_iaload (z := 16) rfl).trans (ex_ite ?_ rfl)
      refine (ex_aload_n (x := 0) rfl).trans ?_
      refine (ex_get (u := .ref 15) rfl).trans ?_
      refine (ex_iload_n (x := x1) rfl).trans ?_
      refine (ex_iaload (z := 16) rfl).trans (ex_ite ?_ rfl)
      refine (ex_ior).trans ?_
      refine (ex_iastore (z := 16) rfl).trans (ex_ite ?_ rfl)
      refine (ex_iinc (L2 := [.ref 0, .int x1, .int (x2 + (1 : Int32))]) rfl rfl).trans ?_
      refine (ex_goto (p := 12) (q := rp_29_r2) rfl).trans ?_
      exact rfl
    · refine (ex_iinc (L2 := [.ref 0, .int x1, .int (x2 + (1 : Int32))]) rfl rfl).trans ?_
      refine (ex_goto (p := 12) (q := rp_29_r2) rfl).trans ?_
      exact rfl
set_option maxRecDepth 100000 in
set_option maxHeartbeats 4000000 in
theorem rp_29_h6 (d n : Nat) (σ : mm_S) (x1 : Int32) : mm_ex sr (rG d) 3 rp_29_l (n + 16) rp_29_r6 [.ref 0, .int x1, .null] [] σ = (if (σ.1 0 5) ≤ x1 then (some ((0 : Int32), 0, σ)) else (if mm_in x1 16 then (if (((σ.1 15 (x1).toNatClampNeg) >>> (x1 &&& 31)) &&& (1 : Int32)) = (1 : Int32) then (some ((1 : Int32), 0, σ)) else (mm_ex sr (rG d) 3 rp_29_l (n + 0) rp_29_r6 [.ref 0, .int (x1 + (1 : Int32)), .null] [] σ)) else none)) := by
  refine (ex_iload_n (x := x1) rfl).trans ?_
  refine (ex_aload_n (x := 0) rfl).trans ?_
  refine (ex_get (u := .int (σ.1 0 5)) rfl).trans ?_
  refine (ex_ic_ge (p := 97) (q := rp_29_r8) rfl).trans (ex_ite ?_ ?_)
  · refine (ex_iconst).trans ?_
    exact ex_zreturn0
  · refine (ex_aload_n (x := 0) rfl).trans ?_
    refine (ex_get (u := .ref 15) rfl).trans ?_
    refine (ex_iload_n (x := x1) rfl).trans ?_
    refine (ex_iaload (z := 16) rfl).trans (ex_ite ?_ rfl)
    refine (ex_iload_n (x := x1) rfl).trans ?_
    refine (ex_ishr).trans ?_
    refine (ex_iconst).trans ?_
    refine (ex_iand).trans ?_
    refine (ex_iconst).trans ?_
    refine (ex_ic_ne (p := 91) (q := rp_29_r7) rfl).trans (ex_ite ?_ ?_)
    · refine (ex_iconst).trans ?_
      exact ex_zreturn1
    · refine (ex_iinc (L2 := [.ref 0, .int (x1 + (1 : Int32)), .null]) rfl rfl).trans ?_
      refine (ex_goto (p := 67) (q := rp_29_r6) rfl).trans ?_
      exact rfl
-- 30: WiringContainerModel.sameNames()Z
set_option maxRecDepth 100000 in
set_option maxHeartbeats 4000000 in
theorem rp_30_g (d : Nat) (σ : mm_S) : rG (d + 1) 30 [.ref 0] σ = (mm_ex sr (rG d) 3 rp_30_l (99999998 + 0) rp_30_r1 [.ref 0, .int (1 : Int32), .null, .null] [] σ) := by
  refine (mm_entry 99999998 2 (maxL := 4) (labs := rp_30_l) (rows := rp_30_r0) (L := [.ref 0, .null, .null, .null]) (rk := 3) rfl rfl rfl rfl rfl rfl).trans ?_
  refine (ex_iconst).trans ?_
  refine (ex_istore_n (L2 := [.ref 0, .int (1 : Int32), .null, .null]) rfl).trans ?_
  exact rfl
set_option maxRecDepth 100000 in
set_option maxHeartbeats 4000000 in
theorem rp_30_h1 (d n : Nat) (σ : mm_S) (x1 : Int32) : mm_ex sr (rG d) 3 rp_30_l (n + 7) rp_30_r1 [.ref 0, .int x1, .null, .null] [] σ = (if (7 : Int32) < x1 then (some ((0 : Int32), 0, σ)) else (mm_ex sr (rG d) 3 rp_30_l (n + 0) rp_30_r2 [.ref 0, .int x1, .int (0 : Int32), .int (0 : Int32)] [] σ)) := by
  refine (ex_iload_n (x := x1) rfl).trans ?_
  refine (ex_bipush).trans ?_
  refine (ex_ic_gt (p := 75) (q := rp_30_r6) rfl).trans (ex_ite ?_ ?_)
  · refine (ex_iconst).trans ?_
    exact ex_zreturn0
  · refine (ex_iconst).trans ?_
    refine (ex_istore_n (L2 := [.ref 0, .int x1, .int (0 : Int32), .null]) rfl).trans ?_
    refine (ex_iconst).trans ?_
    refine (ex_istore_n (L2 := [.ref 0, .int x1, .int (0 : Int32), .int (0 : Int32)]) rfl).trans ?_
    exact rfl
set_option maxRecDepth 100000 in
set_option maxHeartbeats 4000000 in
theorem rp_30_h2 (d n : Nat) (σ : mm_S) (x1 : Int32) (x2 : Int32) (x3 : Int32) : mm_ex sr (rG d) 3 rp_30_l (n + 24) rp_30_r2 [.ref 0, .int x1, .int x2, .int x3] [] σ = (if (σ.1 0 5) ≤ x3 then ((rG d 21 [.ref 0, .int x2] σ).bind fun u1 => ((rG d 20 [.int u1.1] u1.2.2).bind fun u2 => (if u2.1 ≤ (1 : Int32) then (mm_ex sr (rG d) 3 rp_30_l (n + 10) rp_30_r1 [.ref 0, .int (x1 + (1 : Int32)), .int x2, .int u1.1] [] u2.2.2) else (some ((1 : Int32), 0, u2.2.2))))) else ((rG d 11 [.ref 0, .int x3] σ).bind fun u3 => (if u3.1 = 0 then (mm_ex sr (rG d) 3 rp_30_l (n + 14) rp_30_r2 [.ref 0, .int x1, .int x2, .int (x3 + (1 : Int32))] [] u3.2.2) else (if mm_in x3 16 then (if ((u3.2.2.1 6 (x3).toNatClampNeg) &&& (7 : Int32)) = x1 then (mm_ex sr (rG d) 3 rp_30_l (n + 0) rp_30_r2 [.ref 0, .int x1, .int (x2 ||| ((1 : Int32) <<< (x3 &&& 31))), .int (x3 + (1 : Int32))] [] u3.2.2) else (mm_ex sr (rG d) 3 rp_30_l (n + 6) rp_30_r2 [.ref 0, .int x1, .int x2, .int (x3 + (1 : Int32))] [] u3.2.2)) else none)))) := by
  refine (ex_iload_n (x := x3) rfl).trans ?_
  refine (ex_aload_n (x := 0) rfl).trans ?_
  refine (ex_get (u := .int (σ.1 0 5)) rfl).trans ?_
  refine (ex_ic_ge (p := 53) (q := rp_30_r4) rfl).trans (ex_ite ?_ ?_)
  · refine (ex_aload_n (x := 0) rfl).trans ?_
    refine (ex_iload_n (x := x2) rfl).trans ?_
    refine (ex_inv_i (As := [.ref 0, .int x2]) (rest := []) rfl rfl).trans (ex_bnd fun u1 => ?_)
    refine (ex_istore_n (L2 := [.ref 0, .int x1, .int x2, .int u1.1]) rfl).trans ?_
    refine (ex_iload_n (x := u1.1) rfl).trans ?_
    refine (ex_sta_i (As := [.int u1.1]) (rest := []) (by decide) (by decide) rfl rfl).trans (ex_bnd fun u2 => ?_)
    refine (ex_iconst).trans ?_
    refine (ex_ic_le (p := 69) (q := rp_30_r5) rfl).trans (ex_ite ?_ ?_)
    · refine (ex_iinc (L2 := [.ref 0, .int (x1 + (1 : Int32)), .int x2, .int u1.1]) rfl rfl).trans ?_
      refine (ex_goto (p := 2) (q := rp_30_r1) rfl).trans ?_
      exact rfl
    · refine (ex_iconst).trans ?_
      exact ex_zreturn1
  · refine (ex_aload_n (x := 0) rfl).trans ?_
    refine (ex_iload_n (x := x3) rfl).trans ?_
    refine (ex_inv_z (As := [.ref 0, .int x3]) (rest := []) rfl rfl).trans (ex_bnd fun u3 => ?_)
    refine (ex_if_eq (p := 47) (q := rp_30_r3) rfl).trans (ex_ite ?_ ?_)
    · refine (ex_iinc (L2 := [.ref 0, .int x1, .int x2, .int (x3 + (1 : Int32))]) rfl rfl).trans ?_
      refine (ex_goto (p := 12) (q := rp_30_r2) rfl).trans ?_
      exact rfl
    · refine (ex_aload_n (x := 0) rfl).trans ?_
      refine (ex_get (u := .ref 6) rfl).trans ?_
      refine (ex_iload_n (x := x3) rfl).trans ?_
      refine (ex_iaload (z := 16) rfl).trans (ex_ite ?_ rfl)
      refine (ex_bipush).trans ?_
      refine (ex_iand).trans ?_
      refine (ex_iload_n (x := x1) rfl).trans ?_
      refine (ex_ic_ne (p := 47) (q := rp_30_r3) rfl).trans (ex_ite ?_ ?_)
      · refine (ex_iload_n (x := x2) rfl).trans ?_
        refine (ex_iconst).trans ?_
        refine (ex_iload_n (x := x3) rfl).trans ?_
        refine (ex_ishl).trans ?_
        refine (ex_ior).trans ?_
        refine (ex_istore_n (L2 := [.ref 0, .int x1, .int (x2 ||| ((1 : Int32) <<< (x3 &&& 31))), .int x3]) rfl).trans ?_
        refine (ex_iinc (L2 := [.ref 0, .int x1, .int (x2 ||| ((1 : Int32) <<< (x3 &&& 31))), .int (x3 + (1 : Int32))]) rfl rfl).trans ?_
        refine (ex_goto (p := 12) (q := rp_30_r2) rfl).trans ?_
        exact rfl
      · refine (ex_iinc (L2 := [.ref 0, .int x1, .int x2, .int (x3 + (1 : Int32))]) rfl rfl).trans ?_
        refine (ex_goto (p := 12) (q := rp_30_r2) rfl).trans ?_
        exact rfl
-- 31: WiringContainerModel.price(I)I
set_option maxRecDepth 100000 in
set_option maxHeartbeats 4000000 in
theorem rp_31_g (d : Nat) (σ : mm_S) (x1 : Int32) : rG (d + 1) 31 [.ref 0, .int x1] σ = (mm_ex sr (rG d) 1 rp_31_l (99999994 + 0) rp_31_r1 [.ref 0, .int x1, .int (1 : Int32), .int ((3 : Int32) * x1), .null] [] σ) := by
  refine (mm_entry 99999994 6 (maxL := 5) (labs := rp_31_l) (rows := rp_31_r0) (L := [.ref 0, .int x1, .null, .null, .null]) (rk := 1) rfl rfl rfl rfl rfl rfl).trans ?_
  refine (ex_iconst).trans ?_
  refine (ex_istore_n (L2 := [.ref 0, .int x1, .int (1 : Int32), .null, .null]) rfl).trans ?_
  refine (ex_iconst).trans ?_
  refine (ex_iload_n (x := x1) rfl).trans ?_
  refine (ex_imul).trans ?_
  refine (ex_istore_n (L2 := [.ref 0, .int x1, .int (1 : Int32), .int ((3 : Int32) * x1), .null]) rfl).trans ?_
  exact rfl
set_option maxRecDepth 100000 in
set_option maxHeartbeats 4000000 in
theorem rp_31_h1 (d n : Nat) (σ : mm_S) (x1 : Int32) (x2 : Int32) (x3 : Int32) : mm_ex sr (rG d) 1 rp_31_l (n + 39) rp_31_r1 [.ref 0, .int x1, .int x2, .int x3, .null] [] σ = (if mm_in x1 16 then (if (((3 : Int32) * x1) + (σ.1 11 (x1).toNatClampNeg)) ≤ x3 then (if mm_in x1 16 then (if (σ.1 9 (x1).toNatClampNeg) < 0 then (if x2 ≤ (101 : Int32) then (some (x2, 0, σ)) else (some ((101 : Int32), 0, σ))) else (if mm_in x1 16 then (if mm_in (σ.1 9 (x1).toNatClampNeg) 16 then (if (σ.1 16 ((σ.1 9 (x1).toNatClampNeg)).toNatClampNeg) = 0 then (some ((0 : Int32), 0, σ)) else (if mm_in x1 16 then (if mm_in (σ.1 9 (x1).toNatClampNeg) 16 then (if (x2 + (σ.1 16 ((σ.1 9 (x1).toNatClampNeg)).toNatClampNeg)) ≤ (101 : Int32) then (some ((x2 + (σ.1 16 ((σ.1 9 (x1).toNatClampNeg)).toNatClampNeg)), 0, σ)) else (some ((101 : Int32), 0, σ))) else none) else none)) else none) else none)) else none) else (if mm_in x3 48 then (if mm_in (σ.1 14 (x3).toNatClampNeg) 16 then (if (σ.1 7 ((σ.1 14 (x3).toNatClampNeg)).toNatClampNeg) = 0 then (if mm_in (σ.1 14 (x3).toNatClampNeg) 16 then (if (σ.1 16 ((σ.1 14 (x3).toNatClampNeg)).toNatClampNeg) = 0 then (some ((0 : Int32), 0, σ)) else (if mm_in (σ.1 14 (x3).toNatClampNeg) 16 then (mm_ex sr (rG d) 1 rp_31_l (n + 5) rp_31_r1 [.ref 0, .int x1, .int (x2 + (σ.1 16 ((σ.1 14 (x3).toNatClampNeg)).toNatClampNeg)), .int (x3 + (1 : Int32)), .int (σ.1 14 (x3).toNatClampNeg)] [] σ) else none)) else none) else (mm_ex sr (rG d) 1 rp_31_l (n + 17) rp_31_r1 [.ref 0, .int x1, .int x2, .int (x3 + (1 : Int32)), .int (σ.1 14 (x3).toNatClampNeg)] [] σ)) else none) else none)) else none) := by
  refine (ex_iload_n (x := x3) rfl).trans ?_
  refine (ex_iconst).trans ?_
  refine (ex_iload_n (x := x1) rfl).trans ?_
  refine (ex_imul).trans ?_
  refine (ex_aload_n (x := 0) rfl).trans ?_
  refine (ex_get (u := .ref 11) rfl).trans ?_
  refine (ex_iload_n (x := x1) rfl).trans ?_
  refine (ex_iaload (z := 16) rfl).trans (ex_ite ?_ rfl)
  refine (ex_iadd).trans ?_
  refine (ex_ic_ge (p := 66) (q := rp_31_r4) rfl).trans (ex_ite ?_ ?_)
  · refine (ex_aload_n (x := 0) rfl).trans ?_
    refine (ex_get (u := .ref 9) rfl).trans ?_
    refine (ex_iload_n (x := x1) rfl).trans ?_
    refine (ex_iaload (z := 16) rfl).trans (ex_ite ?_ rfl)
    refine (ex_if_lt (p := 105) (q := rp_31_r6) rfl).trans (ex_ite ?_ ?_)
    · refine (ex_iload_n (x := x2) rfl).trans ?_
      refine (ex_bipush).trans ?_
      refine (ex_ic_le (p := 116) (q := rp_31_r7) rfl).trans (ex_ite ?_ ?_)
      · refine (ex_iload_n (x := x2) rfl).trans ?_
        exact ex_ireturn
      · refine (ex_bipush).trans ?_
        refine (ex_goto (p := 117) (q := rp_31_r8) rfl).trans ?_
        exact ex_ireturn
    · refine (ex_aload_n (x := 0) rfl).trans ?_
      refine (ex_get (u := .ref 16) rfl).trans ?_
      refine (ex_aload_n (x := 0) rfl).trans ?_
      refine (ex_get (u := .ref 9) rfl).trans ?_
      refine (ex_iload_n (x := x1) rfl).trans ?_
      refine (ex_iaload (z := 16) rfl).trans (ex_ite ?_ rfl)
      refine (ex_iaload (z := 16) rfl).trans (ex_ite ?_ rfl)
      refine (ex_if_ne (p := 91) (q := rp_31_r5) rfl).trans (ex_ite ?_ ?_)
      · refine (ex_iconst).trans ?_
        exact ex_ireturn
      · refine (ex_iload_n (x := x2) rfl).trans ?_
        refine (ex_aload_n (x := 0) rfl).trans ?_
        refine (ex_get (u := .ref 16) rfl).trans ?_
        refine (ex_aload_n (x := 0) rfl).trans ?_
        refine (ex_get (u := .ref 9) rfl).trans ?_
        refine (ex_iload_n (x := x1) rfl).trans ?_
        refine (ex_iaload (z := 16) rfl).trans (ex_ite ?_ rfl)
        refine (ex_iaload (z := 16) rfl).trans (ex_ite ?_ rfl)
        refine (ex_iadd).trans ?_
        refine (ex_istore_n (L2 := [.ref 0, .int x1, .int (x2 + (σ.1 16 ((σ.1 9 (x1).toNatClampNeg)).toNatClampNeg)), .int x3, .null]) rfl).trans ?_
        refine (ex_iload_n (x := (x2 + (σ.1 16 ((σ.1 9 (x1).toNatClampNeg)).toNatClampNeg))) rfl).trans ?_
        refine (ex_bipush).trans ?_
        refine (ex_ic_le (p := 116) (q := rp_31_r7) rfl).trans (ex_ite ?_ ?_)
        · refine (ex_iload_n (x := (x2 + (σ.1 16 ((σ.1 9 (x1).toNatClampNeg)).toNatClampNeg))) rfl).trans ?_
          exact ex_ireturn
        · refine (ex_bipush).trans ?_
          refine (ex_goto (p := 117) (q := rp_31_r8) rfl).trans ?_
          exact ex_ireturn
  · refine (ex_aload_n (x := 0) rfl).trans ?_
    refine (ex_get (u := .ref 14) rfl).trans ?_
    refine (ex_iload_n (x := x3) rfl).trans ?_
    refine (ex_iaload (z := 48) rfl).trans (ex_ite ?_ rfl)
    refine (ex_istore (L2 := [.ref 0, .int x1, .int x2, .int x3, .int (σ.1 14 (x3).toNatClampNeg)]) rfl).trans ?_
    refine (ex_aload_n (x := 0) rfl).trans ?_
    refine (ex_get (u := .ref 7) rfl).trans ?_
    refine (ex_iload (x := (σ.1 14 (x3).toNatClampNeg)) rfl).trans ?_
    refine (ex_iaload (z := 16) rfl).trans (ex_ite ?_ rfl)
    refine (ex_if_ne (p := 60) (q := rp_31_r3) rfl).trans (ex_ite ?_ ?_)
    · refine (ex_aload_n (x := 0) rfl).trans ?_
      refine (ex_get (u := .ref 16) rfl).trans ?_
      refine (ex_iload (x := (σ.1 14 (x3).toNatClampNeg)) rfl).trans ?_
      refine (ex_iaload (z := 16) rfl).trans (ex_ite ?_ rfl)
      refine (ex_if_ne (p := 50) (q := rp_31_r2) rfl).trans (ex_ite ?_ ?_)
      · refine (ex_iconst).trans ?_
        exact ex_ireturn
      · refine (ex_iload_n (x := x2) rfl).trans ?_
        refine (ex_aload_n (x := 0) rfl).trans ?_
        refine (ex_get (u := .ref 16) rfl).trans ?_
        refine (ex_iload (x := (σ.1 14 (x3).toNatClampNeg)) rfl).trans ?_
        refine (ex_iaload (z := 16) rfl).trans (ex_ite ?_ rfl)
        refine (ex_iadd).trans ?_
        refine (ex_istore_n (L2 := [.ref 0, .int x1, .int (x2 + (σ.1 16 ((σ.1 14 (x3).toNatClampNeg)).toNatClampNeg)), .int x3, .int (σ.1 14 (x3).toNatClampNeg)]) rfl).trans ?_
        refine (ex_iinc (L2 := [.ref 0, .int x1, .int (x2 + (σ.1 16 ((σ.1 14 (x3).toNatClampNeg)).toNatClampNeg)), .int (x3 + (1 : Int32)), .int (σ.1 14 (x3).toNatClampNeg)]) rfl rfl).trans ?_
        refine (ex_goto (p := 6) (q := rp_31_r1) rfl).trans ?_
        exact rfl
    · refine (ex_iinc (L2 := [.ref 0, .int x1, .int x2, .int (x3 + (1 : Int32)), .int (σ.1 14 (x3).toNatClampNeg)]) rfl rfl).trans ?_
      refine (ex_goto (p := 6) (q := rp_31_r1) rfl).trans ?_
      exact rfl
-- 32: WiringContainerModel.deploy()I
set_option maxRecDepth 100000 in
set_option maxHeartbeats 4000000 in
theorem rp_32_g (d : Nat) (σ : mm_S) : rG (d + 1) 32 [.ref 0] σ = (if (σ.1 0 15) = 0 then (mm_ex sr (rG d) 1 rp_32_l (99999993 + 0) rp_32_r2 [.ref 0, .int (0 : Int32), .int (0 : Int32), .null] [] σ) else (some ((-3 : Int32), 0, σ))) := by
  refine (mm_entry 99999993 7 (maxL := 4) (labs := rp_32_l) (rows := rp_32_r0) (L := [.ref 0, .null, .null, .null]) (rk := 1) rfl rfl rfl rfl rfl rfl).trans ?_
  refine (ex_aload_n (x := 0) rfl).trans ?_
  refine (ex_get (u := .int (σ.1 0 15)) rfl).trans ?_
  refine (ex_if_eq (p := 10) (q := rp_32_r1) rfl).trans (ex_ite ?_ ?_)
  · refine (ex_iconst).trans ?_
    refine (ex_istore_n (L2 := [.ref 0, .int (0 : Int32), .null, .null]) rfl).trans ?_
    refine (ex_iconst).trans ?_
    refine (ex_istore_n (L2 := [.ref 0, .int (0 : Int32), .int (0 : Int32), .null]) rfl).trans ?_
    exact rfl
  · refine (ex_bipush).trans ?_
    exact ex_ireturn
set_option maxRecDepth 100000 in
set_option maxHeartbeats 4000000 in
theorem rp_32_h2 (d n : Nat) (σ : mm_S) (x1 : Int32) (x2 : Int32) : mm_ex sr (rG d) 1 rp_32_l (n + 30) rp_32_r2 [.ref 0, .int x1, .int x2, .null] [] σ = (if (σ.1 0 5) ≤ x2 then ((rG d 29 [.ref 0] σ).bind fun u1 => (if u1.1 = 0 then ((rG d 30 [.ref 0] u1.2.2).bind fun u2 => (if u2.1 = 0 then (if ((x1 ||| (0 : Int32)) ||| (0 : Int32)) = 0 then (if mm_in (3 : Int32) 4 then (mm_ex sr (rG d) 1 rp_32_l (n + 2) rp_32_r10 [.ref 0, .int ((x1 ||| (0 : Int32)) ||| (0 : Int32)), .int (0 : Int32), .null] [] ((mm_w (mm_w u2.2.2.1 0 15 (1 : Int32)) 32 ((3 : Int32)).toNatClampNeg (1 : Int32)), u2.2.2.2)) else none) else (some (((x1 ||| (0 : Int32)) ||| (0 : Int32)), 0, u2.2.2))) else (if ((x1 ||| (0 : Int32)) ||| (32 : Int32)) = 0 then (if mm_in (3 : Int32) 4 then (mm_ex sr (rG d) 1 rp_32_l (n + 1) rp_32_r10 [.ref 0, .int ((x1 ||| (0 : Int32)) ||| (32 : Int32)), .int (0 : Int32), .null] [] ((mm_w (mm_w u2.2.2.1 0 15 (1 : Int32)) 32 ((3 : Int32)).toNatClampNeg (1 : Int32)), u2.2.2.2)) else none) else (some (((x1 ||| (0 : Int32)) ||| (32 : Int32)), 0, u2.2.2))))) else ((rG d 30 [.ref 0] u1.2.2).bind fun u3 => (if u3.1 = 0 then (if ((x1 ||| (16 : Int32)) ||| (0 : Int32)) = 0 then (if mm_in (3 : Int32) 4 then (mm_ex sr (rG d) 1 rp_32_l (n + 1) rp_32_r10 [.ref 0, .int ((x1 ||| (16 : Int32)) ||| (0 : Int32)), .int (0 : Int32), .null] [] ((mm_w (mm_w u3.2.2.1 0 15 (1 : Int32)) 32 ((3 : Int32)).toNatClampNeg (1 : Int32)), u3.2.2.2)) else none) else (some (((x1 ||| (16 : Int32)) ||| (0 : Int32)), 0, u3.2.2))) else (if ((x1 ||| (16 : Int32)) ||| (32 : Int32)) = 0 then (if mm_in (3 : Int32) 4 then (mm_ex sr (rG d) 1 rp_32_l (n + 0) rp_32_r10 [.ref 0, .int ((x1 ||| (16 : Int32)) ||| (32 : Int32)), .int (0 : Int32), .null] [] ((mm_w (mm_w u3.2.2.1 0 15 (1 : Int32)) 32 ((3 : Int32)).toNatClampNeg (1 : Int32)), u3.2.2.2)) else none) else (some (((x1 ||| (16 : Int32)) ||| (32 : Int32)), 0, u3.2.2))))))) else (if mm_in x2 16 then (if mm_in x2 16 then ((rG d 11 [.ref 0, .int x2] ((mm_w (mm_w σ.1 15 (x2).toNatClampNeg (0 : Int32)) 16 (x2).toNatClampNeg (0 : Int32)), σ.2)).bind fun u4 => (if u4.1 = 0 then (mm_ex sr (rG d) 1 rp_32_l (n + 10) rp_32_r2 [.ref 0, .int x1, .int (x2 + (1 : Int32)), .null] [] u4.2.2) else ((rG d 28 [.ref 0, .int x2] u4.2.2).bind fun u5 => (mm_ex sr (rG d) 1 rp_32_l (n + 4) rp_32_r2 [.ref 0, .int (x1 ||| u5.1), .int (x2 + (1 : Int32)), .null] [] u5.2.2)))) else none) else none)) := by
  refine (ex_iload_n (x := x2) rfl).trans ?_
  refine (ex_aload_n (x := 0) rfl).trans ?_
  refine (ex_get (u := .int (σ.1 0 5)) rfl).trans ?_
  refine (ex_ic_ge (p := 58) (q := rp_32_r4) rfl).trans (ex_ite ?_ ?_)
  · refine (ex_iload_n (x := x1) rfl).trans ?_
    refine (ex_aload_n (x := 0) rfl).trans ?_
    refine (ex_inv_z (As := [.ref 0]) (rest := [.int x1]) rfl rfl).trans (ex_bnd fun u1 => ?_)
    refine (ex_if_eq (p := 71) (q := rp_32_r5) rfl).trans (ex_ite ?_ ?_)
    · refine (ex_iconst).trans ?_
      refine (ex_ior).trans ?_
      refine (ex_aload_n (x := 0) rfl).trans ?_
      refine (ex_inv_z (As := [.ref 0]) (rest := [.int (x1 ||| (0 : Int32))]) rfl rfl).trans (ex_bnd fun u2 => ?_)
      refine (ex_if_eq (p := 85) (q := rp_32_r7) rfl).trans (ex_ite ?_ ?_)
      · refine (ex_iconst).trans ?_
        refine (ex_ior).trans ?_
        refine (ex_istore_n (L2 := [.ref 0, .int ((x1 ||| (0 : Int32)) ||| (0 : Int32)), .int x2, .null]) rfl).trans ?_
        refine (ex_iload_n (x := ((x1 ||| (0 : Int32)) ||| (0 : Int32))) rfl).trans ?_
        refine (ex_if_eq (p := 94) (q := rp_32_r9) rfl).trans (ex_ite ?_ ?_)
        · refine (ex_aload_n (x := 0) rfl).trans ?_
          refine (ex_iconst).trans ?_
          refine (ex_put (u := ()) (by decide +kernel)).trans ?_
          refine (ex_aload_n (x := 0) rfl).trans ?_
          refine (ex_get (u := .ref 32) rfl).trans ?_
          refine (ex_iconst).trans ?_
          refine (ex_iconst).trans ?_
          refine (ex_bastore (z := 4) rfl).trans (ex_ite ((if_pos (by decide)).trans ?_) rfl)
          refine (ex_iconst).trans ?_
          refine (ex_istore_n (L2 := [.ref 0, .int ((x1 ||| (0 : Int32)) ||| (0 : Int32)), .int (0 : Int32), .null]) rfl).trans ?_
          exact rfl
        · refine (ex_iload_n (x := ((x1 ||| (0 : Int32)) ||| (0 : Int32))) rfl).trans ?_
          exact ex_ireturn
      · refine (ex_bipush).trans ?_
        refine (ex_goto (p := 86) (q := rp_32_r8) rfl).trans ?_
        refine (ex_ior).trans ?_
        refine (ex_istore_n (L2 := [.ref 0, .int ((x1 ||| (0 : Int32)) ||| (32 : Int32)), .int x2, .null]) rfl).trans ?_
        refine (ex_iload_n (x := ((x1 ||| (0 : Int32)) ||| (32 : Int32))) rfl).trans ?_
        refine (ex_if_eq (p := 94) (q := rp_32_r9) rfl).trans (ex_ite ?_ ?_)
        · refine (ex_aload_n (x := 0) rfl).trans ?_
          refine (ex_iconst).trans ?_
          refine (ex_put (u := ()) (by decide +kernel)).trans ?_
          refine (ex_aload_n (x := 0) rfl).trans ?_
          refine (ex_get (u := .ref 32) rfl).trans ?_
          refine (ex_iconst).trans ?_
          refine (ex_iconst).trans ?_
          refine (ex_bastore (z := 4) rfl).trans (ex_ite ((if_pos (by decide)).trans ?_) rfl)
          refine (ex_iconst).trans ?_
          refine (ex_istore_n (L2 := [.ref 0, .int ((x1 ||| (0 : Int32)) ||| (32 : Int32)), .int (0 : Int32), .null]) rfl).trans ?_
          exact rfl
        · refine (ex_iload_n (x := ((x1 ||| (0 : Int32)) ||| (32 : Int32))) rfl).trans ?_
          exact ex_ireturn
    · refine (ex_bipush).trans ?_
      refine (ex_goto (p := 72) (q := rp_32_r6) rfl).trans ?_
      refine (ex_ior).trans ?_
      refine (ex_aload_n (x := 0) rfl).trans ?_
      refine (ex_inv_z (As := [.ref 0]) (rest := [.int (x1 ||| (16 : Int32))]) rfl rfl).trans (ex_bnd fun u3 => ?_)
      refine (ex_if_eq (p := 85) (q := rp_32_r7) rfl).trans (ex_ite ?_ ?_)
      · refine (ex_iconst).trans ?_
        refine (ex_ior).trans ?_
        refine (ex_istore_n (L2 := [.ref 0, .int ((x1 ||| (16 : Int32)) ||| (0 : Int32)), .int x2, .null]) rfl).trans ?_
        refine (ex_iload_n (x := ((x1 ||| (16 : Int32)) ||| (0 : Int32))) rfl).trans ?_
        refine (ex_if_eq (p := 94) (q := rp_32_r9) rfl).trans (ex_ite ?_ ?_)
        · refine (ex_aload_n (x := 0) rfl).trans ?_
          refine (ex_iconst).trans ?_
          refine (ex_put (u := ()) (by decide +kernel)).trans ?_
          refine (ex_aload_n (x := 0) rfl).trans ?_
          refine (ex_get (u := .ref 32) rfl).trans ?_
          refine (ex_iconst).trans ?_
          refine (ex_iconst).trans ?_
          refine (ex_bastore (z := 4) rfl).trans (ex_ite ((if_pos (by decide)).trans ?_) rfl)
          refine (ex_iconst).trans ?_
          refine (ex_istore_n (L2 := [.ref 0, .int ((x1 ||| (16 : Int32)) ||| (0 : Int32)), .int (0 : Int32), .null]) rfl).trans ?_
          exact rfl
        · refine (ex_iload_n (x := ((x1 ||| (16 : Int32)) ||| (0 : Int32))) rfl).trans ?_
          exact ex_ireturn
      · refine (ex_bipush).trans ?_
        refine (ex_goto (p := 86) (q := rp_32_r8) rfl).trans ?_
        refine (ex_ior).trans ?_
        refine (ex_istore_n (L2 := [.ref 0, .int ((x1 ||| (16 : Int32)) ||| (32 : Int32)), .int x2, .null]) rfl).trans ?_
        refine (ex_iload_n (x := ((x1 ||| (16 : Int32)) ||| (32 : Int32))) rfl).trans ?_
        refine (ex_if_eq (p := 94) (q := rp_32_r9) rfl).trans (ex_ite ?_ ?_)
        · refine (ex_aload_n (x := 0) rfl).trans ?_
          refine (ex_iconst).trans ?_
          refine (ex_put (u := ()) (by decide +kernel)).trans ?_
          refine (ex_aload_n (x := 0) rfl).trans ?_
          refine (ex_get (u := .ref 32) rfl).trans ?_
          refine (ex_iconst).trans ?_
          refine (ex_iconst).trans ?_
          refine (ex_bastore (z := 4) rfl).trans (ex_ite ((if_pos (by decide)).trans ?_) rfl)
          refine (ex_iconst).trans ?_
          refine (ex_istore_n (L2 := [.ref 0, .int ((x1 ||| (16 : Int32)) ||| (32 : Int32)), .int (0 : Int32), .null]) rfl).trans ?_
          exact rfl
        · refine (ex_iload_n (x := ((x1 ||| (16 : Int32)) ||| (32 : Int32))) rfl).trans ?_
          exact ex_ireturn
  · refine (ex_aload_n (x := 0) rfl).trans ?_
    refine (ex_get (u := .ref 15) rfl).trans ?_
    refine (ex_iload_n (x := x2) rfl).trans ?_
    refine (ex_iconst).trans ?_
    refine (ex_iastore (z := 16) rfl).trans (ex_ite ?_ rfl)
    refine (ex_aload_n (x := 0) rfl).trans ?_
    refine (ex_get (u := .ref 16) rfl).trans ?_
    refine (ex_iload_n (x := x2) rfl).trans ?_
    refine (ex_iconst).trans ?_
    refine (ex_iastore (z := 16) rfl).trans (ex_ite ?_ rfl)
    refine (ex_aload_n (x := 0) rfl).trans ?_
    refine (ex_iload_n (x := x2) rfl).trans ?_
    refine (ex_inv_z (As := [.ref 0, .int x2]) (rest := []) rfl rfl).trans (ex_bnd fun u4 => ?_)
    refine (ex_if_eq (p := 52) (q := rp_32_r3) rfl).trans (ex_ite ?_ ?_)
    · refine (ex_iinc (L2 := [.ref 0, .int x1, .int (x2 + (1 : Int32)), .null]) rfl rfl).trans ?_
      refine (ex_goto (p := 14) (q := rp_32_r2) rfl).trans ?_
      exact rfl
    · refine (ex_iload_n (x := x1) rfl).trans ?_
      refine (ex_aload_n (x := 0) rfl).trans ?_
      refine (ex_iload_n (x := x2) rfl).trans ?_
      refine (ex_inv_i (As := [.ref 0, .int x2]) (rest := [.int x1]) rfl rfl).trans (ex_bnd fun u5 => ?_)
      refine (ex_ior).trans ?_
      refine (ex_istore_n (L2 := [.ref 0, .int (x1 ||| u5.1), .int x2, .null]) rfl).trans ?_
      refine (ex_iinc (L2 := [.ref 0, .int (x1 ||| u5.1), .int (x2 + (1 : Int32)), .null]) rfl rfl).trans ?_
      refine (ex_goto (p := 14) (q := rp_32_r2) rfl).trans ?_
      exact rfl
set_option maxRecDepth 100000 in
set_option maxHeartbeats 4000000 in
theorem rp_32_h10 (d n : Nat) (σ : mm_S) (x1 : Int32) (x2 : Int32) : mm_ex sr (rG d) 1 rp_32_l (n + 5) rp_32_r10 [.ref 0, .int x1, .int x2, .null] [] σ = (if (16 : Int32) ≤ x2 then (some ((0 : Int32), 0, σ)) else (mm_ex sr (rG d) 1 rp_32_l (n + 0) rp_32_r11 [.ref 0, .int x1, .int x2, .int (0 : Int32)] [] σ)) := by
  refine (ex_iload_n (x := x2) rfl).trans ?_
  refine (ex_bipush).trans ?_
  refine (ex_ic_ge (p := 164) (q := rp_32_r14) rfl).trans (ex_ite ?_ ?_)
  · refine (ex_iconst).trans ?_
    exact ex_ireturn
  · refine (ex_iconst).trans ?_
    refine (ex_istore_n (L2 := [.ref 0, .int x1, .int x2, .int (0 : Int32)]) rfl).trans ?_
    exact rfl
set_option maxRecDepth 100000 in
set_option maxHeartbeats 4000000 in
theorem rp_32_h11 (d n : Nat) (σ : mm_S) (x1 : Int32) (x2 : Int32) (x3 : Int32) : mm_ex sr (rG d) 1 rp_32_l (n + 22) rp_32_r11 [.ref 0, .int x1, .int x2, .int x3] [] σ = (if (σ.1 0 5) ≤ x3 then (mm_ex sr (rG d) 1 rp_32_l (n + 16) rp_32_r10 [.ref 0, .int x1, .int (x2 + (1 : Int32)), .int x3] [] σ) else ((rG d 11 [.ref 0, .int x3] σ).bind fun u1 => (if u1.1 = 0 then (mm_ex sr (rG d) 1 rp_32_l (n + 12) rp_32_r11 [.ref 0, .int x1, .int x2, .int (x3 + (1 : Int32))] [] u1.2.2) else (if mm_in x3 16 then (if (u1.2.2.1 16 (x3).toNatClampNeg) = 0 then ((rG d 31 [.ref 0, .int x3] u1.2.2).bind fun u2 => (if mm_in x3 16 then (mm_ex sr (rG d) 1 rp_32_l (n + 0) rp_32_r11 [.ref 0, .int x1, .int x2, .int (x3 + (1 : Int32))] [] ((mm_w u2.2.2.1 16 (x3).toNatClampNeg u2.1), u2.2.2.2)) else none)) else (mm_ex sr (rG d) 1 rp_32_l (n + 7) rp_32_r11 [.ref 0, .int x1, .int x2, .int (x3 + (1 : Int32))] [] u1.2.2)) else none)))) := by
  refine (ex_iload_n (x := x3) rfl).trans ?_
  refine (ex_aload_n (x := 0) rfl).trans ?_
  refine (ex_get (u := .int (σ.1 0 5)) rfl).trans ?_
  refine (ex_ic_ge (p := 158) (q := rp_32_r13) rfl).trans (ex_ite ?_ ?_)
  · refine (ex_iinc (L2 := [.ref 0, .int x1, .int (x2 + (1 : Int32)), .int x3]) rfl rfl).trans ?_
    refine (ex_goto (p := 108) (q := rp_32_r10) rfl).trans ?_
    exact rfl
  · refine (ex_aload_n (x := 0) rfl).trans ?_
    refine (ex_iload_n (x := x3) rfl).trans ?_
    refine (ex_inv_z (As := [.ref 0, .int x3]) (rest := []) rfl rfl).trans (ex_bnd fun u1 => ?_)
    refine (ex_if_eq (p := 152) (q := rp_32_r12) rfl).trans (ex_ite ?_ ?_)
    · refine (ex_iinc (L2 := [.ref 0, .int x1, .int x2, .int (x3 + (1 : Int32))]) rfl rfl).trans ?_
      refine (ex_goto (p := 116) (q := rp_32_r11) rfl).trans ?_
      exact rfl
    · refine (ex_aload_n (x := 0) rfl).trans ?_
      refine (ex_get (u := .ref 16) rfl).trans ?_
      refine (ex_iload_n (x := x3) rfl).trans ?_
      refine (ex_iaload (z := 16) rfl).trans (ex_ite ?_ rfl)
      refine (ex_if_ne (p := 152) (q := rp_32_r12) rfl).trans (ex_ite ?_ ?_)
      · refine (ex_aload_n (x := 0) rfl).trans ?_
        refine (ex_get (u := .ref 16) rfl).trans ?_
        refine (ex_iload_n (x := x3) rfl).trans ?_
        refine (ex_aload_n (x := 0) rfl).trans ?_
        refine (ex_iload_n (x := x3) rfl).trans ?_
        refine (ex_inv_i (As := [.ref 0, .int x3]) (rest := [.int x3, .ref 16]) rfl rfl).trans (ex_bnd fun u2 => ?_)
        refine (ex_iastore (z := 16) rfl).trans (ex_ite ?_ rfl)
        refine (ex_iinc (L2 := [.ref 0, .int x1, .int x2, .int (x3 + (1 : Int32))]) rfl rfl).trans ?_
        refine (ex_goto (p := 116) (q := rp_32_r11) rfl).trans ?_
        exact rfl
      · refine (ex_iinc (L2 := [.ref 0, .int x1, .int x2, .int (x3 + (1 : Int32))]) rfl rfl).trans ?_
        refine (ex_goto (p := 116) (q := rp_32_r11) rfl).trans ?_
        exact rfl
-- 33: WiringContainerModel.cost(I)I
set_option maxRecDepth 100000 in
set_option maxHeartbeats 4000000 in
theorem rp_33_g (d : Nat) (σ : mm_S) (x1 : Int32) : rG (d + 1) 33 [.ref 0, .int x1] σ = (if (σ.1 0 15) = 0 then (some ((-3 : Int32), 0, σ)) else ((rG d 9 [.ref 0, .int x1] σ).bind fun u1 => (if u1.1 = 0 then (some ((-1 : Int32), 0, u1.2.2)) else ((rG d 11 [.ref 0, .int x1] u1.2.2).bind fun u2 => (if u2.1 = 0 then (some ((-1 : Int32), 0, u2.2.2)) else (if mm_in x1 16 then (if (u2.2.2.1 16 (x1).toNatClampNeg) ≤ (100 : Int32) then (if mm_in x1 16 then (some ((u2.2.2.1 16 (x1).toNatClampNeg), 0, u2.2.2)) else none) else (some ((100 : Int32), 0, u2.2.2))) else none)))))) := by
  refine (mm_entry 99999978 22 (maxL := 2) (labs := rp_33_l) (rows := rp_33_r0) (L := [.ref 0, .int x1]) (rk := 1) rfl rfl rfl rfl rfl rfl).trans ?_
  refine (ex_aload_n (x := 0) rfl).trans ?_
  refine (ex_get (u := .int (σ.1 0 15)) rfl).trans ?_
  refine (ex_if_ne (p := 10) (q := rp_33_r1) rfl).trans (ex_ite ?_ ?_)
  · refine (ex_bipush).trans ?_
    exact ex_ireturn
  · refine (ex_aload_n (x := 0) rfl).trans ?_
    refine (ex_iload_n (x := x1) rfl).trans ?_
    refine (ex_inv_z (As := [.ref 0, .int x1]) (rest := []) rfl rfl).trans (ex_bnd fun u1 => ?_)
    refine (ex_if_eq (p := 26) (q := rp_33_r2) rfl).trans (ex_ite ?_ ?_)
    · refine (ex_iconst).trans ?_
      exact ex_ireturn
    · refine (ex_aload_n (x := 0) rfl).trans ?_
      refine (ex_iload_n (x := x1) rfl).trans ?_
      refine (ex_inv_z (As := [.ref 0, .int x1]) (rest := []) rfl rfl).trans (ex_bnd fun u2 => ?_)
      refine (ex_if_ne (p := 28) (q := rp_33_r3) rfl).trans (ex_ite ?_ ?_)
      · refine (ex_iconst).trans ?_
        exact ex_ireturn
      · refine (ex_aload_n (x := 0) rfl).trans ?_
        refine (ex_get (u := .ref 16) rfl).trans ?_
        refine (ex_iload_n (x := x1) rfl).trans ?_
        refine (ex_iaload (z := 16) rfl).trans (ex_ite ?_ rfl)
        refine (ex_bipush).trans ?_
        refine (ex_ic_le (p := 44) (q := rp_33_r4) rfl).trans (ex_ite ?_ ?_)
        · refine (ex_aload_n (x := 0) rfl).trans ?_
          refine (ex_get (u := .ref 16) rfl).trans ?_
          refine (ex_iload_n (x := x1) rfl).trans ?_
          refine (ex_iaload (z := 16) rfl).trans (ex_ite ?_ rfl)
          exact ex_ireturn
        · refine (ex_bipush).trans ?_
          refine (ex_goto (p := 50) (q := rp_33_r5) rfl).trans ?_
          exact ex_ireturn
-- 34: WiringContainerModel.part(IIII)V
set_option maxRecDepth 100000 in
set_option maxHeartbeats 4000000 in
theorem rp_34_g (d : Nat) (σ : mm_S) (x1 : Int32) (x2 : Int32) (x3 : Int32) (x4 : Int32) : rG (d + 1) 34 [.ref 0, .int x1, .int x2, .int x3, .int x4] σ = (if mm_in (σ.1 0 37) 16 then (if mm_in ((mm_w σ.1 26 ((σ.1 0 37)).toNatClampNeg x1) 0 37) 16 then (if mm_in ((mm_w (mm_w σ.1 26 ((σ.1 0 37)).toNatClampNeg x1) 27 (((mm_w σ.1 26 ((σ.1 0 37)).toNatClampNeg x1) 0 37)).toNatClampNeg x2) 0 37) 16 then (if mm_in ((mm_w (mm_w (mm_w σ.1 26 ((σ.1 0 37)).toNatClampNeg x1) 27 (((mm_w σ.1 26 ((σ.1 0 37)).toNatClampNeg x1) 0 37)).toNatClampNeg x2) 28 (((mm_w (mm_w σ.1 26 ((σ.1 0 37)).toNatClampNeg x1) 27 (((mm_w σ.1 26 ((σ.1 0 37)).toNatClampNeg x1) 0 37)).toNatClampNeg x2) 0 37)).toNatClampNeg x3) 0 37) 16 then (if mm_in x1 16 then (if ((mm_w (mm_w (mm_w (mm_w σ.1 26 ((σ.1 0 37)).toNatClampNeg x1) 27 (((mm_w σ.1 26 ((σ.1 0 37)).toNatClampNeg x1) 0 37)).toNatClampNeg x2) 28 (((mm_w (mm_w σ.1 26 ((σ.1 0 37)).toNatClampNeg x1) 27 (((mm_w σ.1 26 ((σ.1 0 37)).toNatClampNeg x1) 0 37)).toNatClampNeg x2) 0 37)).toNatClampNeg x3) 29 (((mm_w (mm_w (mm_w σ.1 26 ((σ.1 0 37)).toNatClampNeg x1) 27 (((mm_w σ.1 26 ((σ.1 0 37)).toNatClampNeg x1) 0 37)).toNatClampNeg x2) 28 (((mm_w (mm_w σ.1 26 ((σ.1 0 37)).toNatClampNeg x1) 27 (((mm_w σ.1 26 ((σ.1 0 37)).toNatClampNeg x1) 0 37)).toNatClampNeg x2) 0 37)).toNatClampNeg x3) 0 37)).toNatClampNeg x4) 9 (x1).toNatClampNeg) < 0 then (if mm_in ((mm_w (mm_w (mm_w (mm_w σ.1 26 ((σ.1 0 37)).toNatClampNeg x1) 27 (((mm_w σ.1 26 ((σ.1 0 37)).toNatClampNeg x1) 0 37)).toNatClampNeg x2) 28 (((mm_w (mm_w σ.1 26 ((σ.1 0 37)).toNatClampNeg x1) 27 (((mm_w σ.1 26 ((σ.1 0 37)).toNatClampNeg x1) 0 37)).toNatClampNeg x2) 0 37)).toNatClampNeg x3) 29 (((mm_w (mm_w (mm_w σ.1 26 ((σ.1 0 37)).toNatClampNeg x1) 27 (((mm_w σ.1 26 ((σ.1 0 37)).toNatClampNeg x1) 0 37)).toNatClampNeg x2) 28 (((mm_w (mm_w σ.1 26 ((σ.1 0 37)).toNatClampNeg x1) 27 (((mm_w σ.1 26 ((σ.1 0 37)).toNatClampNeg x1) 0 37)).toNatClampNeg x2) 0 37)).toNatClampNeg x3) 0 37)).toNatClampNeg x4) 0 37) 16 then (some (0, 0, ((mm_w (mm_w (mm_w (mm_w (mm_w (mm_w σ.1 26 ((σ.1 0 37)).toNatClampNeg x1) 27 (((mm_w σ.1 26 ((σ.1 0 37)).toNatClampNeg x1) 0 37)).toNatClampNeg x2) 28 (((mm_w (mm_w σ.1 26 ((σ.1 0 37)).toNatClampNeg x1) 27 (((mm_w σ.1 26 ((σ.1 0 37)).toNatClampNeg x1) 0 37)).toNatClampNeg x2) 0 37)).toNatClampNeg x3) 29 (((mm_w (mm_w (mm_w σ.1 26 ((σ.1 0 37)).toNatClampNeg x1) 27 (((mm_w σ.1 26 ((σ.1 0 37)).toNatClampNeg x1) 0 37)).toNatClampNeg x2) 28 (((mm_w (mm_w σ.1 26 ((σ.1 0 37)).toNatClampNeg x1) 27 (((mm_w σ.1 26 ((σ.1 0 37)).toNatClampNeg x1) 0 37)).toNatClampNeg x2) 0 37)).toNatClampNeg x3) 0 37)).toNatClampNeg x4) 30 (((mm_w (mm_w (mm_w (mm_w σ.1 26 ((σ.1 0 37)).toNatClampNeg x1) 27 (((mm_w σ.1 26 ((σ.1 0 37)).toNatClampNeg x1) 0 37)).toNatClampNeg x2) 28 (((mm_w (mm_w σ.1 26 ((σ.1 0 37)).toNatClampNeg x1) 27 (((mm_w σ.1 26 ((σ.1 0 37)).toNatClampNeg x1) 0 37)).toNatClampNeg x2) 0 37)).toNatClampNeg x3) 29 (((mm_w (mm_w (mm_w σ.1 26 ((σ.1 0 37)).toNatClampNeg x1) 27 (((mm_w σ.1 26 ((σ.1 0 37)).toNatClampNeg x1) 0 37)).toNatClampNeg x2) 28 (((mm_w (mm_w σ.1 26 ((σ.1 0 37)).toNatClampNeg x1) 27 (((mm_w σ.1 26 ((σ.1 0 37)).toNatClampNeg x1) 0 37)).toNatClampNeg x2) 0 37)).toNatClampNeg x3) 0 37)).toNatClampNeg x4) 0 37)).toNatClampNeg (0 : Int32)) 0 37 (((mm_w (mm_w (mm_w (mm_w (mm_w σ.1 26 ((σ.1 0 37)).toNatClampNeg x1) 27 (((mm_w σ.1 26 ((σ.1 0 37)).toNatClampNeg x1) 0 37)).toNatClampNeg x2) 28 (((mm_w (mm_w σ.1 26 ((σ.1 0 37)).toNatClampNeg x1) 27 (((mm_w σ.1 26 ((σ.1 0 37)).toNatClampNeg x1) 0 37)).toNatClampNeg x2) 0 37)).toNatClampNeg x3) 29 (((mm_w (mm_w (mm_w σ.1 26 ((σ.1 0 37)).toNatClampNeg x1) 27 (((mm_w σ.1 26 ((σ.1 0 37)).toNatClampNeg x1) 0 37)).toNatClampNeg x2) 28 (((mm_w (mm_w σ.1 26 ((σ.1 0 37)).toNatClampNeg x1) 27 (((mm_w σ.1 26 ((σ.1 0 37)).toNatClampNeg x1) 0 37)).toNatClampNeg x2) 0 37)).toNatClampNeg x3) 0 37)).toNatClampNeg x4) 30 (((mm_w (mm_w (mm_w (mm_w σ.1 26 ((σ.1 0 37)).toNatClampNeg x1) 27 (((mm_w σ.1 26 ((σ.1 0 37)).toNatClampNeg x1) 0 37)).toNatClampNeg x2) 28 (((mm_w (mm_w σ.1 26 ((σ.1 0 37)).toNatClampNeg x1) 27 (((mm_w σ.1 26 ((σ.1 0 37)).toNatClampNeg x1) 0 37)).toNatClampNeg x2) 0 37)).toNatClampNeg x3) 29 (((mm_w (mm_w (mm_w σ.1 26 ((σ.1 0 37)).toNatClampNeg x1) 27 (((mm_w σ.1 26 ((σ.1 0 37)).toNatClampNeg x1) 0 37)).toNatClampNeg x2) 28 (((mm_w (mm_w σ.1 26 ((σ.1 0 37)).toNatClampNeg x1) 27 (((mm_w σ.1 26 ((σ.1 0 37)).toNatClampNeg x1) 0 37)).toNatClampNeg x2) 0 37)).toNatClampNeg x3) 0 37)).toNatClampNeg x4) 0 37)).toNatClampNeg (0 : Int32)) 0 37) + (1 : Int32))), σ.2))) else none) else (if mm_in ((mm_w (mm_w (mm_w (mm_w σ.1 26 ((σ.1 0 37)).toNatClampNeg x1) 27 (((mm_w σ.1 26 ((σ.1 0 37)).toNatClampNeg x1) 0 37)).toNatClampNeg x2) 28 (((mm_w (mm_w σ.1 26 ((σ.1 0 37)).toNatClampNeg x1) 27 (((mm_w σ.1 26 ((σ.1 0 37)).toNatClampNeg x1) 0 37)).toNatClampNeg x2) 0 37)).toNatClampNeg x3) 29 (((mm_w (mm_w (mm_w σ.1 26 ((σ.1 0 37)).toNatClampNeg x1) 27 (((mm_w σ.1 26 ((σ.1 0 37)).toNatClampNeg x1) 0 37)).toNatClampNeg x2) 28 (((mm_w (mm_w σ.1 26 ((σ.1 0 37)).toNatClampNeg x1) 27 (((mm_w σ.1 26 ((σ.1 0 37)).toNatClampNeg x1) 0 37)).toNatClampNeg x2) 0 37)).toNatClampNeg x3) 0 37)).toNatClampNeg x4) 0 37) 16 then (some (0, 0, ((mm_w (mm_w (mm_w (mm_w (mm_w (mm_w σ.1 26 ((σ.1 0 37)).toNatClampNeg x1) 27 (((mm_w σ.1 26 ((σ.1 0 37)).toNatClampNeg x1) 0 37)).toNatClampNeg x2) 28 (((mm_w (mm_w σ.1 26 ((σ.1 0 37)).toNatClampNeg x1) 27 (((mm_w σ.1 26 ((σ.1 0 37)).toNatClampNeg x1) 0 37)).toNatClampNeg x2) 0 37)).toNatClampNeg x3) 29 (((mm_w (mm_w (mm_w σ.1 26 ((σ.1 0 37)).toNatClampNeg x1) 27 (((mm_w σ.1 26 ((σ.1 0 37)).toNatClampNeg x1) 0 37)).toNatClampNeg x2) 28 (((mm_w (mm_w σ.1 26 ((σ.1 0 37)).toNatClampNeg x1) 27 (((mm_w σ.1 26 ((σ.1 0 37)).toNatClampNeg x1) 0 37)).toNatClampNeg x2) 0 37)).toNatClampNeg x3) 0 37)).toNatClampNeg x4) 30 (((mm_w (mm_w (mm_w (mm_w σ.1 26 ((σ.1 0 37)).toNatClampNeg x1) 27 (((mm_w σ.1 26 ((σ.1 0 37)).toNatClampNeg x1) 0 37)).toNatClampNeg x2) 28 (((mm_w (mm_w σ.1 26 ((σ.1 0 37)).toNatClampNeg x1) 27 (((mm_w σ.1 26 ((σ.1 0 37)).toNatClampNeg x1) 0 37)).toNatClampNeg x2) 0 37)).toNatClampNeg x3) 29 (((mm_w (mm_w (mm_w σ.1 26 ((σ.1 0 37)).toNatClampNeg x1) 27 (((mm_w σ.1 26 ((σ.1 0 37)).toNatClampNeg x1) 0 37)).toNatClampNeg x2) 28 (((mm_w (mm_w σ.1 26 ((σ.1 0 37)).toNatClampNeg x1) 27 (((mm_w σ.1 26 ((σ.1 0 37)).toNatClampNeg x1) 0 37)).toNatClampNeg x2) 0 37)).toNatClampNeg x3) 0 37)).toNatClampNeg x4) 0 37)).toNatClampNeg (1 : Int32)) 0 37 (((mm_w (mm_w (mm_w (mm_w (mm_w σ.1 26 ((σ.1 0 37)).toNatClampNeg x1) 27 (((mm_w σ.1 26 ((σ.1 0 37)).toNatClampNeg x1) 0 37)).toNatClampNeg x2) 28 (((mm_w (mm_w σ.1 26 ((σ.1 0 37)).toNatClampNeg x1) 27 (((mm_w σ.1 26 ((σ.1 0 37)).toNatClampNeg x1) 0 37)).toNatClampNeg x2) 0 37)).toNatClampNeg x3) 29 (((mm_w (mm_w (mm_w σ.1 26 ((σ.1 0 37)).toNatClampNeg x1) 27 (((mm_w σ.1 26 ((σ.1 0 37)).toNatClampNeg x1) 0 37)).toNatClampNeg x2) 28 (((mm_w (mm_w σ.1 26 ((σ.1 0 37)).toNatClampNeg x1) 27 (((mm_w σ.1 26 ((σ.1 0 37)).toNatClampNeg x1) 0 37)).toNatClampNeg x2) 0 37)).toNatClampNeg x3) 0 37)).toNatClampNeg x4) 30 (((mm_w (mm_w (mm_w (mm_w σ.1 26 ((σ.1 0 37)).toNatClampNeg x1) 27 (((mm_w σ.1 26 ((σ.1 0 37)).toNatClampNeg x1) 0 37)).toNatClampNeg x2) 28 (((mm_w (mm_w σ.1 26 ((σ.1 0 37)).toNatClampNeg x1) 27 (((mm_w σ.1 26 ((σ.1 0 37)).toNatClampNeg x1) 0 37)).toNatClampNeg x2) 0 37)).toNatClampNeg x3) 29 (((mm_w (mm_w (mm_w σ.1 26 ((σ.1 0 37)).toNatClampNeg x1) 27 (((mm_w σ.1 26 ((σ.1 0 37)).toNatClampNeg x1) 0 37)).toNatClampNeg x2) 28 (((mm_w (mm_w σ.1 26 ((σ.1 0 37)).toNatClampNeg x1) 27 (((mm_w σ.1 26 ((σ.1 0 37)).toNatClampNeg x1) 0 37)).toNatClampNeg x2) 0 37)).toNatClampNeg x3) 0 37)).toNatClampNeg x4) 0 37)).toNatClampNeg (1 : Int32)) 0 37) + (1 : Int32))), σ.2))) else none)) else none) else none) else none) else none) else none) := by
  refine (mm_entry 99999957 43 (maxL := 5) (labs := rp_34_l) (rows := rp_34_r0) (L := [.ref 0, .int x1, .int x2, .int x3, .int x4]) (rk := 0) rfl rfl rfl rfl rfl rfl).trans ?_
  refine (ex_aload_n (x := 0) rfl).trans ?_
  refine (ex_get (u := .ref 26) rfl).trans ?_
  refine (ex_aload_n (x := 0) rfl).trans ?_
  refine (ex_get (u := .int (σ.1 0 37)) rfl).trans ?_
  refine (ex_iload_n (x := x1) rfl).trans ?_
  refine (ex_iastore (z := 16) rfl).trans (ex_ite ?_ rfl)
  refine (ex_aload_n (x := 0) rfl).trans ?_
  refine (ex_get (u := .ref 27) rfl).trans ?_
  refine (ex_aload_n (x := 0) rfl).trans ?_
  refine (ex_get (u := .int ((mm_w σ.1 26 ((σ.1 0 37)).toNatClampNeg x1) 0 37)) rfl).trans ?_
  refine (ex_iload_n (x := x2) rfl).trans ?_
  refine (ex_iastore (z := 16) rfl).trans (ex_ite ?_ rfl)
  refine (ex_aload_n (x := 0) rfl).trans ?_
  refine (ex_get (u := .ref 28) rfl).trans ?_
  refine (ex_aload_n (x := 0) rfl).trans ?_
  refine (ex_get (u := .int ((mm_w (mm_w σ.1 26 ((σ.1 0 37)).toNatClampNeg x1) 27 (((mm_w σ.1 26 ((σ.1 0 37)).toNatClampNeg x1) 0 37)).toNatClampNeg x2) 0 37)) rfl).trans ?_
  refine (ex_iload_n (x := x3) rfl).trans ?_
  refine (ex_iastore (z := 16) rfl).trans (ex_ite ?_ rfl)
  refine (ex_aload_n (x := 0) rfl).trans ?_
  refine (ex_get (u := .ref 29) rfl).trans ?_
  refine (ex_aload_n (x := 0) rfl).trans ?_
  refine (ex_get (u := .int ((mm_w (mm_w (mm_w σ.1 26 ((σ.1 0 37)).toNatClampNeg x1) 27 (((mm_w σ.1 26 ((σ.1 0 37)).toNatClampNeg x1) 0 37)).toNatClampNeg x2) 28 (((mm_w (mm_w σ.1 26 ((σ.1 0 37)).toNatClampNeg x1) 27 (((mm_w σ.1 26 ((σ.1 0 37)).toNatClampNeg x1) 0 37)).toNatClampNeg x2) 0 37)).toNatClampNeg x3) 0 37)) rfl).trans ?_
  refine (ex_iload (x := x4) rfl).trans ?_
  refine (ex_iastore (z := 16) rfl).trans (ex_ite ?_ rfl)
  refine (ex_aload_n (x := 0) rfl).trans ?_
  refine (ex_get (u := .ref 30) rfl).trans ?_
  refine (ex_aload_n (x := 0) rfl).trans ?_
  refine (ex_get (u := .int ((mm_w (mm_w (mm_w (mm_w σ.1 26 ((σ.1 0 37)).toNatClampNeg x1) 27 (((mm_w σ.1 26 ((σ.1 0 37)).toNatClampNeg x1) 0 37)).toNatClampNeg x2) 28 (((mm_w (mm_w σ.1 26 ((σ.1 0 37)).toNatClampNeg x1) 27 (((mm_w σ.1 26 ((σ.1 0 37)).toNatClampNeg x1) 0 37)).toNatClampNeg x2) 0 37)).toNatClampNeg x3) 29 (((mm_w (mm_w (mm_w σ.1 26 ((σ.1 0 37)).toNatClampNeg x1) 27 (((mm_w σ.1 26 ((σ.1 0 37)).toNatClampNeg x1) 0 37)).toNatClampNeg x2) 28 (((mm_w (mm_w σ.1 26 ((σ.1 0 37)).toNatClampNeg x1) 27 (((mm_w σ.1 26 ((σ.1 0 37)).toNatClampNeg x1) 0 37)).toNatClampNeg x2) 0 37)).toNatClampNeg x3) 0 37)).toNatClampNeg x4) 0 37)) rfl).trans ?_
  refine (ex_aload_n (x := 0) rfl).trans ?_
  refine (ex_get (u := .ref 9) rfl).trans ?_
  refine (ex_iload_n (x := x1) rfl).trans ?_
  refine (ex_iaload (z := 16) rfl).trans (ex_ite ?_ rfl)
  refine (ex_if_lt (p := 62) (q := rp_34_r1) rfl).trans (ex_ite ?_ ?_)
  · refine (ex_iconst).trans ?_
    refine (ex_bastore (z := 16) rfl).trans (ex_ite ((if_pos (by decide)).trans ?_) rfl)
    refine (ex_aload_n (x := 0) rfl).trans ?_
    refine (ex_dup).trans ?_
    refine (ex_get (u := .int ((mm_w (mm_w (mm_w (mm_w (mm_w σ.1 26 ((σ.1 0 37)).toNatClampNeg x1) 27 (((mm_w σ.1 26 ((σ.1 0 37)).toNatClampNeg x1) 0 37)).toNatClampNeg x2) 28 (((mm_w (mm_w σ.1 26 ((σ.1 0 37)).toNatClampNeg x1) 27 (((mm_w σ.1 26 ((σ.1 0 37)).toNatClampNeg x1) 0 37)).toNatClampNeg x2) 0 37)).toNatClampNeg x3) 29 (((mm_w (mm_w (mm_w σ.1 26 ((σ.1 0 37)).toNatClampNeg x1) 27 (((mm_w σ.1 26 ((σ.1 0 37)).toNatClampNeg x1) 0 37)).toNatClampNeg x2) 28 (((mm_w (mm_w σ.1 26 ((σ.1 0 37)).toNatClampNeg x1) 27 (((mm_w σ.1 26 ((σ.1 0 37)).toNatClampNeg x1) 0 37)).toNatClampNeg x2) 0 37)).toNatClampNeg x3) 0 37)).toNatClampNeg x4) 30 (((mm_w (mm_w (mm_w (mm_w σ.1 26 ((σ.1 0 37)).toNatClampNeg x1) 27 (((mm_w σ.1 26 ((σ.1 0 37)).toNatClampNeg x1) 0 37)).toNatClampNeg x2) 28 (((mm_w (mm_w σ.1 26 ((σ.1 0 37)).toNatClampNeg x1) 27 (((mm_w σ.1 26 ((σ.1 0 37)).toNatClampNeg x1) 0 37)).toNatClampNeg x2) 0 37)).toNatClampNeg x3) 29 (((mm_w (mm_w (mm_w σ.1 26 ((σ.1 0 37)).toNatClampNeg x1) 27 (((mm_w σ.1 26 ((σ.1 0 37)).toNatClampNeg x1) 0 37)).toNatClampNeg x2) 28 (((mm_w (mm_w σ.1 26 ((σ.1 0 37)).toNatClampNeg x1) 27 (((mm_w σ.1 26 ((σ.1 0 37)).toNatClampNeg x1) 0 37)).toNatClampNeg x2) 0 37)).toNatClampNeg x3) 0 37)).toNatClampNeg x4) 0 37)).toNatClampNeg (0 : Int32)) 0 37)) rfl).trans ?_
    refine (ex_iconst).trans ?_
    refine (ex_iadd).trans ?_
    refine (ex_put (u := ()) rfl).trans ?_
    exact ex_return
  · refine (ex_iconst).trans ?_
    refine (ex_goto (p := 63) (q := rp_34_r2) rfl).trans ?_
    refine (ex_bastore (z := 16) rfl).trans (ex_ite ((if_pos (by decide)).trans ?_) rfl)
    refine (ex_aload_n (x := 0) rfl).trans ?_
    refine (ex_dup).trans ?_
    refine (ex_get (u := .int ((mm_w (mm_w (mm_w (mm_w (mm_w σ.1 26 ((σ.1 0 37)).toNatClampNeg x1) 27 (((mm_w σ.1 26 ((σ.1 0 37)).toNatClampNeg x1) 0 37)).toNatClampNeg x2) 28 (((mm_w (mm_w σ.1 26 ((σ.1 0 37)).toNatClampNeg x1) 27 (((mm_w σ.1 26 ((σ.1 0 37)).toNatClampNeg x1) 0 37)).toNatClampNeg x2) 0 37)).toNatClampNeg x3) 29 (((mm_w (mm_w (mm_w σ.1 26 ((σ.1 0 37)).toNatClampNeg x1) 27 (((mm_w σ.1 26 ((σ.1 0 37)).toNatClampNeg x1) 0 37)).toNatClampNeg x2) 28 (((mm_w (mm_w σ.1 26 ((σ.1 0 37)).toNatClampNeg x1) 27 (((mm_w σ.1 26 ((σ.1 0 37)).toNatClampNeg x1) 0 37)).toNatClampNeg x2) 0 37)).toNatClampNeg x3) 0 37)).toNatClampNeg x4) 30 (((mm_w (mm_w (mm_w (mm_w σ.1 26 ((σ.1 0 37)).toNatClampNeg x1) 27 (((mm_w σ.1 26 ((σ.1 0 37)).toNatClampNeg x1) 0 37)).toNatClampNeg x2) 28 (((mm_w (mm_w σ.1 26 ((σ.1 0 37)).toNatClampNeg x1) 27 (((mm_w σ.1 26 ((σ.1 0 37)).toNatClampNeg x1) 0 37)).toNatClampNeg x2) 0 37)).toNatClampNeg x3) 29 (((mm_w (mm_w (mm_w σ.1 26 ((σ.1 0 37)).toNatClampNeg x1) 27 (((mm_w σ.1 26 ((σ.1 0 37)).toNatClampNeg x1) 0 37)).toNatClampNeg x2) 28 (((mm_w (mm_w σ.1 26 ((σ.1 0 37)).toNatClampNeg x1) 27 (((mm_w σ.1 26 ((σ.1 0 37)).toNatClampNeg x1) 0 37)).toNatClampNeg x2) 0 37)).toNatClampNeg x3) 0 37)).toNatClampNeg x4) 0 37)).toNatClampNeg (1 : Int32)) 0 37)) rfl).trans ?_
    refine (ex_iconst).trans ?_
    refine (ex_iadd).trans ?_
    refine (ex_put (u := ()) rfl).trans ?_
    exact ex_return
-- 35: WiringContainerModel.settle(I)I
set_option maxRecDepth 100000 in
set_option maxHeartbeats 4000000 in
theorem rp_35_g (d : Nat) (σ : mm_S) (x1 : Int32) : rG (d + 1) 35 [.ref 0, .int x1] σ = (if mm_in x1 16 then (if mm_in x1 16 then (if mm_in x1 16 then (if (σ.1 30 (x1).toNatClampNeg) = 0 then (mm_ex sr (rG d) 1 rp_35_l (99999966 + 19) rp_35_r1 [.ref 0, .int x1, .int (σ.1 26 (x1).toNatClampNeg), .int (σ.1 27 (x1).toNatClampNeg), .null, .null, .null] [] σ) else (if mm_in (σ.1 26 (x1).toNatClampNeg) 16 then ((rG d 34 [.ref 0, .int (σ.1 9 ((σ.1 26 (x1).toNatClampNeg)).toNatClampNeg), .int (σ.1 27 (x1).toNatClampNeg), .int (0 : Int32), .int (-1 : Int32)] σ).bind fun u1 => (if mm_in (σ.1 26 (x1).toNatClampNeg) 16 then (if mm_in (u1.2.2.1 9 ((σ.1 26 (x1).toNatClampNeg)).toNatClampNeg) 16 then (mm_ex sr (rG d) 1 rp_35_l (99999966 + 0) rp_35_r1 [.ref 0, .int x1, .int (σ.1 26 (x1).toNatClampNeg), .int ((σ.1 27 (x1).toNatClampNeg) + (u1.2.2.1 16 ((u1.2.2.1 9 ((σ.1 26 (x1).toNatClampNeg)).toNatClampNeg)).toNatClampNeg)), .null, .null, .null] [] u1.2.2) else none) else none)) else none)) else none) else none) else none) := by
  refine (mm_entry 99999966 34 (maxL := 7) (labs := rp_35_l) (rows := rp_35_r0) (L := [.ref 0, .int x1, .null, .null, .null, .null, .null]) (rk := 1) rfl rfl rfl rfl rfl rfl).trans ?_
  refine (ex_aload_n (x := 0) rfl).trans ?_
  refine (ex_get (u := .ref 26) rfl).trans ?_
  refine (ex_iload_n (x := x1) rfl).trans ?_
  refine (ex_iaload (z := 16) rfl).trans (ex_ite ?_ rfl)
  refine (ex_istore_n (L2 := [.ref 0, .int x1, .int (σ.1 26 (x1).toNatClampNeg), .null, .null, .null, .null]) rfl).trans ?_
  refine (ex_aload_n (x := 0) rfl).trans ?_
  refine (ex_get (u := .ref 27) rfl).trans ?_
  refine (ex_iload_n (x := x1) rfl).trans ?_
  refine (ex_iaload (z := 16) rfl).trans (ex_ite ?_ rfl)
  refine (ex_istore_n (L2 := [.ref 0, .int x1, .int (σ.1 26 (x1).toNatClampNeg), .int (σ.1 27 (x1).toNatClampNeg), .null, .null, .null]) rfl).trans ?_
  refine (ex_aload_n (x := 0) rfl).trans ?_
  refine (ex_get (u := .ref 30) rfl).trans ?_
  refine (ex_iload_n (x := x1) rfl).trans ?_
  refine (ex_baload (z := 16) rfl).trans (ex_ite ?_ rfl)
  refine (ex_if_eq (p := 50) (q := rp_35_r1) rfl).trans (ex_ite ?_ ?_)
  · exact rfl
  · refine (ex_aload_n (x := 0) rfl).trans ?_
    refine (ex_aload_n (x := 0) rfl).trans ?_
    refine (ex_get (u := .ref 9) rfl).trans ?_
    refine (ex_iload_n (x := (σ.1 26 (x1).toNatClampNeg)) rfl).trans ?_
    refine (ex_iaload (z := 16) rfl).trans (ex_ite ?_ rfl)
    refine (ex_iload_n (x := (σ.1 27 (x1).toNatClampNeg)) rfl).trans ?_
    refine (ex_iconst).trans ?_
    refine (ex_iconst).trans ?_
    refine (ex_inv_v (As := [.ref 0, .int (σ.1 9 ((σ.1 26 (x1).toNatClampNeg)).toNatClampNeg), .int (σ.1 27 (x1).toNatClampNeg), .int (0 : Int32), .int (-1 : Int32)]) (rest := []) rfl rfl).trans (ex_bnd fun u1 => ?_)
    refine (ex_iload_n (x := (σ.1 27 (x1).toNatClampNeg)) rfl).trans ?_
    refine (ex_aload_n (x := 0) rfl).trans ?_
    refine (ex_get (u := .ref 16) rfl).trans ?_
    refine (ex_aload_n (x := 0) rfl).trans ?_
    refine (ex_get (u := .ref 9) rfl).trans ?_
    refine (ex_iload_n (x := (σ.1 26 (x1).toNatClampNeg)) rfl).trans ?_
    refine (ex_iaload (z := 16) rfl).trans (ex_ite ?_ rfl)
    refine (ex_iaload (z := 16) rfl).trans (ex_ite ?_ rfl)
    refine (ex_iadd).trans ?_
    refine (ex_istore_n (L2 := [.ref 0, .int x1, .int (σ.1 26 (x1).toNatClampNeg), .int ((σ.1 27 (x1).toNatClampNeg) + (u1.2.2.1 16 ((u1.2.2.1 9 ((σ.1 26 (x1).toNatClampNeg)).toNatClampNeg)).toNatClampNeg)), .null, .null, .null]) rfl).trans ?_
    exact rfl
set_option maxRecDepth 100000 in
set_option maxHeartbeats 4000000 in
theorem rp_35_h1 (d n : Nat) (σ : mm_S) (x1 : Int32) (x2 : Int32) (x3 : Int32) : mm_ex sr (rG d) 1 rp_35_l (n + 32) rp_35_r1 [.ref 0, .int x1, .int x2, .int x3, .null, .null, .null] [] σ = (if mm_in x3 201 then (if mm_in x1 16 then (if mm_in x3 201 then (if mm_in x1 16 then (if mm_in x3 201 then (if mm_in x3 201 then (mm_ex sr (rG d) 1 rp_35_l (n + 0) rp_35_r2 [.ref 0, .int x1, .int x2, .int x3, .int (x3 + (1 : Int32)), .int (0 : Int32), .null] [] ((mm_w (mm_w (mm_w (mm_w σ.1 20 (x3).toNatClampNeg x2) 21 (x3).toNatClampNeg ((mm_w σ.1 20 (x3).toNatClampNeg x2) 28 (x1).toNatClampNeg)) 22 (x3).toNatClampNeg ((mm_w (mm_w σ.1 20 (x3).toNatClampNeg x2) 21 (x3).toNatClampNeg ((mm_w σ.1 20 (x3).toNatClampNeg x2) 28 (x1).toNatClampNeg)) 29 (x1).toNatClampNeg)) 23 (x3).toNatClampNeg (1 : Int32)), σ.2)) else none) else none) else none) else none) else none) else none) := by
  refine (ex_aload_n (x := 0) rfl).trans ?_
  refine (ex_get (u := .ref 20) rfl).trans ?_
  refine (ex_iload_n (x := x3) rfl).trans ?_
  refine (ex_iload_n (x := x2) rfl).trans ?_
  refine (ex_iastore (z := 201) rfl).trans (ex_ite ?_ rfl)
  refine (ex_aload_n (x := 0) rfl).trans ?_
  refine (ex_get (u := .ref 21) rfl).trans ?_
  refine (ex_iload_n (x := x3) rfl).trans ?_
  refine (ex_aload_n (x := 0) rfl).trans ?_
  refine (ex_get (u := .ref 28) rfl).trans ?_
  refine (ex_iload_n (x := x1) rfl).trans ?_
  refine (ex_iaload (z := 16) rfl).trans (ex_ite ?_ rfl)
  refine (ex_iastore (z := 201) rfl).trans (ex_ite ?_ rfl)
  refine (ex_aload_n (x := 0) rfl).trans ?_
  refine (ex_get (u := .ref 22) rfl).trans ?_
  refine (ex_iload_n (x := x3) rfl).trans ?_
  refine (ex_aload_n (x := 0) rfl).trans ?_
  refine (ex_get (u := .ref 29) rfl).trans ?_
  refine (ex_iload_n (x := x1) rfl).trans ?_
  refine (ex_iaload (z := 16) rfl).trans (ex_ite ?_ rfl)
  refine (ex_iastore (z := 201) rfl).trans (ex_ite ?_ rfl)
  refine (ex_aload_n (x := 0) rfl).trans ?_
  refine (ex_get (u := .ref 23) rfl).trans ?_
  refine (ex_iload_n (x := x3) rfl).trans ?_
  refine (ex_iconst).trans ?_
  refine (ex_bastore (z := 201) rfl).trans (ex_ite ((if_pos (by decide)).trans ?_) rfl)
  refine (ex_iload_n (x := x3) rfl).trans ?_
  refine (ex_iconst).trans ?_
  refine (ex_iadd).trans ?_
  refine (ex_istore (L2 := [.ref 0, .int x1, .int x2, .int x3, .int (x3 + (1 : Int32)), .null, .null]) rfl).trans ?_
  refine (ex_iconst).trans ?_
  refine (ex_istore (L2 := [.ref 0, .int x1, .int x2, .int x3, .int (x3 + (1 : Int32)), .int (0 : Int32), .null]) rfl).trans ?_
  exact rfl
set_option maxRecDepth 100000 in
set_option maxHeartbeats 4000000 in
theorem rp_35_h2 (d n : Nat) (σ : mm_S) (x1 : Int32) (x2 : Int32) (x3 : Int32) (x4 : Int32) (x5 : Int32) : mm_ex sr (rG d) 1 rp_35_l (n + 35) rp_35_r2 [.ref 0, .int x1, .int x2, .int x3, .int x4, .int x5, .null] [] σ = (if mm_in x2 16 then (if (σ.1 11 (x2).toNatClampNeg) ≤ x5 then (some (x3, 0, σ)) else (if mm_in (((3 : Int32) * x2) + x5) 48 then (if mm_in (σ.1 14 ((((3 : Int32) * x2) + x5)).toNatClampNeg) 16 then (if (σ.1 7 ((σ.1 14 ((((3 : Int32) * x2) + x5)).toNatClampNeg)).toNatClampNeg) = 0 then ((rG d 34 [.ref 0, .int (σ.1 14 ((((3 : Int32) * x2) + x5)).toNatClampNeg), .int x4, .int x3, .int x5] σ).bind fun u1 => (if mm_in (σ.1 14 ((((3 : Int32) * x2) + x5)).toNatClampNeg) 16 then (mm_ex sr (rG d) 1 rp_35_l (n + 0) rp_35_r2 [.ref 0, .int x1, .int x2, .int x3, .int (x4 + (u1.2.2.1 16 ((σ.1 14 ((((3 : Int32) * x2) + x5)).toNatClampNeg)).toNatClampNeg)), .int (x5 + (1 : Int32)), .int (σ.1 14 ((((3 : Int32) * x2) + x5)).toNatClampNeg)] [] u1.2.2) else none)) else (mm_ex sr (rG d) 1 rp_35_l (n + 13) rp_35_r2 [.ref 0, .int x1, .int x2, .int x3, .int x4, .int (x5 + (1 : Int32)), .int (σ.1 14 ((((3 : Int32) * x2) + x5)).toNatClampNeg)] [] σ)) else none) else none)) else none) := by
  refine (ex_iload (x := x5) rfl).trans ?_
  refine (ex_aload_n (x := 0) rfl).trans ?_
  refine (ex_get (u := .ref 11) rfl).trans ?_
  refine (ex_iload_n (x := x2) rfl).trans ?_
  refine (ex_iaload (z := 16) rfl).trans (ex_ite ?_ rfl)
  refine (ex_ic_ge (p := 159) (q := rp_35_r4) rfl).trans (ex_ite ?_ ?_)
  · refine (ex_iload_n (x := x3) rfl).trans ?_
    exact ex_ireturn
  · refine (ex_aload_n (x := 0) rfl).trans ?_
    refine (ex_get (u := .ref 14) rfl).trans ?_
    refine (ex_iconst).trans ?_
    refine (ex_iload_n (x := x2) rfl).trans ?_
    refine (ex_imul).trans ?_
    refine (ex_iload (x := x5) rfl).trans ?_
    refine (ex_iadd).trans ?_
    refine (ex_iaload (z := 48) rfl).trans (ex_ite ?_ rfl)
    refine (ex_istore (L2 := [.ref 0, .int x1, .int x2, .int x3, .int x4, .int x5, .int (σ.1 14 ((((3 : Int32) * x2) + x5)).toNatClampNeg)]) rfl).trans ?_
    refine (ex_aload_n (x := 0) rfl).trans ?_
    refine (ex_get (u := .ref 7) rfl).trans ?_
    refine (ex_iload (x := (σ.1 14 ((((3 : Int32) * x2) + x5)).toNatClampNeg)) rfl).trans ?_
    refine (ex_iaload (z := 16) rfl).trans (ex_ite ?_ rfl)
    refine (ex_if_ne (p := 153) (q := rp_35_r3) rfl).trans (ex_ite ?_ ?_)
    · refine (ex_aload_n (x := 0) rfl).trans ?_
      refine (ex_iload (x := (σ.1 14 ((((3 : Int32) * x2) + x5)).toNatClampNeg)) rfl).trans ?_
      refine (ex_iload (x := x4) rfl).trans ?_
      refine (ex_iload_n (x := x3) rfl).trans ?_
      refine (ex_iload (x := x5) rfl).trans ?_
      refine (ex_inv_v (As := [.ref 0, .int (σ.1 14 ((((3 : Int32) * x2) + x5)).toNatClampNeg), .int x4, .int x3, .int x5]) (rest := []) rfl rfl).trans (ex_bnd fun u1 => ?_)
      refine (ex_iload (x := x4) rfl).trans ?_
      refine (ex_aload_n (x := 0) rfl).trans ?_
      refine (ex_get (u := .ref 16) rfl).trans ?_
      refine (ex_iload (x := (σ.1 14 ((((3 : Int32) * x2) + x5)).toNatClampNeg)) rfl).trans ?_
      refine (ex_iaload (z := 16) rfl).trans (ex_ite ?_ rfl)
      refine (ex_iadd).trans ?_
      refine (ex_istore (L2 := [.ref 0, .int x1, .int x2, .int x3, .int (x4 + (u1.2.2.1 16 ((σ.1 14 ((((3 : Int32) * x2) + x5)).toNatClampNeg)).toNatClampNeg)), .int x5, .int (σ.1 14 ((((3 : Int32) * x2) + x5)).toNatClampNeg)]) rfl).trans ?_
      refine (ex_iinc (L2 := [.ref 0, .int x1, .int x2, .int x3, .int (x4 + (u1.2.2.1 16 ((σ.1 14 ((((3 : Int32) * x2) + x5)).toNatClampNeg)).toNatClampNeg)), .int (x5 + (1 : Int32)), .int (σ.1 14 ((((3 : Int32) * x2) + x5)).toNatClampNeg)]) rfl rfl).trans ?_
      refine (ex_goto (p := 96) (q := rp_35_r2) rfl).trans ?_
      exact rfl
    · refine (ex_iinc (L2 := [.ref 0, .int x1, .int x2, .int x3, .int x4, .int (x5 + (1 : Int32)), .int (σ.1 14 ((((3 : Int32) * x2) + x5)).toNatClampNeg)]) rfl rfl).trans ?_
      refine (ex_goto (p := 96) (q := rp_35_r2) rfl).trans ?_
      exact rfl
-- 36: WiringContainerModel.make(I)I
set_option maxRecDepth 100000 in
set_option maxHeartbeats 4000000 in
theorem rp_36_g (d : Nat) (σ : mm_S) (x1 : Int32) : rG (d + 1) 36 [.ref 0, .int x1] σ = (if mm_in x1 16 then (if (10 : Int32) < (σ.1 16 (x1).toNatClampNeg) then (some ((-2 : Int32), 0, σ)) else (if mm_in x1 16 then (if ((σ.1 0 24) + (σ.1 16 (x1).toNatClampNeg)) ≤ (200 : Int32) then ((rG d 34 [.ref 0, .int x1, .int (((mm_w σ.1 0 37 (0 : Int32)) 0 24) + (1 : Int32)), .int (0 : Int32), .int (-1 : Int32)] ((mm_w σ.1 0 37 (0 : Int32)), σ.2)).bind fun u1 => (if mm_in x1 16 then ((rG d 35 [.ref 0, .int (0 : Int32)] ((mm_w u1.2.2.1 0 24 ((u1.2.2.1 0 24) + (u1.2.2.1 16 (x1).toNatClampNeg))), u1.2.2.2)).bind fun u2 => (mm_ex sr (rG d) 1 rp_36_l (99999958 + 0) rp_36_r3 [.ref 0, .int x1, .int u2.1, .int (1 : Int32), .null, .null] [] u2.2.2)) else none)) else (some ((-2 : Int32), 0, σ))) else none)) else none) := by
  refine (mm_entry 99999958 42 (maxL := 6) (labs := rp_36_l) (rows := rp_36_r0) (L := [.ref 0, .int x1, .null, .null, .null, .null]) (rk := 1) rfl rfl rfl rfl rfl rfl).trans ?_
  refine (ex_aload_n (x := 0) rfl).trans ?_
  refine (ex_get (u := .ref 16) rfl).trans ?_
  refine (ex_iload_n (x := x1) rfl).trans ?_
  refine (ex_iaload (z := 16) rfl).trans (ex_ite ?_ rfl)
  refine (ex_bipush).trans ?_
  refine (ex_ic_gt (p := 28) (q := rp_36_r1) rfl).trans (ex_ite ?_ ?_)
  · refine (ex_bipush).trans ?_
    exact ex_ireturn
  · refine (ex_aload_n (x := 0) rfl).trans ?_
    refine (ex_get (u := .int (σ.1 0 24)) rfl).trans ?_
    refine (ex_aload_n (x := 0) rfl).trans ?_
    refine (ex_get (u := .ref 16) rfl).trans ?_
    refine (ex_iload_n (x := x1) rfl).trans ?_
    refine (ex_iaload (z := 16) rfl).trans (ex_ite ?_ rfl)
    refine (ex_iadd).trans ?_
    refine (ex_sipush).trans ?_
    refine (ex_ic_le (p := 31) (q := rp_36_r2) rfl).trans (ex_ite ?_ ?_)
    · refine (ex_aload_n (x := 0) rfl).trans ?_
      refine (ex_iconst).trans ?_
      refine (ex_put (u := ()) rfl).trans ?_
      refine (ex_aload_n (x := 0) rfl).trans ?_
      refine (ex_iload_n (x := x1) rfl).trans ?_
      refine (ex_aload_n (x := 0) rfl).trans ?_
      refine (ex_get (u := .int ((mm_w σ.1 0 37 (0 : Int32)) 0 24)) rfl).trans ?_
      refine (ex_iconst).trans ?_
      refine (ex_iadd).trans ?_
      refine (ex_iconst).trans ?_
      refine (ex_iconst).trans ?_
      refine (ex_inv_v (As := [.ref 0, .int x1, .int (((mm_w σ.1 0 37 (0 : Int32)) 0 24) + (1 : Int32)), .int (0 : Int32), .int (-1 : Int32)]) (rest := []) rfl rfl).trans (ex_bnd fun u1 => ?_)
      refine (ex_aload_n (x := 0) rfl).trans ?_
      refine (ex_aload_n (x := 0) rfl).trans ?_
      refine (ex_get (u := .int (u1.2.2.1 0 24)) rfl).trans ?_
      refine (ex_aload_n (x := 0) rfl).trans ?_
      refine (ex_get (u := .ref 16) rfl).trans ?_
      refine (ex_iload_n (x := x1) rfl).trans ?_
      refine (ex_iaload (z := 16) rfl).trans (ex_ite ?_ rfl)
      refine (ex_iadd).trans ?_
      refine (ex_put (u := ()) rfl).trans ?_
      refine (ex_aload_n (x := 0) rfl).trans ?_
      refine (ex_iconst).trans ?_
      refine (ex_inv_i (As := [.ref 0, .int (0 : Int32)]) (rest := []) rfl rfl).trans (ex_bnd fun u2 => ?_)
      refine (ex_istore_n (L2 := [.ref 0, .int x1, .int u2.1, .null, .null, .null]) rfl).trans ?_
      refine (ex_iconst).trans ?_
      refine (ex_istore_n (L2 := [.ref 0, .int x1, .int u2.1, .int (1 : Int32), .null, .null]) rfl).trans ?_
      exact rfl
    · refine (ex_bipush).trans ?_
      exact ex_ireturn
set_option maxRecDepth 100000 in
set_option maxHeartbeats 4000000 in
theorem rp_36_h3 (d n : Nat) (σ : mm_S) (x1 : Int32) (x2 : Int32) (x3 : Int32) : mm_ex sr (rG d) 1 rp_36_l (n + 10) rp_36_r3 [.ref 0, .int x1, .int x2, .int x3, .null, .null] [] σ = (if (σ.1 0 37) ≤ x3 then (mm_ex sr (rG d) 1 rp_36_l (n + 4) rp_36_r5 [.ref 0, .int x1, .int x2, .int (0 : Int32), .null, .null] [] σ) else ((rG d 35 [.ref 0, .int x3] σ).bind fun u1 => (mm_ex sr (rG d) 1 rp_36_l (n + 0) rp_36_r3 [.ref 0, .int x1, .int x2, .int (x3 + (1 : Int32)), .null, .null] [] u1.2.2))) := by
  refine (ex_iload_n (x := x3) rfl).trans ?_
  refine (ex_aload_n (x := 0) rfl).trans ?_
  refine (ex_get (u := .int (σ.1 0 37)) rfl).trans ?_
  refine (ex_ic_ge (p := 92) (q := rp_36_r4) rfl).trans (ex_ite ?_ ?_)
  · refine (ex_iconst).trans ?_
    refine (ex_istore_n (L2 := [.ref 0, .int x1, .int x2, .int (0 : Int32), .null, .null]) rfl).trans ?_
    exact rfl
  · refine (ex_aload_n (x := 0) rfl).trans ?_
    refine (ex_iload_n (x := x3) rfl).trans ?_
    refine (ex_inv_i (As := [.ref 0, .int x3]) (rest := []) rfl rfl).trans (ex_bnd fun u1 => ?_)
    refine (ex_pop).trans ?_
    refine (ex_iinc (L2 := [.ref 0, .int x1, .int x2, .int (x3 + (1 : Int32)), .null, .null]) rfl rfl).trans ?_
    refine (ex_goto (p := 72) (q := rp_36_r3) rfl).trans ?_
    exact rfl
set_option maxRecDepth 100000 in
set_option maxHeartbeats 4000000 in
theorem rp_36_h5 (d n : Nat) (σ : mm_S) (x1 : Int32) (x2 : Int32) (x3 : Int32) : mm_ex sr (rG d) 1 rp_36_l (n + 8) rp_36_r5 [.ref 0, .int x1, .int x2, .int x3, .null, .null] [] σ = (if (σ.1 0 37) ≤ x3 then (some (x2, 0, σ)) else (mm_ex sr (rG d) 1 rp_36_l (n + 0) rp_36_r6 [.ref 0, .int x1, .int x2, .int x3, .int (-1 : Int32), .int (0 : Int32)] [] σ)) := by
  refine (ex_iload_n (x := x3) rfl).trans ?_
  refine (ex_aload_n (x := 0) rfl).trans ?_
  refine (ex_get (u := .int (σ.1 0 37)) rfl).trans ?_
  refine (ex_ic_ge (p := 185) (q := rp_36_r11) rfl).trans (ex_ite ?_ ?_)
  · refine (ex_iload_n (x := x2) rfl).trans ?_
    exact ex_ireturn
  · refine (ex_iconst).trans ?_
    refine (ex_istore (L2 := [.ref 0, .int x1, .int x2, .int x3, .int (-1 : Int32), .null]) rfl).trans ?_
    refine (ex_iconst).trans ?_
    refine (ex_istore (L2 := [.ref 0, .int x1, .int x2, .int x3, .int (-1 : Int32), .int (0 : Int32)]) rfl).trans ?_
    exact rfl
set_option maxRecDepth 100000 in
set_option maxHeartbeats 4000000 in
theorem rp_36_h6 (d n : Nat) (σ : mm_S) (x1 : Int32) (x2 : Int32) (x3 : Int32) (x4 : Int32) (x5 : Int32) : mm_ex sr (rG d) 1 rp_36_l (n + 21) rp_36_r6 [.ref 0, .int x1, .int x2, .int x3, .int x4, .int x5] [] σ = (if (σ.1 0 37) ≤ x5 then (if x4 < 0 then (mm_ex sr (rG d) 1 rp_36_l (n + 13) rp_36_r5 [.ref 0, .int x1, .int x2, .int (x3 + (1 : Int32)), .int x4, .int x5] [] σ) else (if mm_in x4 16 then (if mm_in x4 16 then ((rG d 38 [.ref 0, .int ((mm_w σ.1 30 (x4).toNatClampNeg (0 : Int32)) 27 (x4).toNatClampNeg), .int (0 : Int32)] ((mm_w σ.1 30 (x4).toNatClampNeg (0 : Int32)), σ.2)).bind fun u1 => (mm_ex sr (rG d) 1 rp_36_l (n + 0) rp_36_r5 [.ref 0, .int x1, .int x2, .int (x3 + (1 : Int32)), .int x4, .int x5] [] u1.2.2)) else none) else none)) else (if mm_in x5 16 then (if (σ.1 30 (x5).toNatClampNeg) = 0 then (mm_ex sr (rG d) 1 rp_36_l (n + 10) rp_36_r6 [.ref 0, .int x1, .int x2, .int x3, .int x4, .int (x5 + (1 : Int32))] [] σ) else (if x4 < 0 then (mm_ex sr (rG d) 1 rp_36_l (n + 6) rp_36_r6 [.ref 0, .int x1, .int x2, .int x3, .int x5, .int (x5 + (1 : Int32))] [] σ) else ((rG d 37 [.ref 0, .int x5, .int x4] σ).bind fun u2 => (if u2.1 = 0 then (mm_ex sr (rG d) 1 rp_36_l (n + 3) rp_36_r6 [.ref 0, .int x1, .int x2, .int x3, .int x4, .int (x5 + (1 : Int32))] [] u2.2.2) else (mm_ex sr (rG d) 1 rp_36_l (n + 1) rp_36_r6 [.ref 0, .int x1, .int x2, .int x3, .int x5, .int (x5 + (1 : Int32))] [] u2.2.2))))) else none)) := by
  refine (ex_iload (x := x5) rfl).trans ?_
  refine (ex_aload_n (x := 0) rfl).trans ?_
  refine (ex_get (u := .int (σ.1 0 37)) rfl).trans ?_
  refine (ex_ic_ge (p := 153) (q := rp_36_r9) rfl).trans (ex_ite ?_ ?_)
  · refine (ex_iload (x := x4) rfl).trans ?_
    refine (ex_if_lt (p := 179) (q := rp_36_r10) rfl).trans (ex_ite ?_ ?_)
    · refine (ex_iinc (L2 := [.ref 0, .int x1, .int x2, .int (x3 + (1 : Int32)), .int x4, .int x5]) rfl rfl).trans ?_
      refine (ex_goto (p := 94) (q := rp_36_r5) rfl).trans ?_
      exact rfl
    · refine (ex_aload_n (x := 0) rfl).trans ?_
      refine (ex_get (u := .ref 30) rfl).trans ?_
      refine (ex_iload (x := x4) rfl).trans ?_
      refine (ex_iconst).trans ?_
      refine (ex_bastore (z := 16) rfl).trans (ex_ite ((if_pos (by decide)).trans ?_) rfl)
      refine (ex_aload_n (x := 0) rfl).trans ?_
      refine (ex_aload_n (x := 0) rfl).trans ?_
      refine (ex_get (u := .ref 27) rfl).trans ?_
      refine (ex_iload (x := x4) rfl).trans ?_
      refine (ex_iaload (z := 16) rfl).trans (ex_ite ?_ rfl)
      refine (ex_iconst).trans ?_
      refine (ex_inv_i (As := [.ref 0, .int ((mm_w σ.1 30 (x4).toNatClampNeg (0 : Int32)) 27 (x4).toNatClampNeg), .int (0 : Int32)]) (rest := []) rfl rfl).trans (ex_bnd fun u1 => ?_)
      refine (ex_pop).trans ?_
      refine (ex_iinc (L2 := [.ref 0, .int x1, .int x2, .int (x3 + (1 : Int32)), .int x4, .int x5]) rfl rfl).trans ?_
      refine (ex_goto (p := 94) (q := rp_36_r5) rfl).trans ?_
      exact rfl
  · refine (ex_aload_n (x := 0) rfl).trans ?_
    refine (ex_get (u := .ref 30) rfl).trans ?_
    refine (ex_iload (x := x5) rfl).trans ?_
    refine (ex_baload (z := 16) rfl).trans (ex_ite ?_ rfl)
    refine (ex_if_eq (p := 147) (q := rp_36_r8) rfl).trans (ex_ite ?_ ?_)
    · refine (ex_iinc (L2 := [.ref 0, .int x1, .int x2, .int x3, .int x4, .int (x5 + (1 : Int32))]) rfl rfl).trans ?_
      refine (ex_goto (p := 108) (q := rp_36_r6) rfl).trans ?_
      exact rfl
    · refine (ex_iload (x := x4) rfl).trans ?_
      refine (ex_if_lt (p := 143) (q := rp_36_r7) rfl).trans (ex_ite ?_ ?_)
      · refine (ex_iload (x := x5) rfl).trans ?_
        refine (ex_istore (L2 := [.ref 0, .int x1, .int x2, .int x3, .int x5, .int x5]) rfl).trans ?_
        refine (ex_iinc (L2 := [.ref 0, .int x1, .int x2, .int x3, .int x5, .int (x5 + (1 : Int32))]) rfl rfl).trans ?_
        refine (ex_goto (p := 108) (q := rp_36_r6) rfl).trans ?_
        exact rfl
      · refine (ex_aload_n (x := 0) rfl).trans ?_
        refine (ex_iload (x := x5) rfl).trans ?_
        refine (ex_iload (x := x4) rfl).trans ?_
        refine (ex_inv_z (As := [.ref 0, .int x5, .int x4]) (rest := []) rfl rfl).trans (ex_bnd fun u2 => ?_)
        refine (ex_if_eq (p := 147) (q := rp_36_r8) rfl).trans (ex_ite ?_ ?_)
        · refine (ex_iinc (L2 := [.ref 0, .int x1, .int x2, .int x3, .int x4, .int (x5 + (1 : Int32))]) rfl rfl).trans ?_
          refine (ex_goto (p := 108) (q := rp_36_r6) rfl).trans ?_
          exact rfl
        · refine (ex_iload (x := x5) rfl).trans ?_
          refine (ex_istore (L2 := [.ref 0, .int x1, .int x2, .int x3, .int x5, .int x5]) rfl).trans ?_
          refine (ex_iinc (L2 := [.ref 0, .int x1, .int x2, .int x3, .int x5, .int (x5 + (1 : Int32))]) rfl rfl).trans ?_
          refine (ex_goto (p := 108) (q := rp_36_r6) rfl).trans ?_
          exact rfl
-- 37: WiringContainerModel.sooner(II)Z
set_option maxRecDepth 100000 in
set_option maxHeartbeats 4000000 in
theorem rp_37_g (d : Nat) (σ : mm_S) (x1 : Int32) (x2 : Int32) : rG (d + 1) 37 [.ref 0, .int x1, .int x2] σ = (if mm_in x1 16 then (if mm_in x1 16 then (if mm_in (σ.1 26 (x1).toNatClampNeg) 16 then (if mm_in x2 16 then (if mm_in x2 16 then (if mm_in (σ.1 26 (x2).toNatClampNeg) 16 then (if ((σ.1 27 (x1).toNatClampNeg) + (σ.1 16 ((σ.1 26 (x1).toNatClampNeg)).toNatClampNeg)) < ((σ.1 27 (x2).toNatClampNeg) + (σ.1 16 ((σ.1 26 (x2).toNatClampNeg)).toNatClampNeg)) then (some ((1 : Int32), 0, σ)) else (if ((σ.1 27 (x1).toNatClampNeg) + (σ.1 16 ((σ.1 26 (x1).toNatClampNeg)).toNatClampNeg)) = ((σ.1 27 (x2).toNatClampNeg) + (σ.1 16 ((σ.1 26 (x2).toNatClampNeg)).toNatClampNeg)) then (if mm_in x1 16 then (if mm_in x2 16 then (if (σ.1 27 (x1).toNatClampNeg) ≤ (σ.1 27 (x2).toNatClampNeg) then (some ((0 : Int32), 0, σ)) else (some ((1 : Int32), 0, σ))) else none) else none) else (some ((0 : Int32), 0, σ)))) else none) else none) else none) else none) else none) else none) := by
  refine (mm_entry 99999956 44 (maxL := 5) (labs := rp_37_l) (rows := rp_37_r0) (L := [.ref 0, .int x1, .int x2, .null, .null]) (rk := 3) rfl rfl rfl rfl rfl rfl).trans ?_
  refine (ex_aload_n (x := 0) rfl).trans ?_
  refine (ex_get (u := .ref 27) rfl).trans ?_
  refine (ex_iload_n (x := x1) rfl).trans ?_
  refine (ex_iaload (z := 16) rfl).trans (ex_ite ?_ rfl)
  refine (ex_aload_n (x := 0) rfl).trans ?_
  refine (ex_get (u := .ref 16) rfl).trans ?_
  refine (ex_aload_n (x := 0) rfl).trans ?_
  refine (ex_get (u := .ref 26) rfl).trans ?_
  refine (ex_iload_n (x := x1) rfl).trans ?_
  refine (ex_iaload (z := 16) rfl).trans (ex_ite ?_ rfl)
  refine (ex_iaload (z := 16) rfl).trans (ex_ite ?_ rfl)
  refine (ex_iadd).trans ?_
  refine (ex_istore_n (L2 := [.ref 0, .int x1, .int x2, .int ((σ.1 27 (x1).toNatClampNeg) + (σ.1 16 ((σ.1 26 (x1).toNatClampNeg)).toNatClampNeg)), .null]) rfl).trans ?_
  refine (ex_aload_n (x := 0) rfl).trans ?_
  refine (ex_get (u := .ref 27) rfl).trans ?_
  refine (ex_iload_n (x := x2) rfl).trans ?_
  refine (ex_iaload (z := 16) rfl).trans (ex_ite ?_ rfl)
  refine (ex_aload_n (x := 0) rfl).trans ?_
  refine (ex_get (u := .ref 16) rfl).trans ?_
  refine (ex_aload_n (x := 0) rfl).trans ?_
  refine (ex_get (u := .ref 26) rfl).trans ?_
  refine (ex_iload_n (x := x2) rfl).trans ?_
  refine (ex_iaload (z := 16) rfl).trans (ex_ite ?_ rfl)
  refine (ex_iaload (z := 16) rfl).trans (ex_ite ?_ rfl)
  refine (ex_iadd).trans ?_
  refine (ex_istore (L2 := [.ref 0, .int x1, .int x2, .int ((σ.1 27 (x1).toNatClampNeg) + (σ.1 16 ((σ.1 26 (x1).toNatClampNeg)).toNatClampNeg)), .int ((σ.1 27 (x2).toNatClampNeg) + (σ.1 16 ((σ.1 26 (x2).toNatClampNeg)).toNatClampNeg))]) rfl).trans ?_
  refine (ex_iload_n (x := ((σ.1 27 (x1).toNatClampNeg) + (σ.1 16 ((σ.1 26 (x1).toNatClampNeg)).toNatClampNeg))) rfl).trans ?_
  refine (ex_iload (x := ((σ.1 27 (x2).toNatClampNeg) + (σ.1 16 ((σ.1 26 (x2).toNatClampNeg)).toNatClampNeg))) rfl).trans ?_
  refine (ex_ic_lt (p := 66) (q := rp_37_r1) rfl).trans (ex_ite ?_ ?_)
  · refine (ex_iconst).trans ?_
    refine (ex_goto (p := 71) (q := rp_37_r3) rfl).trans ?_
    exact ex_zreturn1
  · refine (ex_iload_n (x := ((σ.1 27 (x1).toNatClampNeg) + (σ.1 16 ((σ.1 26 (x1).toNatClampNeg)).toNatClampNeg))) rfl).trans ?_
    refine (ex_iload (x := ((σ.1 27 (x2).toNatClampNeg) + (σ.1 16 ((σ.1 26 (x2).toNatClampNeg)).toNatClampNeg))) rfl).trans ?_
    refine (ex_ic_ne (p := 70) (q := rp_37_r2) rfl).trans (ex_ite ?_ ?_)
    · refine (ex_aload_n (x := 0) rfl).trans ?_
      refine (ex_get (u := .ref 27) rfl).trans ?_
      refine (ex_iload_n (x := x1) rfl).trans ?_
      refine (ex_iaload (z := 16) rfl).trans (ex_ite ?_ rfl)
      refine (ex_aload_n (x := 0) rfl).trans ?_
      refine (ex_get (u := .ref 27) rfl).trans ?_
      refine (ex_iload_n (x := x2) rfl).trans ?_
      refine (ex_iaload (z := 16) rfl).trans (ex_ite ?_ rfl)
      refine (ex_ic_le (p := 70) (q := rp_37_r2) rfl).trans (ex_ite ?_ ?_)
      · refine (ex_iconst).trans ?_
        exact ex_zreturn0
      · refine (ex_iconst).trans ?_
        refine (ex_goto (p := 71) (q := rp_37_r3) rfl).trans ?_
        exact ex_zreturn1
    · refine (ex_iconst).trans ?_
      exact ex_zreturn0
-- 38: WiringContainerModel.kill(II)I
set_option maxRecDepth 100000 in
set_option maxHeartbeats 4000000 in
theorem rp_38_g (d : Nat) (σ : mm_S) (x1 : Int32) (x2 : Int32) : rG (d + 1) 38 [.ref 0, .int x1, .int x2] σ = (if mm_in (0 : Int32) 16 then (mm_ex sr (rG d) 1 rp_38_l (99999991 + 0) rp_38_r1 [.ref 0, .int x1, .int x2, .int (1 : Int32), .int x2, .null, .null] [] ((mm_w σ.1 31 ((0 : Int32)).toNatClampNeg x1), σ.2)) else none) := by
  refine (mm_entry 99999991 9 (maxL := 7) (labs := rp_38_l) (rows := rp_38_r0) (L := [.ref 0, .int x1, .int x2, .null, .null, .null, .null]) (rk := 1) rfl rfl rfl rfl rfl rfl).trans ?_
  refine (ex_iconst).trans ?_
  refine (ex_istore_n (L2 := [.ref 0, .int x1, .int x2, .int (1 : Int32), .null, .null, .null]) rfl).trans ?_
  refine (ex_iload_n (x := x2) rfl).trans ?_
  refine (ex_istore (L2 := [.ref 0, .int x1, .int x2, .int (1 : Int32), .int x2, .null, .null]) rfl).trans ?_
  refine (ex_aload_n (x := 0) rfl).trans ?_
  refine (ex_get (u := .ref 31) rfl).trans ?_
  refine (ex_iconst).trans ?_
  refine (ex_iload_n (x := x1) rfl).trans ?_
  refine (ex_iastore (z := 16) rfl).trans (ex_ite ?_ rfl)
  exact rfl
set_option maxRecDepth 100000 in
set_option maxHeartbeats 4000000 in
theorem rp_38_h1 (d n : Nat) (σ : mm_S) (x1 : Int32) (x2 : Int32) (x3 : Int32) (x4 : Int32) : mm_ex sr (rG d) 1 rp_38_l (n + 30) rp_38_r1 [.ref 0, .int x1, .int x2, .int x3, .int x4, .null, .null] [] σ = (if x3 ≤ 0 then (some (x4, 0, σ)) else (if mm_in (x3 + (-1 : Int32)) 16 then (if mm_in (σ.1 31 ((x3 + (-1 : Int32))).toNatClampNeg) 201 then (if mm_in ((mm_w σ.1 23 ((σ.1 31 ((x3 + (-1 : Int32))).toNatClampNeg)).toNatClampNeg (0 : Int32)) 0 31) 201 then (mm_ex sr (rG d) 1 rp_38_l (n + 0) rp_38_r2 [.ref 0, .int x1, .int x2, .int (x3 + (-1 : Int32)), .int (x4 + (1 : Int32)), .int (σ.1 31 ((x3 + (-1 : Int32))).toNatClampNeg), .int ((σ.1 31 ((x3 + (-1 : Int32))).toNatClampNeg) + (1 : Int32))] [] ((mm_w (mm_w (mm_w σ.1 23 ((σ.1 31 ((x3 + (-1 : Int32))).toNatClampNeg)).toNatClampNeg (0 : Int32)) 25 (((mm_w σ.1 23 ((σ.1 31 ((x3 + (-1 : Int32))).toNatClampNeg)).toNatClampNeg (0 : Int32)) 0 31)).toNatClampNeg (σ.1 31 ((x3 + (-1 : Int32))).toNatClampNeg)) 0 31 (((mm_w (mm_w σ.1 23 ((σ.1 31 ((x3 + (-1 : Int32))).toNatClampNeg)).toNatClampNeg (0 : Int32)) 25 (((mm_w σ.1 23 ((σ.1 31 ((x3 + (-1 : Int32))).toNatClampNeg)).toNatClampNeg (0 : Int32)) 0 31)).toNatClampNeg (σ.1 31 ((x3 + (-1 : Int32))).toNatClampNeg)) 0 31) + (1 : Int32))), σ.2)) else none) else none) else none)) := by
  refine (ex_iload_n (x := x3) rfl).trans ?_
  refine (ex_if_le (p := 126) (q := rp_38_r5) rfl).trans (ex_ite ?_ ?_)
  · refine (ex_iload (x := x4) rfl).trans ?_
    exact ex_ireturn
  · refine (ex_iinc (L2 := [.ref 0, .int x1, .int x2, .int (x3 + (-1 : Int32)), .int x4, .null, .null]) rfl rfl).trans ?_
    refine (ex_aload_n (x := 0) rfl).trans ?_
    refine (ex_get (u := .ref 31) rfl).trans ?_
    refine (ex_iload_n (x := (x3 + (-1 : Int32))) rfl).trans ?_
    refine (ex_iaload (z := 16) rfl).trans (ex_ite ?_ rfl)
    refine (ex_istore (L2 := [.ref 0, .int x1, .int x2, .int (x3 + (-1 : Int32)), .int x4, .int (σ.1 31 ((x3 + (-1 : Int32))).toNatClampNeg), .null]) rfl).trans ?_
    refine (ex_aload_n (x := 0) rfl).trans ?_
    refine (ex_get (u := .ref 23) rfl).trans ?_
    refine (ex_iload (x := (σ.1 31 ((x3 + (-1 : Int32))).toNatClampNeg)) rfl).trans ?_
    refine (ex_iconst).trans ?_
    refine (ex_bastore (z := 201) rfl).trans (ex_ite ((if_pos (by decide)).trans ?_) rfl)
    refine (ex_aload_n (x := 0) rfl).trans ?_
    refine (ex_get (u := .ref 25) rfl).trans ?_
    refine (ex_aload_n (x := 0) rfl).trans ?_
    refine (ex_get (u := .int ((mm_w σ.1 23 ((σ.1 31 ((x3 + (-1 : Int32))).toNatClampNeg)).toNatClampNeg (0 : Int32)) 0 31)) rfl).trans ?_
    refine (ex_iload (x := (σ.1 31 ((x3 + (-1 : Int32))).toNatClampNeg)) rfl).trans ?_
    refine (ex_iastore (z := 201) rfl).trans (ex_ite ?_ rfl)
    refine (ex_aload_n (x := 0) rfl).trans ?_
    refine (ex_dup).trans ?_
    refine (ex_get (u := .int ((mm_w (mm_w σ.1 23 ((σ.1 31 ((x3 + (-1 : Int32))).toNatClampNeg)).toNatClampNeg (0 : Int32)) 25 (((mm_w σ.1 23 ((σ.1 31 ((x3 + (-1 : Int32))).toNatClampNeg)).toNatClampNeg (0 : Int32)) 0 31)).toNatClampNeg (σ.1 31 ((x3 + (-1 : Int32))).toNatClampNeg)) 0 31)) rfl).trans ?_
    refine (ex_iconst).trans ?_
    refine (ex_iadd).trans ?_
    refine (ex_put (u := ()) rfl).trans ?_
    refine (ex_iinc (L2 := [.ref 0, .int x1, .int x2, .int (x3 + (-1 : Int32)), .int (x4 + (1 : Int32)), .int (σ.1 31 ((x3 + (-1 : Int32))).toNatClampNeg), .null]) rfl rfl).trans ?_
    refine (ex_iload (x := (σ.1 31 ((x3 + (-1 : Int32))).toNatClampNeg)) rfl).trans ?_
    refine (ex_iconst).trans ?_
    refine (ex_iadd).trans ?_
    refine (ex_istore (L2 := [.ref 0, .int x1, .int x2, .int (x3 + (-1 : Int32)), .int (x4 + (1 : Int32)), .int (σ.1 31 ((x3 + (-1 : Int32))).toNatClampNeg), .int ((σ.1 31 ((x3 + (-1 : Int32))).toNatClampNeg) + (1 : Int32))]) rfl).trans ?_
    exact rfl
set_option maxRecDepth 100000 in
set_option maxHeartbeats 4000000 in
theorem rp_38_h2 (d n : Nat) (σ : mm_S) (x1 : Int32) (x2 : Int32) (x3 : Int32) (x4 : Int32) (x5 : Int32) (x6 : Int32) : mm_ex sr (rG d) 1 rp_38_l (n + 28) rp_38_r2 [.ref 0, .int x1, .int x2, .int x3, .int x4, .int x5, .int x6] [] σ = (if (σ.1 0 24) < x6 then (mm_ex sr (rG d) 1 rp_38_l (n + 23) rp_38_r1 [.ref 0, .int x1, .int x2, .int x3, .int x4, .int x5, .int x6] [] σ) else (if (x5 + (10 : Int32)) < x6 then (mm_ex sr (rG d) 1 rp_38_l (n + 18) rp_38_r1 [.ref 0, .int x1, .int x2, .int x3, .int x4, .int x5, .int x6] [] σ) else (if mm_in x6 201 then (if (σ.1 23 (x6).toNatClampNeg) = 0 then (mm_ex sr (rG d) 1 rp_38_l (n + 12) rp_38_r2 [.ref 0, .int x1, .int x2, .int x3, .int x4, .int x5, .int (x6 + (1 : Int32))] [] σ) else (if mm_in x6 201 then (if (σ.1 21 (x6).toNatClampNeg) = x5 then (if mm_in x3 16 then (mm_ex sr (rG d) 1 rp_38_l (n + 0) rp_38_r2 [.ref 0, .int x1, .int x2, .int (x3 + (1 : Int32)), .int x4, .int x5, .int (x6 + (1 : Int32))] [] ((mm_w σ.1 31 (x3).toNatClampNeg x6), σ.2)) else none) else (mm_ex sr (rG d) 1 rp_38_l (n + 6) rp_38_r2 [.ref 0, .int x1, .int x2, .int x3, .int x4, .int x5, .int (x6 + (1 : Int32))] [] σ)) else none)) else none))) := by
  refine (ex_iload (x := x6) rfl).trans ?_
  refine (ex_aload_n (x := 0) rfl).trans ?_
  refine (ex_get (u := .int (σ.1 0 24)) rfl).trans ?_
  refine (ex_ic_gt (p := 123) (q := rp_38_r4) rfl).trans (ex_ite ?_ ?_)
  · refine (ex_goto (p := 12) (q := rp_38_r1) rfl).trans ?_
    exact rfl
  · refine (ex_iload (x := x6) rfl).trans ?_
    refine (ex_iload (x := x5) rfl).trans ?_
    refine (ex_bipush).trans ?_
    refine (ex_iadd).trans ?_
    refine (ex_ic_gt (p := 123) (q := rp_38_r4) rfl).trans (ex_ite ?_ ?_)
    · refine (ex_goto (p := 12) (q := rp_38_r1) rfl).trans ?_
      exact rfl
    · refine (ex_aload_n (x := 0) rfl).trans ?_
      refine (ex_get (u := .ref 23) rfl).trans ?_
      refine (ex_iload (x := x6) rfl).trans ?_
      refine (ex_baload (z := 201) rfl).trans (ex_ite ?_ rfl)
      refine (ex_if_eq (p := 117) (q := rp_38_r3) rfl).trans (ex_ite ?_ ?_)
      · refine (ex_iinc (L2 := [.ref 0, .int x1, .int x2, .int x3, .int x4, .int x5, .int (x6 + (1 : Int32))]) rfl rfl).trans ?_
        refine (ex_goto (p := 65) (q := rp_38_r2) rfl).trans ?_
        exact rfl
      · refine (ex_aload_n (x := 0) rfl).trans ?_
        refine (ex_get (u := .ref 21) rfl).trans ?_
        refine (ex_iload (x := x6) rfl).trans ?_
        refine (ex_iaload (z := 201) rfl).trans (ex_ite ?_ rfl)
        refine (ex_iload (x := x5) rfl).trans ?_
        refine (ex_ic_ne (p := 117) (q := rp_38_r3) rfl).trans (ex_ite ?_ ?_)
        · refine (ex_aload_n (x := 0) rfl).trans ?_
          refine (ex_get (u := .ref 31) rfl).trans ?_
          refine (ex_iload_n (x := x3) rfl).trans ?_
          refine (ex_iload (x := x6) rfl).trans ?_
          refine (ex_iastore (z := 16) rfl).trans (ex_ite ?_ rfl)
          refine (ex_iinc (L2 := [.ref 0, .int x1, .int x2, .int (x3 + (1 : Int32)), .int x4, .int x5, .int x6]) rfl rfl).trans ?_
          refine (ex_iinc (L2 := [.ref 0, .int x1, .int x2, .int (x3 + (1 : Int32)), .int x4, .int x5, .int (x6 + (1 : Int32))]) rfl rfl).trans ?_
          refine (ex_goto (p := 65) (q := rp_38_r2) rfl).trans ?_
          exact rfl
        · refine (ex_iinc (L2 := [.ref 0, .int x1, .int x2, .int x3, .int x4, .int x5, .int (x6 + (1 : Int32))]) rfl rfl).trans ?_
          refine (ex_goto (p := 65) (q := rp_38_r2) rfl).trans ?_
          exact rfl
-- 39: WiringContainerModel.over(I)I
set_option maxRecDepth 100000 in
set_option maxHeartbeats 4000000 in
theorem rp_39_g (d : Nat) (σ : mm_S) (x1 : Int32) : rG (d + 1) 39 [.ref 0, .int x1] σ = (mm_ex sr (rG d) 1 rp_39_l (99999996 + 0) rp_39_r1 [.ref 0, .int x1, .int (0 : Int32), .int (0 : Int32), .null, .null] [] σ) := by
  refine (mm_entry 99999996 4 (maxL := 6) (labs := rp_39_l) (rows := rp_39_r0) (L := [.ref 0, .int x1, .null, .null, .null, .null]) (rk := 1) rfl rfl rfl rfl rfl rfl).trans ?_
  refine (ex_iconst).trans ?_
  refine (ex_istore_n (L2 := [.ref 0, .int x1, .int (0 : Int32), .null, .null, .null]) rfl).trans ?_
  refine (ex_iconst).trans ?_
  refine (ex_istore_n (L2 := [.ref 0, .int x1, .int (0 : Int32), .int (0 : Int32), .null, .null]) rfl).trans ?_
  exact rfl
set_option maxRecDepth 100000 in
set_option maxHeartbeats 4000000 in
theorem rp_39_h1 (d n : Nat) (σ : mm_S) (x1 : Int32) (x2 : Int32) (x3 : Int32) : mm_ex sr (rG d) 1 rp_39_l (n + 7) rp_39_r1 [.ref 0, .int x1, .int x2, .int x3, .null, .null] [] σ = (if (16 : Int32) ≤ x3 then (some (x2, 0, σ)) else (mm_ex sr (rG d) 1 rp_39_l (n + 0) rp_39_r2 [.ref 0, .int x1, .int x2, .int x3, .int (-1 : Int32), .int (0 : Int32)] [] σ)) := by
  refine (ex_iload_n (x := x3) rfl).trans ?_
  refine (ex_bipush).trans ?_
  refine (ex_ic_ge (p := 124) (q := rp_39_r7) rfl).trans (ex_ite ?_ ?_)
  · refine (ex_iload_n (x := x2) rfl).trans ?_
    exact ex_ireturn
  · refine (ex_iconst).trans ?_
    refine (ex_istore (L2 := [.ref 0, .int x1, .int x2, .int x3, .int (-1 : Int32), .null]) rfl).trans ?_
    refine (ex_iconst).trans ?_
    refine (ex_istore (L2 := [.ref 0, .int x1, .int x2, .int x3, .int (-1 : Int32), .int (0 : Int32)]) rfl).trans ?_
    exact rfl
set_option maxRecDepth 100000 in
set_option maxHeartbeats 4000000 in
theorem rp_39_h2 (d n : Nat) (σ : mm_S) (x1 : Int32) (x2 : Int32) (x3 : Int32) (x4 : Int32) (x5 : Int32) : mm_ex sr (rG d) 1 rp_39_l (n + 36) rp_39_r2 [.ref 0, .int x1, .int x2, .int x3, .int x4, .int x5] [] σ = (if (σ.1 0 5) ≤ x5 then (if x4 < 0 then (mm_ex sr (rG d) 1 rp_39_l (n + 28) rp_39_r1 [.ref 0, .int x1, .int x2, .int (x3 + (1 : Int32)), .int x4, .int x5] [] σ) else (if mm_in (((16 : Int32) * x1) + x4) 64 then ((rG d 38 [.ref 0, .int (σ.1 33 ((((16 : Int32) * x1) + x4)).toNatClampNeg), .int x2] σ).bind fun u1 => (if mm_in (((16 : Int32) * x1) + x4) 64 then (mm_ex sr (rG d) 1 rp_39_l (n + 7) rp_39_r1 [.ref 0, .int x1, .int u1.1, .int (x3 + (1 : Int32)), .int x4, .int x5] [] ((mm_w u1.2.2.1 33 ((((16 : Int32) * x1) + x4)).toNatClampNeg (0 : Int32)), u1.2.2.2)) else none)) else none)) else (if mm_in (((16 : Int32) * x1) + x5) 64 then (if (σ.1 33 ((((16 : Int32) * x1) + x5)).toNatClampNeg) ≤ 0 then (mm_ex sr (rG d) 1 rp_39_l (n + 21) rp_39_r2 [.ref 0, .int x1, .int x2, .int x3, .int x4, .int (x5 + (1 : Int32))] [] σ) else (if x4 < 0 then (mm_ex sr (rG d) 1 rp_39_l (n + 17) rp_39_r2 [.ref 0, .int x1, .int x2, .int x3, .int x5, .int (x5 + (1 : Int32))] [] σ) else (if mm_in (((16 : Int32) * x1) + x5) 64 then (if mm_in (((16 : Int32) * x1) + x4) 64 then (if (σ.1 33 ((((16 : Int32) * x1) + x5)).toNatClampNeg) ≤ (σ.1 33 ((((16 : Int32) * x1) + x4)).toNatClampNeg) then (mm_ex sr (rG d) 1 rp_39_l (n + 2) rp_39_r2 [.ref 0, .int x1, .int x2, .int x3, .int x4, .int (x5 + (1 : Int32))] [] σ) else (mm_ex sr (rG d) 1 rp_39_l (n + 0) rp_39_r2 [.ref 0, .int x1, .int x2, .int x3, .int x5, .int (x5 + (1 : Int32))] [] σ)) else none) else none))) else none)) := by
  refine (ex_iload (x := x5) rfl).trans ?_
  refine (ex_aload_n (x := 0) rfl).trans ?_
  refine (ex_get (u := .int (σ.1 0 5)) rfl).trans ?_
  refine (ex_ic_ge (p := 82) (q := rp_39_r5) rfl).trans (ex_ite ?_ ?_)
  · refine (ex_iload (x := x4) rfl).trans ?_
    refine (ex_if_lt (p := 118) (q := rp_39_r6) rfl).trans (ex_ite ?_ ?_)
    · refine (ex_iinc (L2 := [.ref 0, .int x1, .int x2, .int (x3 + (1 : Int32)), .int x4, .int x5]) rfl rfl).trans ?_
      refine (ex_goto (p := 4) (q := rp_39_r1) rfl).trans ?_
      exact rfl
    · refine (ex_aload_n (x := 0) rfl).trans ?_
      refine (ex_aload_n (x := 0) rfl).trans ?_
      refine (ex_get (u := .ref 33) rfl).trans ?_
      refine (ex_bipush).trans ?_
      refine (ex_iload_n (x := x1) rfl).trans ?_
      refine (ex_imul).trans ?_
      refine (ex_iload (x := x4) rfl).trans ?_
      refine (ex_iadd).trans ?_
      refine (ex_iaload (z := 64) rfl).trans (ex_ite ?_ rfl)
      refine (ex_iload_n (x := x2) rfl).trans ?_
      refine (ex_inv_i (As := [.ref 0, .int (σ.1 33 ((((16 : Int32) * x1) + x4)).toNatClampNeg), .int x2]) (rest := []) rfl rfl).trans (ex_bnd fun u1 => ?_)
      refine (ex_istore_n (L2 := [.ref 0, .int x1, .int u1.1, .int x3, .int x4, .int x5]) rfl).trans ?_
      refine (ex_aload_n (x := 0) rfl).trans ?_
      refine (ex_get (u := .ref 33) rfl).trans ?_
      refine (ex_bipush).trans ?_
      refine (ex_iload_n (x := x1) rfl).trans ?_
      refine (ex_imul).trans ?_
      refine (ex_iload (x := x4) rfl).trans ?_
      refine (ex_iadd).trans ?_
      refine (ex_iconst).trans ?_
      refine (ex_iastore (z := 64) rfl).trans (ex_ite ?_ rfl)
      refine (ex_iinc (L2 := [.ref 0, .int x1, .int u1.1, .int (x3 + (1 : Int32)), .int x4, .int x5]) rfl rfl).trans ?_
      refine (ex_goto (p := 4) (q := rp_39_r1) rfl).trans ?_
      exact rfl
  · refine (ex_aload_n (x := 0) rfl).trans ?_
    refine (ex_get (u := .ref 33) rfl).trans ?_
    refine (ex_bipush).trans ?_
    refine (ex_iload_n (x := x1) rfl).trans ?_
    refine (ex_imul).trans ?_
    refine (ex_iload (x := x5) rfl).trans ?_
    refine (ex_iadd).trans ?_
    refine (ex_iaload (z := 64) rfl).trans (ex_ite ?_ rfl)
    refine (ex_if_le (p := 76) (q := rp_39_r4) rfl).trans (ex_ite ?_ ?_)
    · refine (ex_iinc (L2 := [.ref 0, .int x1, .int x2, .int x3, .int x4, .int (x5 + (1 : Int32))]) rfl rfl).trans ?_
      refine (ex_goto (p := 16) (q := rp_39_r2) rfl).trans ?_
      exact rfl
    · refine (ex_iload (x := x4) rfl).trans ?_
      refine (ex_if_lt (p := 72) (q := rp_39_r3) rfl).trans (ex_ite ?_ ?_)
      · refine (ex_iload (x := x5) rfl).trans ?_
        refine (ex_istore (L2 := [.ref 0, .int x1, .int x2, .int x3, .int x5, .int x5]) rfl).trans ?_
        refine (ex_iinc (L2 := [.ref 0, .int x1, .int x2, .int x3, .int x5, .int (x5 + (1 : Int32))]) rfl rfl).trans ?_
        refine (ex_goto (p := 16) (q := rp_39_r2) rfl).trans ?_
        exact rfl
      · refine (ex_aload_n (x := 0) rfl).trans ?_
        refine (ex_get (u := .ref 33) rfl).trans ?_
        refine (ex_bipush).trans ?_
        refine (ex_iload_n (x := x1) rfl).trans ?_
        refine (ex_imul).trans ?_
        refine (ex_iload (x := x5) rfl).trans ?_
        refine (ex_iadd).trans ?_
        refine (ex_iaload (z := 64) rfl).trans (ex_ite ?_ rfl)
        refine (ex_aload_n (x := 0) rfl).trans ?_
        refine (ex_get (u := .ref 33) rfl).trans ?_
        refine (ex_bipush).trans ?_
        refine (ex_iload_n (x := x1) rfl).trans ?_
        refine (ex_imul).trans ?_
        refine (ex_iload (x := x4) rfl).trans ?_
        refine (ex_iadd).trans ?_
        refine (ex_iaload (z := 64) rfl).trans (ex_ite ?_ rfl)
        refine (ex_ic_le (p := 76) (q := rp_39_r4) rfl).trans (ex_ite ?_ ?_)
        · refine (ex_iinc (L2 := [.ref 0, .int x1, .int x2, .int x3, .int x4, .int (x5 + (1 : Int32))]) rfl rfl).trans ?_
          refine (ex_goto (p := 16) (q := rp_39_r2) rfl).trans ?_
          exact rfl
        · refine (ex_iload (x := x5) rfl).trans ?_
          refine (ex_istore (L2 := [.ref 0, .int x1, .int x2, .int x3, .int x5, .int x5]) rfl).trans ?_
          refine (ex_iinc (L2 := [.ref 0, .int x1, .int x2, .int x3, .int x5, .int (x5 + (1 : Int32))]) rfl rfl).trans ?_
          refine (ex_goto (p := 16) (q := rp_39_r2) rfl).trans ?_
          exact rfl
-- 40: WiringContainerModel.reach(II)I
set_option maxRecDepth 100000 in
set_option maxHeartbeats 4000000 in
theorem rp_40_g (d : Nat) (σ : mm_S) (x1 : Int32) (x2 : Int32) : rG (d + 1) 40 [.ref 0, .int x1, .int x2] σ = (if mm_in x2 16 then (if (σ.1 7 (x2).toNatClampNeg) = (1 : Int32) then (if mm_in x1 4 then (if (σ.1 32 (x1).toNatClampNeg) = 0 then (some ((-7 : Int32), 0, σ)) else (if mm_in (((16 : Int32) * x1) + x2) 64 then (if (σ.1 33 ((((16 : Int32) * x1) + x2)).toNatClampNeg) = 0 then ((rG d 36 [.ref 0, .int x2] σ).bind fun u2 => (if 0 ≤ u2.1 then (if mm_in (((16 : Int32) * x1) + x2) 64 then (if mm_in (((16 : Int32) * x1) + x2) 64 then (some (((mm_w u2.2.2.1 33 ((((16 : Int32) * x1) + x2)).toNatClampNeg u2.1) 33 ((((16 : Int32) * x1) + x2)).toNatClampNeg), 0, ((mm_w u2.2.2.1 33 ((((16 : Int32) * x1) + x2)).toNatClampNeg u2.1), u2.2.2.2))) else none) else none) else (some (u2.1, 0, u2.2.2)))) else (if mm_in (((16 : Int32) * x1) + x2) 64 then (some ((σ.1 33 ((((16 : Int32) * x1) + x2)).toNatClampNeg), 0, σ)) else none)) else none)) else none) else (if mm_in (3 : Int32) 4 then (if (σ.1 32 ((3 : Int32)).toNatClampNeg) = 0 then (some ((-7 : Int32), 0, σ)) else (if mm_in (((16 : Int32) * (3 : Int32)) + x2) 64 then (if (σ.1 33 ((((16 : Int32) * (3 : Int32)) + x2)).toNatClampNeg) = 0 then ((rG d 36 [.ref 0, .int x2] σ).bind fun u1 => (if 0 ≤ u1.1 then (if mm_in (((16 : Int32) * (3 : Int32)) + x2) 64 then (if mm_in (((16 : Int32) * (3 : Int32)) + x2) 64 then (some (((mm_w u1.2.2.1 33 ((((16 : Int32) * (3 : Int32)) + x2)).toNatClampNeg u1.1) 33 ((((16 : Int32) * (3 : Int32)) + x2)).toNatClampNeg), 0, ((mm_w u1.2.2.1 33 ((((16 : Int32) * (3 : Int32)) + x2)).toNatClampNeg u1.1), u1.2.2.2))) else none) else none) else (some (u1.1, 0, u1.2.2)))) else (if mm_in (((16 : Int32) * (3 : Int32)) + x2) 64 then (some ((σ.1 33 ((((16 : Int32) * (3 : Int32)) + x2)).toNatClampNeg), 0, σ)) else none)) else none)) else none)) else none) := by
  refine (mm_entry 99999953 47 (maxL := 5) (labs := rp_40_l) (rows := rp_40_r0) (L := [.ref 0, .int x1, .int x2, .null, .null]) (rk := 1) rfl rfl rfl rfl rfl rfl).trans ?_
  refine (ex_aload_n (x := 0) rfl).trans ?_
  refine (ex_get (u := .ref 7) rfl).trans ?_
  refine (ex_iload_n (x := x2) rfl).trans ?_
  refine (ex_iaload (z := 16) rfl).trans (ex_ite ?_ rfl)
  refine (ex_iconst).trans ?_
  refine (ex_ic_ne (p := 14) (q := rp_40_r1) rfl).trans (ex_ite ?_ ?_)
  · refine (ex_iload_n (x := x1) rfl).trans ?_
    refine (ex_goto (p := 15) (q := rp_40_r2) rfl).trans ?_
    refine (ex_istore_n (L2 := [.ref 0, .int x1, .int x2, .int x1, .null]) rfl).trans ?_
    refine (ex_aload_n (x := 0) rfl).trans ?_
    refine (ex_get (u := .ref 32) rfl).trans ?_
    refine (ex_iload_n (x := x1) rfl).trans ?_
    refine (ex_baload (z := 4) rfl).trans (ex_ite ?_ rfl)
    refine (ex_if_ne (p := 28) (q := rp_40_r3) rfl).trans (ex_ite ?_ ?_)
    · refine (ex_bipush).trans ?_
      exact ex_ireturn
    · refine (ex_aload_n (x := 0) rfl).trans ?_
      refine (ex_get (u := .ref 33) rfl).trans ?_
      refine (ex_bipush).trans ?_
      refine (ex_iload_n (x := x1) rfl).trans ?_
      refine (ex_imul).trans ?_
      refine (ex_iload_n (x := x2) rfl).trans ?_
      refine (ex_iadd).trans ?_
      refine (ex_iaload (z := 64) rfl).trans (ex_ite ?_ rfl)
      refine (ex_if_ne (p := 70) (q := rp_40_r5) rfl).trans (ex_ite ?_ ?_)
      · refine (ex_aload_n (x := 0) rfl).trans ?_
        refine (ex_iload_n (x := x2) rfl).trans ?_
        refine (ex_inv_i (As := [.ref 0, .int x2]) (rest := []) rfl rfl).trans (ex_bnd fun u2 => ?_)
        refine (ex_istore (L2 := [.ref 0, .int x1, .int x2, .int x1, .int u2.1]) rfl).trans ?_
        refine (ex_iload (x := u2.1) rfl).trans ?_
        refine (ex_if_ge (p := 57) (q := rp_40_r4) rfl).trans (ex_ite ?_ ?_)
        · refine (ex_aload_n (x := 0) rfl).trans ?_
          refine (ex_get (u := .ref 33) rfl).trans ?_
          refine (ex_bipush).trans ?_
          refine (ex_iload_n (x := x1) rfl).trans ?_
          refine (ex_imul).trans ?_
          refine (ex_iload_n (x := x2) rfl).trans ?_
          refine (ex_iadd).trans ?_
          refine (ex_iload (x := u2.1) rfl).trans ?_
          refine (ex_iastore (z := 64) rfl).trans (ex_ite ?_ rfl)
          refine (ex_aload_n (x := 0) rfl).trans ?_
          refine (ex_get (u := .ref 33) rfl).trans ?_
          refine (ex_bipush).trans ?_
          refine (ex_iload_n (x := x1) rfl).trans ?_
          refine (ex_imul).trans ?_
          refine (ex_iload_n (x := x2) rfl).trans ?_
          refine (ex_iadd).trans ?_
          refine (ex_iaload (z := 64) rfl).trans (ex_ite ?_ rfl)
          exact ex_ireturn
        · refine (ex_iload (x := u2.1) rfl).trans ?_
          exact ex_ireturn
      · refine (ex_aload_n (x := 0) rfl).trans ?_
        refine (ex_get (u := .ref 33) rfl).trans ?_
        refine (ex_bipush).trans ?_
        refine (ex_iload_n (x := x1) rfl).trans ?_
        refine (ex_imul).trans ?_
        refine (ex_iload_n (x := x2) rfl).trans ?_
        refine (ex_iadd).trans ?_
        refine (ex_iaload (z := 64) rfl).trans (ex_ite ?_ rfl)
        exact ex_ireturn
  · refine (ex_iconst).trans ?_
    refine (ex_istore_n (L2 := [.ref 0, .int x1, .int x2, .int (3 : Int32), .null]) rfl).trans ?_
    refine (ex_aload_n (x := 0) rfl).trans ?_
    refine (ex_get (u := .ref 32) rfl).trans ?_
    refine (ex_iload_n (x := (3 : Int32)) rfl).trans ?_
    refine (ex_baload (z := 4) rfl).trans (ex_ite ?_ rfl)
    refine (ex_if_ne (p := 28) (q := rp_40_r3) rfl).trans (ex_ite ?_ ?_)
    · refine (ex_bipush).trans ?_
      exact ex_ireturn
    · refine (ex_aload_n (x := 0) rfl).trans ?_
      refine (ex_get (u := .ref 33) rfl).trans ?_
      refine (ex_bipush).trans ?_
      refine (ex_iload_n (x := (3 : Int32)) rfl).trans ?_
      refine (ex_imul).trans ?_
      refine (ex_iload_n (x := x2) rfl).trans ?_
      refine (ex_iadd).trans ?_
      refine (ex_iaload (z := 64) rfl).trans (ex_ite ?_ rfl)
      refine (ex_if_ne (p := 70) (q := rp_40_r5) rfl).trans (ex_ite ?_ ?_)
      · refine (ex_aload_n (x := 0) rfl).trans ?_
        refine (ex_iload_n (x := x2) rfl).trans ?_
        refine (ex_inv_i (As := [.ref 0, .int x2]) (rest := []) rfl rfl).trans (ex_bnd fun u1 => ?_)
        refine (ex_istore (L2 := [.ref 0, .int x1, .int x2, .int (3 : Int32), .int u1.1]) rfl).trans ?_
        refine (ex_iload (x := u1.1) rfl).trans ?_
        refine (ex_if_ge (p := 57) (q := rp_40_r4) rfl).trans (ex_ite ?_ ?_)
        · refine (ex_aload_n (x := 0) rfl).trans ?_
          refine (ex_get (u := .ref 33) rfl).trans ?_
          refine (ex_bipush).trans ?_
          refine (ex_iload_n (x := (3 : Int32)) rfl).trans ?_
          refine (ex_imul).trans ?_
          refine (ex_iload_n (x := x2) rfl).trans ?_
          refine (ex_iadd).trans ?_
          refine (ex_iload (x := u1.1) rfl).trans ?_
          refine (ex_iastore (z := 64) rfl).trans (ex_ite ?_ rfl)
          refine (ex_aload_n (x := 0) rfl).trans ?_
          refine (ex_get (u := .ref 33) rfl).trans ?_
          refine (ex_bipush).trans ?_
          refine (ex_iload_n (x := (3 : Int32)) rfl).trans ?_
          refine (ex_imul).trans ?_
          refine (ex_iload_n (x := x2) rfl).trans ?_
          refine (ex_iadd).trans ?_
          refine (ex_iaload (z := 64) rfl).trans (ex_ite ?_ rfl)
          exact ex_ireturn
        · refine (ex_iload (x := u1.1) rfl).trans ?_
          exact ex_ireturn
      · refine (ex_aload_n (x := 0) rfl).trans ?_
        refine (ex_get (u := .ref 33) rfl).trans ?_
        refine (ex_bipush).trans ?_
        refine (ex_iload_n (x := (3 : Int32)) rfl).trans ?_
        refine (ex_imul).trans ?_
        refine (ex_iload_n (x := x2) rfl).trans ?_
        refine (ex_iadd).trans ?_
        refine (ex_iaload (z := 64) rfl).trans (ex_ite ?_ rfl)
        exact ex_ireturn
-- 41: WiringContainerModel.isThread(I)Z
set_option maxRecDepth 100000 in
set_option maxHeartbeats 4000000 in
theorem rp_41_g (d : Nat) (σ : mm_S) (x0 : Int32) : rG (d + 1) 41 [.int x0] σ = (if x0 < 0 then (some ((0 : Int32), 0, σ)) else (if (2 : Int32) < x0 then (some ((0 : Int32), 0, σ)) else (some ((1 : Int32), 0, σ)))) := by
  refine (mm_entry 99999992 8 (maxL := 1) (labs := rp_41_l) (rows := rp_41_r0) (L := [.int x0]) (rk := 3) rfl rfl rfl rfl rfl rfl).trans ?_
  refine (ex_iload_n (x := x0) rfl).trans ?_
  refine (ex_if_lt (p := 13) (q := rp_41_r1) rfl).trans (ex_ite ?_ ?_)
  · refine (ex_iconst).trans ?_
    exact ex_zreturn0
  · refine (ex_iload_n (x := x0) rfl).trans ?_
    refine (ex_iconst).trans ?_
    refine (ex_ic_gt (p := 13) (q := rp_41_r1) rfl).trans (ex_ite ?_ ?_)
    · refine (ex_iconst).trans ?_
      exact ex_zreturn0
    · refine (ex_iconst).trans ?_
      refine (ex_goto (p := 14) (q := rp_41_r2) rfl).trans ?_
      exact ex_zreturn1
-- 42: WiringContainerModel.living(I)Z
set_option maxRecDepth 100000 in
set_option maxHeartbeats 4000000 in
theorem rp_42_g (d : Nat) (σ : mm_S) (x1 : Int32) : rG (d + 1) 42 [.ref 0, .int x1] σ = (if x1 < (1 : Int32) then (some ((0 : Int32), 0, σ)) else (if (σ.1 0 24) < x1 then (some ((0 : Int32), 0, σ)) else (if mm_in x1 201 then (if (σ.1 23 (x1).toNatClampNeg) = 0 then (some ((0 : Int32), 0, σ)) else (some ((1 : Int32), 0, σ))) else none))) := by
  refine (mm_entry 99999985 15 (maxL := 2) (labs := rp_42_l) (rows := rp_42_r0) (L := [.ref 0, .int x1]) (rk := 3) rfl rfl rfl rfl rfl rfl).trans ?_
  refine (ex_iload_n (x := x1) rfl).trans ?_
  refine (ex_iconst).trans ?_
  refine (ex_ic_lt (p := 26) (q := rp_42_r1) rfl).trans (ex_ite ?_ ?_)
  · refine (ex_iconst).trans ?_
    exact ex_zreturn0
  · refine (ex_iload_n (x := x1) rfl).trans ?_
    refine (ex_aload_n (x := 0) rfl).trans ?_
    refine (ex_get (u := .int (σ.1 0 24)) rfl).trans ?_
    refine (ex_ic_gt (p := 26) (q := rp_42_r1) rfl).trans (ex_ite ?_ ?_)
    · refine (ex_iconst).trans ?_
      exact ex_zreturn0
    · refine (ex_aload_n (x := 0) rfl).trans ?_
      refine (ex_get (u := .ref 23) rfl).trans ?_
      refine (ex_iload_n (x := x1) rfl).trans ?_
      refine (ex_baload (z := 201) rfl).trans (ex_ite ?_ rfl)
      refine (ex_if_eq (p := 26) (q := rp_42_r1) rfl).trans (ex_ite ?_ ?_)
      · refine (ex_iconst).trans ?_
        exact ex_zreturn0
      · refine (ex_iconst).trans ?_
        refine (ex_goto (p := 27) (q := rp_42_r2) rfl).trans ?_
        exact ex_zreturn1
-- 43: WiringContainerModel.begin(I)Z
set_option maxRecDepth 100000 in
set_option maxHeartbeats 4000000 in
theorem rp_43_g (d : Nat) (σ : mm_S) (x1 : Int32) : rG (d + 1) 43 [.ref 0, .int x1] σ = (if (σ.1 0 15) = 0 then (some ((0 : Int32), 0, σ)) else ((rG d 41 [.int x1] σ).bind fun u1 => (if u1.1 = 0 then (some ((0 : Int32), 0, u1.2.2)) else (if mm_in x1 4 then (if (u1.2.2.1 32 (x1).toNatClampNeg) = 0 then (if mm_in x1 4 then (some ((1 : Int32), 0, ((mm_w u1.2.2.1 32 (x1).toNatClampNeg (1 : Int32)), u1.2.2.2))) else none) else (some ((0 : Int32), 0, u1.2.2))) else none)))) := by
  refine (mm_entry 99999982 18 (maxL := 2) (labs := rp_43_l) (rows := rp_43_r0) (L := [.ref 0, .int x1]) (rk := 3) rfl rfl rfl rfl rfl rfl).trans ?_
  refine (ex_aload_n (x := 0) rfl).trans ?_
  refine (ex_get (u := .int (σ.1 0 15)) rfl).trans ?_
  refine (ex_if_eq (p := 23) (q := rp_43_r1) rfl).trans (ex_ite ?_ ?_)
  · refine (ex_iconst).trans ?_
    exact ex_zreturn0
  · refine (ex_iload_n (x := x1) rfl).trans ?_
    refine (ex_sta_z (As := [.int x1]) (rest := []) (by decide) (by decide) rfl rfl).trans (ex_bnd fun u1 => ?_)
    refine (ex_if_eq (p := 23) (q := rp_43_r1) rfl).trans (ex_ite ?_ ?_)
    · refine (ex_iconst).trans ?_
      exact ex_zreturn0
    · refine (ex_aload_n (x := 0) rfl).trans ?_
      refine (ex_get (u := .ref 32) rfl).trans ?_
      refine (ex_iload_n (x := x1) rfl).trans ?_
      refine (ex_baload (z := 4) rfl).trans (ex_ite ?_ rfl)
      refine (ex_if_eq (p := 25) (q := rp_43_r2) rfl).trans (ex_ite ?_ ?_)
      · refine (ex_aload_n (x := 0) rfl).trans ?_
        refine (ex_get (u := .ref 32) rfl).trans ?_
        refine (ex_iload_n (x := x1) rfl).trans ?_
        refine (ex_iconst).trans ?_
        refine (ex_bastore (z := 4) rfl).trans (ex_ite ((if_pos (by decide)).trans ?_) rfl)
        refine (ex_iconst).trans ?_
        exact ex_zreturn1
      · refine (ex_iconst).trans ?_
        exact ex_zreturn0
-- 44: WiringContainerModel.end(I)I
set_option maxRecDepth 100000 in
set_option maxHeartbeats 4000000 in
theorem rp_44_g (d : Nat) (σ : mm_S) (x1 : Int32) : rG (d + 1) 44 [.ref 0, .int x1] σ = (if (σ.1 0 15) = 0 then (some ((-3 : Int32), 0, σ)) else ((rG d 41 [.int x1] σ).bind fun u1 => (if u1.1 = 0 then (some ((-1 : Int32), 0, u1.2.2)) else (if mm_in x1 4 then (if (u1.2.2.1 32 (x1).toNatClampNeg) = 0 then (some ((-7 : Int32), 0, u1.2.2)) else (if mm_in x1 4 then ((rG d 39 [.ref 0, .int x1] ((mm_w u1.2.2.1 32 (x1).toNatClampNeg (0 : Int32)), u1.2.2.2)).bind fun u2 => (some (u2.1, 0, u2.2.2))) else none)) else none)))) := by
  refine (mm_entry 99999980 20 (maxL := 2) (labs := rp_44_l) (rows := rp_44_r0) (L := [.ref 0, .int x1]) (rk := 1) rfl rfl rfl rfl rfl rfl).trans ?_
  refine (ex_aload_n (x := 0) rfl).trans ?_
  refine (ex_get (u := .int (σ.1 0 15)) rfl).trans ?_
  refine (ex_if_ne (p := 10) (q := rp_44_r1) rfl).trans (ex_ite ?_ ?_)
  · refine (ex_bipush).trans ?_
    exact ex_ireturn
  · refine (ex_iload_n (x := x1) rfl).trans ?_
    refine (ex_sta_z (As := [.int x1]) (rest := []) (by decide) (by decide) rfl rfl).trans (ex_bnd fun u1 => ?_)
    refine (ex_if_ne (p := 19) (q := rp_44_r2) rfl).trans (ex_ite ?_ ?_)
    · refine (ex_iconst).trans ?_
      exact ex_ireturn
    · refine (ex_aload_n (x := 0) rfl).trans ?_
      refine (ex_get (u := .ref 32) rfl).trans ?_
      refine (ex_iload_n (x := x1) rfl).trans ?_
      refine (ex_baload (z := 4) rfl).trans (ex_ite ?_ rfl)
      refine (ex_if_ne (p := 31) (q := rp_44_r3) rfl).trans (ex_ite ?_ ?_)
      · refine (ex_bipush).trans ?_
        exact ex_ireturn
      · refine (ex_aload_n (x := 0) rfl).trans ?_
        refine (ex_get (u := .ref 32) rfl).trans ?_
        refine (ex_iload_n (x := x1) rfl).trans ?_
        refine (ex_iconst).trans ?_
        refine (ex_bastore (z := 4) rfl).trans (ex_ite ((if_pos (by decide)).trans ?_) rfl)
        refine (ex_aload_n (x := 0) rfl).trans ?_
        refine (ex_iload_n (x := x1) rfl).trans ?_
        refine (ex_inv_i (As := [.ref 0, .int x1]) (rest := []) rfl rfl).trans (ex_bnd fun u2 => ?_)
        exact ex_ireturn
-- 45: WiringContainerModel.obtain(III)I
set_option maxRecDepth 100000 in
set_option maxHeartbeats 4000000 in
theorem rp_45_g (d : Nat) (σ : mm_S) (x1 : Int32) (x2 : Int32) (x3 : Int32) : rG (d + 1) 45 [.ref 0, .int x1, .int x2, .int x3] σ = (if (σ.1 0 15) = 0 then (some ((-3 : Int32), 0, σ)) else ((rG d 41 [.int x1] σ).bind fun u1 => (if u1.1 = 0 then (some ((-1 : Int32), 0, u1.2.2)) else ((rG d 1 [.ref 0, .int x2] u1.2.2).bind fun u2 => (if u2.1 = 0 then (some ((-1 : Int32), 0, u2.2.2)) else ((rG d 3 [.int x3] u2.2.2).bind fun u3 => (if u3.1 = 0 then (some ((-1 : Int32), 0, u3.2.2)) else ((rG d 22 [.ref 0, .int x2, .int x3] u3.2.2).bind fun u4 => (if 0 ≤ u4.1 then (if mm_in u4.1 16 then (if (u4.2.2.1 7 (u4.1).toNatClampNeg) = 0 then ((rG d 36 [.ref 0, .int u4.1] u4.2.2).bind fun u5 => (if u5.1 ≤ 0 then (some (u5.1, 0, u5.2.2)) else (if mm_in u5.1 201 then (some (u5.1, 0, ((mm_w u5.2.2.1 24 (u5.1).toNatClampNeg (1 : Int32)), u5.2.2.2))) else none))) else (if mm_in (x2 &&& (31 : Int32)) 32 then (if (u4.2.2.1 2 ((x2 &&& (31 : Int32))).toNatClampNeg) = 0 then ((rG d 40 [.ref 0, .int x1, .int u4.1] u4.2.2).bind fun u6 => (some (u6.1, 0, u6.2.2))) else (some ((-6 : Int32), 0, u4.2.2))) else none)) else none) else (some (u4.1, 0, u4.2.2))))))))))) := by
  refine (mm_entry 99999962 38 (maxL := 6) (labs := rp_45_l) (rows := rp_45_r0) (L := [.ref 0, .int x1, .int x2, .int x3, .null, .null]) (rk := 1) rfl rfl rfl rfl rfl rfl).trans ?_
  refine (ex_aload_n (x := 0) rfl).trans ?_
  refine (ex_get (u := .int (σ.1 0 15)) rfl).trans ?_
  refine (ex_if_ne (p := 10) (q := rp_45_r1) rfl).trans (ex_ite ?_ ?_)
  · refine (ex_bipush).trans ?_
    exact ex_ireturn
  · refine (ex_iload_n (x := x1) rfl).trans ?_
    refine (ex_sta_z (As := [.int x1]) (rest := []) (by decide) (by decide) rfl rfl).trans (ex_bnd fun u1 => ?_)
    refine (ex_if_eq (p := 32) (q := rp_45_r2) rfl).trans (ex_ite ?_ ?_)
    · refine (ex_iconst).trans ?_
      exact ex_ireturn
    · refine (ex_aload_n (x := 0) rfl).trans ?_
      refine (ex_iload_n (x := x2) rfl).trans ?_
      refine (ex_inv_z (As := [.ref 0, .int x2]) (rest := []) rfl rfl).trans (ex_bnd fun u2 => ?_)
      refine (ex_if_eq (p := 32) (q := rp_45_r2) rfl).trans (ex_ite ?_ ?_)
      · refine (ex_iconst).trans ?_
        exact ex_ireturn
      · refine (ex_iload_n (x := x3) rfl).trans ?_
        refine (ex_sta_z (As := [.int x3]) (rest := []) (by decide) (by decide) rfl rfl).trans (ex_bnd fun u3 => ?_)
        refine (ex_if_ne (p := 34) (q := rp_45_r3) rfl).trans (ex_ite ?_ ?_)
        · refine (ex_iconst).trans ?_
          exact ex_ireturn
        · refine (ex_aload_n (x := 0) rfl).trans ?_
          refine (ex_iload_n (x := x2) rfl).trans ?_
          refine (ex_iload_n (x := x3) rfl).trans ?_
          refine (ex_inv_i (As := [.ref 0, .int x2, .int x3]) (rest := []) rfl rfl).trans (ex_bnd fun u4 => ?_)
          refine (ex_istore (L2 := [.ref 0, .int x1, .int x2, .int x3, .int u4.1, .null]) rfl).trans ?_
          refine (ex_iload (x := u4.1) rfl).trans ?_
          refine (ex_if_ge (p := 50) (q := rp_45_r4) rfl).trans (ex_ite ?_ ?_)
          · refine (ex_aload_n (x := 0) rfl).trans ?_
            refine (ex_get (u := .ref 7) rfl).trans ?_
            refine (ex_iload (x := u4.1) rfl).trans ?_
            refine (ex_iaload (z := 16) rfl).trans (ex_ite ?_ rfl)
            refine (ex_if_eq (p := 85) (q := rp_45_r7) rfl).trans (ex_ite ?_ ?_)
            · refine (ex_aload_n (x := 0) rfl).trans ?_
              refine (ex_iload (x := u4.1) rfl).trans ?_
              refine (ex_inv_i (As := [.ref 0, .int u4.1]) (rest := []) rfl rfl).trans (ex_bnd fun u5 => ?_)
              refine (ex_istore (L2 := [.ref 0, .int x1, .int x2, .int x3, .int u4.1, .int u5.1]) rfl).trans ?_
              refine (ex_iload (x := u5.1) rfl).trans ?_
              refine (ex_if_le (p := 106) (q := rp_45_r8) rfl).trans (ex_ite ?_ ?_)
              · refine (ex_iload (x := u5.1) rfl).trans ?_
                exact ex_ireturn
              · refine (ex_aload_n (x := 0) rfl).trans ?_
                refine (ex_get (u := .ref 24) rfl).trans ?_
                refine (ex_iload (x := u5.1) rfl).trans ?_
                refine (ex_iconst).trans ?_
                refine (ex_bastore (z := 201) rfl).trans (ex_ite ((if_pos (by decide)).trans ?_) rfl)
                refine (ex_iload (x := u5.1) rfl).trans ?_
                exact ex_ireturn
            · refine (ex_aload_n (x := 0) rfl).trans ?_
              refine (ex_get (u := .ref 2) rfl).trans ?_
              refine (ex_iload_n (x := x2) rfl).trans ?_
              refine (ex_bipush).trans ?_
              refine (ex_iand).trans ?_
              refine (ex_baload (z := 32) rfl).trans (ex_ite ?_ rfl)
              refine (ex_if_eq (p := 77) (q := rp_45_r5) rfl).trans (ex_ite ?_ ?_)
              · refine (ex_aload_n (x := 0) rfl).trans ?_
                refine (ex_iload_n (x := x1) rfl).trans ?_
                refine (ex_iload (x := u4.1) rfl).trans ?_
                refine (ex_inv_i (As := [.ref 0, .int x1, .int u4.1]) (rest := []) rfl rfl).trans (ex_bnd fun u6 => ?_)
                exact ex_ireturn
              · refine (ex_bipush).trans ?_
                refine (ex_goto (p := 84) (q := rp_45_r6) rfl).trans ?_
                exact ex_ireturn
          · refine (ex_iload (x := u4.1) rfl).trans ?_
            exact ex_ireturn
-- 46: WiringContainerModel.call(III)I
set_option maxRecDepth 100000 in
set_option maxHeartbeats 4000000 in
theorem rp_46_g (d : Nat) (σ : mm_S) (x1 : Int32) (x2 : Int32) (x3 : Int32) : rG (d + 1) 46 [.ref 0, .int x1, .int x2, .int x3] σ = (if (σ.1 0 15) = 0 then (some ((-3 : Int32), 0, σ)) else ((rG d 41 [.int x1] σ).bind fun u1 => (if u1.1 = 0 then (some ((-1 : Int32), 0, u1.2.2)) else ((rG d 42 [.ref 0, .int x2] u1.2.2).bind fun u2 => (if u2.1 = 0 then (some ((-8 : Int32), 0, u2.2.2)) else (if mm_in x2 201 then (if x3 < 0 then (some ((-1 : Int32), 0, u2.2.2)) else (if mm_in (u2.2.2.1 20 (x2).toNatClampNeg) 16 then (if x3 < (u2.2.2.1 11 ((u2.2.2.1 20 (x2).toNatClampNeg)).toNatClampNeg) then (if mm_in (((3 : Int32) * (u2.2.2.1 20 (x2).toNatClampNeg)) + x3) 48 then (if mm_in (u2.2.2.1 14 ((((3 : Int32) * (u2.2.2.1 20 (x2).toNatClampNeg)) + x3)).toNatClampNeg) 16 then (if (u2.2.2.1 7 ((u2.2.2.1 14 ((((3 : Int32) * (u2.2.2.1 20 (x2).toNatClampNeg)) + x3)).toNatClampNeg)).toNatClampNeg) = 0 then (mm_ex sr (rG d) 1 rp_46_l (99999957 + 0) rp_46_r7 [.ref 0, .int x1, .int x2, .int x3, .int (u2.2.2.1 20 (x2).toNatClampNeg), .int (u2.2.2.1 14 ((((3 : Int32) * (u2.2.2.1 20 (x2).toNatClampNeg)) + x3)).toNatClampNeg), .int (0 : Int32), .int (x2 + (1 : Int32))] [] u2.2.2) else ((rG d 40 [.ref 0, .int x1, .int (u2.2.2.1 14 ((((3 : Int32) * (u2.2.2.1 20 (x2).toNatClampNeg)) + x3)).toNatClampNeg)] u2.2.2).bind fun u3 => (some (u3.1, 0, u3.2.2)))) else none) else none) else (some ((-1 : Int32), 0, u2.2.2))) else none)) else none)))))) := by
  refine (mm_entry 99999957 43 (maxL := 8) (labs := rp_46_l) (rows := rp_46_r0) (L := [.ref 0, .int x1, .int x2, .int x3, .null, .null, .null, .null]) (rk := 1) rfl rfl rfl rfl rfl rfl).trans ?_
  refine (ex_aload_n (x := 0) rfl).trans ?_
  refine (ex_get (u := .int (σ.1 0 15)) rfl).trans ?_
  refine (ex_if_ne (p := 10) (q := rp_46_r1) rfl).trans (ex_ite ?_ ?_)
  · refine (ex_bipush).trans ?_
    exact ex_ireturn
  · refine (ex_iload_n (x := x1) rfl).trans ?_
    refine (ex_sta_z (As := [.int x1]) (rest := []) (by decide) (by decide) rfl rfl).trans (ex_bnd fun u1 => ?_)
    refine (ex_if_ne (p := 19) (q := rp_46_r2) rfl).trans (ex_ite ?_ ?_)
    · refine (ex_iconst).trans ?_
      exact ex_ireturn
    · refine (ex_aload_n (x := 0) rfl).trans ?_
      refine (ex_iload_n (x := x2) rfl).trans ?_
      refine (ex_inv_z (As := [.ref 0, .int x2]) (rest := []) rfl rfl).trans (ex_bnd fun u2 => ?_)
      refine (ex_if_ne (p := 30) (q := rp_46_r3) rfl).trans (ex_ite ?_ ?_)
      · refine (ex_bipush).trans ?_
        exact ex_ireturn
      · refine (ex_aload_n (x := 0) rfl).trans ?_
        refine (ex_get (u := .ref 20) rfl).trans ?_
        refine (ex_iload_n (x := x2) rfl).trans ?_
        refine (ex_iaload (z := 201) rfl).trans (ex_ite ?_ rfl)
        refine (ex_istore (L2 := [.ref 0, .int x1, .int x2, .int x3, .int (u2.2.2.1 20 (x2).toNatClampNeg), .null, .null, .null]) rfl).trans ?_
        refine (ex_iload_n (x := x3) rfl).trans ?_
        refine (ex_if_lt (p := 53) (q := rp_46_r4) rfl).trans (ex_ite ?_ ?_)
        · refine (ex_iconst).trans ?_
          exact ex_ireturn
        · refine (ex_iload_n (x := x3) rfl).trans ?_
          refine (ex_aload_n (x := 0) rfl).trans ?_
          refine (ex_get (u := .ref 11) rfl).trans ?_
          refine (ex_iload (x := (u2.2.2.1 20 (x2).toNatClampNeg)) rfl).trans ?_
          refine (ex_iaload (z := 16) rfl).trans (ex_ite ?_ rfl)
          refine (ex_ic_lt (p := 55) (q := rp_46_r5) rfl).trans (ex_ite ?_ ?_)
          · refine (ex_aload_n (x := 0) rfl).trans ?_
            refine (ex_get (u := .ref 14) rfl).trans ?_
            refine (ex_iconst).trans ?_
            refine (ex_iload (x := (u2.2.2.1 20 (x2).toNatClampNeg)) rfl).trans ?_
            refine (ex_imul).trans ?_
            refine (ex_iload_n (x := x3) rfl).trans ?_
            refine (ex_iadd).trans ?_
            refine (ex_iaload (z := 48) rfl).trans (ex_ite ?_ rfl)
            refine (ex_istore (L2 := [.ref 0, .int x1, .int x2, .int x3, .int (u2.2.2.1 20 (x2).toNatClampNeg), .int (u2.2.2.1 14 ((((3 : Int32) * (u2.2.2.1 20 (x2).toNatClampNeg)) + x3)).toNatClampNeg), .null, .null]) rfl).trans ?_
            refine (ex_aload_n (x := 0) rfl).trans ?_
            refine (ex_get (u := .ref 7) rfl).trans ?_
            refine (ex_iload (x := (u2.2.2.1 14 ((((3 : Int32) * (u2.2.2.1 20 (x2).toNatClampNeg)) + x3)).toNatClampNeg)) rfl).trans ?_
            refine (ex_iaload (z := 16) rfl).trans (ex_ite ?_ rfl)
            refine (ex_if_eq (p := 86) (q := rp_46_r6) rfl).trans (ex_ite ?_ ?_)
            · refine (ex_iconst).trans ?_
              refine (ex_istore (L2 := [.ref 0, .int x1, .int x2, .int x3, .int (u2.2.2.1 20 (x2).toNatClampNeg), .int (u2.2.2.1 14 ((((3 : Int32) * (u2.2.2.1 20 (x2).toNatClampNeg)) + x3)).toNatClampNeg), .int (0 : Int32), .null]) rfl).trans ?_
              refine (ex_iload_n (x := x2) rfl).trans ?_
              refine (ex_iconst).trans ?_
              refine (ex_iadd).trans ?_
              refine (ex_istore (L2 := [.ref 0, .int x1, .int x2, .int x3, .int (u2.2.2.1 20 (x2).toNatClampNeg), .int (u2.2.2.1 14 ((((3 : Int32) * (u2.2.2.1 20 (x2).toNatClampNeg)) + x3)).toNatClampNeg), .int (0 : Int32), .int (x2 + (1 : Int32))]) rfl).trans ?_
              exact rfl
            · refine (ex_aload_n (x := 0) rfl).trans ?_
              refine (ex_iload_n (x := x1) rfl).trans ?_
              refine (ex_iload (x := (u2.2.2.1 14 ((((3 : Int32) * (u2.2.2.1 20 (x2).toNatClampNeg)) + x3)).toNatClampNeg)) rfl).trans ?_
              refine (ex_inv_i (As := [.ref 0, .int x1, .int (u2.2.2.1 14 ((((3 : Int32) * (u2.2.2.1 20 (x2).toNatClampNeg)) + x3)).toNatClampNeg)]) (rest := []) rfl rfl).trans (ex_bnd fun u3 => ?_)
              exact ex_ireturn
          · refine (ex_iconst).trans ?_
            exact ex_ireturn
set_option maxRecDepth 100000 in
set_option maxHeartbeats 4000000 in
theorem rp_46_h7 (d n : Nat) (σ : mm_S) (x1 : Int32) (x2 : Int32) (x3 : Int32) (x4 : Int32) (x5 : Int32) (x6 : Int32) (x7 : Int32) : mm_ex sr (rG d) 1 rp_46_l (n + 20) rp_46_r7 [.ref 0, .int x1, .int x2, .int x3, .int x4, .int x5, .int x6, .int x7] [] σ = (if (σ.1 0 24) < x7 then (some (x6, 0, σ)) else (if mm_in x7 201 then (if (σ.1 21 (x7).toNatClampNeg) = x2 then (if mm_in x7 201 then (if (σ.1 22 (x7).toNatClampNeg) = x3 then (mm_ex sr (rG d) 1 rp_46_l (n + 0) rp_46_r7 [.ref 0, .int x1, .int x2, .int x3, .int x4, .int x5, .int x7, .int (x7 + (1 : Int32))] [] σ) else (mm_ex sr (rG d) 1 rp_46_l (n + 2) rp_46_r7 [.ref 0, .int x1, .int x2, .int x3, .int x4, .int x5, .int x6, .int (x7 + (1 : Int32))] [] σ)) else none) else (mm_ex sr (rG d) 1 rp_46_l (n + 8) rp_46_r7 [.ref 0, .int x1, .int x2, .int x3, .int x4, .int x5, .int x6, .int (x7 + (1 : Int32))] [] σ)) else none)) := by
  refine (ex_iload (x := x7) rfl).trans ?_
  refine (ex_aload_n (x := 0) rfl).trans ?_
  refine (ex_get (u := .int (σ.1 0 24)) rfl).trans ?_
  refine (ex_ic_gt (p := 135) (q := rp_46_r9) rfl).trans (ex_ite ?_ ?_)
  · refine (ex_iload (x := x6) rfl).trans ?_
    exact ex_ireturn
  · refine (ex_aload_n (x := 0) rfl).trans ?_
    refine (ex_get (u := .ref 21) rfl).trans ?_
    refine (ex_iload (x := x7) rfl).trans ?_
    refine (ex_iaload (z := 201) rfl).trans (ex_ite ?_ rfl)
    refine (ex_iload_n (x := x2) rfl).trans ?_
    refine (ex_ic_ne (p := 129) (q := rp_46_r8) rfl).trans (ex_ite ?_ ?_)
    · refine (ex_aload_n (x := 0) rfl).trans ?_
      refine (ex_get (u := .ref 22) rfl).trans ?_
      refine (ex_iload (x := x7) rfl).trans ?_
      refine (ex_iaload (z := 201) rfl).trans (ex_ite ?_ rfl)
      refine (ex_iload_n (x := x3) rfl).trans ?_
      refine (ex_ic_ne (p := 129) (q := rp_46_r8) rfl).trans (ex_ite ?_ ?_)
      · refine (ex_iload (x := x7) rfl).trans ?_
        refine (ex_istore (L2 := [.ref 0, .int x1, .int x2, .int x3, .int x4, .int x5, .int x7, .int x7]) rfl).trans ?_
        refine (ex_iinc (L2 := [.ref 0, .int x1, .int x2, .int x3, .int x4, .int x5, .int x7, .int (x7 + (1 : Int32))]) rfl rfl).trans ?_
        refine (ex_goto (p := 94) (q := rp_46_r7) rfl).trans ?_
        exact rfl
      · refine (ex_iinc (L2 := [.ref 0, .int x1, .int x2, .int x3, .int x4, .int x5, .int x6, .int (x7 + (1 : Int32))]) rfl rfl).trans ?_
        refine (ex_goto (p := 94) (q := rp_46_r7) rfl).trans ?_
        exact rfl
    · refine (ex_iinc (L2 := [.ref 0, .int x1, .int x2, .int x3, .int x4, .int x5, .int x6, .int (x7 + (1 : Int32))]) rfl rfl).trans ?_
      refine (ex_goto (p := 94) (q := rp_46_r7) rfl).trans ?_
      exact rfl
-- 47: WiringContainerModel.destroy(I)I
set_option maxRecDepth 100000 in
set_option maxHeartbeats 4000000 in
theorem rp_47_g (d : Nat) (σ : mm_S) (x1 : Int32) : rG (d + 1) 47 [.ref 0, .int x1] σ = (if (σ.1 0 15) = 0 then (some ((-3 : Int32), 0, σ)) else ((rG d 42 [.ref 0, .int x1] σ).bind fun u1 => (if u1.1 = 0 then (some ((-8 : Int32), 0, u1.2.2)) else (if mm_in x1 201 then (if (u1.2.2.1 21 (x1).toNatClampNeg) = 0 then (mm_ex sr (rG d) 1 rp_47_l (99999986 + 0) rp_47_r4 [.ref 0, .int x1, .int (0 : Int32)] [] u1.2.2) else (some ((-1 : Int32), 0, u1.2.2))) else none)))) := by
  refine (mm_entry 99999986 14 (maxL := 3) (labs := rp_47_l) (rows := rp_47_r0) (L := [.ref 0, .int x1, .null]) (rk := 1) rfl rfl rfl rfl rfl rfl).trans ?_
  refine (ex_aload_n (x := 0) rfl).trans ?_
  refine (ex_get (u := .int (σ.1 0 15)) rfl).trans ?_
  refine (ex_if_ne (p := 10) (q := rp_47_r1) rfl).trans (ex_ite ?_ ?_)
  · refine (ex_bipush).trans ?_
    exact ex_ireturn
  · refine (ex_aload_n (x := 0) rfl).trans ?_
    refine (ex_iload_n (x := x1) rfl).trans ?_
    refine (ex_inv_z (As := [.ref 0, .int x1]) (rest := []) rfl rfl).trans (ex_bnd fun u1 => ?_)
    refine (ex_if_ne (p := 21) (q := rp_47_r2) rfl).trans (ex_ite ?_ ?_)
    · refine (ex_bipush).trans ?_
      exact ex_ireturn
    · refine (ex_aload_n (x := 0) rfl).trans ?_
      refine (ex_get (u := .ref 21) rfl).trans ?_
      refine (ex_iload_n (x := x1) rfl).trans ?_
      refine (ex_iaload (z := 201) rfl).trans (ex_ite ?_ rfl)
      refine (ex_if_eq (p := 32) (q := rp_47_r3) rfl).trans (ex_ite ?_ ?_)
      · refine (ex_iconst).trans ?_
        refine (ex_istore_n (L2 := [.ref 0, .int x1, .int (0 : Int32)]) rfl).trans ?_
        exact rfl
      · refine (ex_iconst).trans ?_
        exact ex_ireturn
set_option maxRecDepth 100000 in
set_option maxHeartbeats 4000000 in
theorem rp_47_h4 (d n : Nat) (σ : mm_S) (x1 : Int32) (x2 : Int32) : mm_ex sr (rG d) 1 rp_47_l (n + 16) rp_47_r4 [.ref 0, .int x1, .int x2] [] σ = (if (64 : Int32) ≤ x2 then ((rG d 38 [.ref 0, .int x1, .int (0 : Int32)] σ).bind fun u1 => (some (u1.1, 0, u1.2.2))) else (if mm_in x2 64 then (if (σ.1 33 (x2).toNatClampNeg) = x1 then (if mm_in x2 64 then (mm_ex sr (rG d) 1 rp_47_l (n + 0) rp_47_r4 [.ref 0, .int x1, .int (x2 + (1 : Int32))] [] ((mm_w σ.1 33 (x2).toNatClampNeg (0 : Int32)), σ.2)) else none) else (mm_ex sr (rG d) 1 rp_47_l (n + 5) rp_47_r4 [.ref 0, .int x1, .int (x2 + (1 : Int32))] [] σ)) else none)) := by
  refine (ex_iload_n (x := x2) rfl).trans ?_
  refine (ex_bipush).trans ?_
  refine (ex_ic_ge (p := 63) (q := rp_47_r6) rfl).trans (ex_ite ?_ ?_)
  · refine (ex_aload_n (x := 0) rfl).trans ?_
    refine (ex_iload_n (x := x1) rfl).trans ?_
    refine (ex_iconst).trans ?_
    refine (ex_inv_i (As := [.ref 0, .int x1, .int (0 : Int32)]) (rest := []) rfl rfl).trans (ex_bnd fun u1 => ?_)
    exact ex_ireturn
  · refine (ex_aload_n (x := 0) rfl).trans ?_
    refine (ex_get (u := .ref 33) rfl).trans ?_
    refine (ex_iload_n (x := x2) rfl).trans ?_
    refine (ex_iaload (z := 64) rfl).trans (ex_ite ?_ rfl)
    refine (ex_iload_n (x := x1) rfl).trans ?_
    refine (ex_ic_ne (p := 57) (q := rp_47_r5) rfl).trans (ex_ite ?_ ?_)
    · refine (ex_aload_n (x := 0) rfl).trans ?_
      refine (ex_get (u := .ref 33) rfl).trans ?_
      refine (ex_iload_n (x := x2) rfl).trans ?_
      refine (ex_iconst).trans ?_
      refine (ex_iastore (z := 64) rfl).trans (ex_ite ?_ rfl)
      refine (ex_iinc (L2 := [.ref 0, .int x1, .int (x2 + (1 : Int32))]) rfl rfl).trans ?_
      refine (ex_goto (p := 34) (q := rp_47_r4) rfl).trans ?_
      exact rfl
    · refine (ex_iinc (L2 := [.ref 0, .int x1, .int (x2 + (1 : Int32))]) rfl rfl).trans ?_
      refine (ex_goto (p := 34) (q := rp_47_r4) rfl).trans ?_
      exact rfl
-- 48: WiringContainerModel.shutdown()I
set_option maxRecDepth 100000 in
set_option maxHeartbeats 4000000 in
theorem rp_48_g (d : Nat) (σ : mm_S) : rG (d + 1) 48 [.ref 0] σ = (if (σ.1 0 15) = 0 then (some ((-3 : Int32), 0, σ)) else (mm_ex sr (rG d) 1 rp_48_l (99999993 + 0) rp_48_r2 [.ref 0, .int (0 : Int32), .int (0 : Int32)] [] σ)) := by
  refine (mm_entry 99999993 7 (maxL := 3) (labs := rp_48_l) (rows := rp_48_r0) (L := [.ref 0, .null, .null]) (rk := 1) rfl rfl rfl rfl rfl rfl).trans ?_
  refine (ex_aload_n (x := 0) rfl).trans ?_
  refine (ex_get (u := .int (σ.1 0 15)) rfl).trans ?_
  refine (ex_if_ne (p := 10) (q := rp_48_r1) rfl).trans (ex_ite ?_ ?_)
  · refine (ex_bipush).trans ?_
    exact ex_ireturn
  · refine (ex_iconst).trans ?_
    refine (ex_istore_n (L2 := [.ref 0, .int (0 : Int32), .null]) rfl).trans ?_
    refine (ex_iconst).trans ?_
    refine (ex_istore_n (L2 := [.ref 0, .int (0 : Int32), .int (0 : Int32)]) rfl).trans ?_
    exact rfl
set_option maxRecDepth 100000 in
set_option maxHeartbeats 4000000 in
theorem rp_48_h2 (d n : Nat) (σ : mm_S) (x1 : Int32) (x2 : Int32) : mm_ex sr (rG d) 1 rp_48_l (n + 16) rp_48_r2 [.ref 0, .int x1, .int x2] [] σ = (if (3 : Int32) ≤ x2 then (mm_ex sr (rG d) 1 rp_48_l (n + 10) rp_48_r4 [.ref 0, .int x1, .int (σ.1 0 24)] [] σ) else ((rG d 39 [.ref 0, .int x2] σ).bind fun u1 => (if mm_in x2 4 then (mm_ex sr (rG d) 1 rp_48_l (n + 0) rp_48_r2 [.ref 0, .int (x1 + u1.1), .int (x2 + (1 : Int32))] [] ((mm_w u1.2.2.1 32 (x2).toNatClampNeg (0 : Int32)), u1.2.2.2)) else none))) := by
  refine (ex_iload_n (x := x2) rfl).trans ?_
  refine (ex_iconst).trans ?_
  refine (ex_ic_ge (p := 40) (q := rp_48_r3) rfl).trans (ex_ite ?_ ?_)
  · refine (ex_aload_n (x := 0) rfl).trans ?_
    refine (ex_get (u := .int (σ.1 0 24)) rfl).trans ?_
    refine (ex_istore_n (L2 := [.ref 0, .int x1, .int (σ.1 0 24)]) rfl).trans ?_
    exact rfl
  · refine (ex_iload_n (x := x1) rfl).trans ?_
    refine (ex_aload_n (x := 0) rfl).trans ?_
    refine (ex_iload_n (x := x2) rfl).trans ?_
    refine (ex_inv_i (As := [.ref 0, .int x2]) (rest := [.int x1]) rfl rfl).trans (ex_bnd fun u1 => ?_)
    refine (ex_iadd).trans ?_
    refine (ex_istore_n (L2 := [.ref 0, .int (x1 + u1.1), .int x2]) rfl).trans ?_
    refine (ex_aload_n (x := 0) rfl).trans ?_
    refine (ex_get (u := .ref 32) rfl).trans ?_
    refine (ex_iload_n (x := x2) rfl).trans ?_
    refine (ex_iconst).trans ?_
    refine (ex_bastore (z := 4) rfl).trans (ex_ite ((if_pos (by decide)).trans ?_) rfl)
    refine (ex_iinc (L2 := [.ref 0, .int (x1 + u1.1), .int (x2 + (1 : Int32))]) rfl rfl).trans ?_
    refine (ex_goto (p := 14) (q := rp_48_r2) rfl).trans ?_
    exact rfl
set_option maxRecDepth 100000 in
set_option maxHeartbeats 4000000 in
theorem rp_48_h4 (d n : Nat) (σ : mm_S) (x1 : Int32) (x2 : Int32) : mm_ex sr (rG d) 1 rp_48_l (n + 20) rp_48_r4 [.ref 0, .int x1, .int x2] [] σ = (if x2 < (1 : Int32) then ((rG d 39 [.ref 0, .int (3 : Int32)] σ).bind fun u1 => (if mm_in (3 : Int32) 4 then (some ((x1 + u1.1), 0, ((mm_w (mm_w u1.2.2.1 32 ((3 : Int32)).toNatClampNeg (0 : Int32)) 0 15 (0 : Int32)), u1.2.2.2))) else none)) else (if mm_in x2 201 then (if (σ.1 23 (x2).toNatClampNeg) = 0 then (mm_ex sr (rG d) 1 rp_48_l (n + 10) rp_48_r4 [.ref 0, .int x1, .int (x2 + (-1 : Int32))] [] σ) else (if mm_in x2 201 then (if (σ.1 24 (x2).toNatClampNeg) = 0 then (mm_ex sr (rG d) 1 rp_48_l (n + 5) rp_48_r4 [.ref 0, .int x1, .int (x2 + (-1 : Int32))] [] σ) else ((rG d 38 [.ref 0, .int x2, .int x1] σ).bind fun u2 => (mm_ex sr (rG d) 1 rp_48_l (n + 0) rp_48_r4 [.ref 0, .int u2.1, .int (x2 + (-1 : Int32))] [] u2.2.2))) else none)) else none)) := by
  refine (ex_iload_n (x := x2) rfl).trans ?_
  refine (ex_iconst).trans ?_
  refine (ex_ic_lt (p := 81) (q := rp_48_r6) rfl).trans (ex_ite ?_ ?_)
  · refine (ex_iload_n (x := x1) rfl).trans ?_
    refine (ex_aload_n (x := 0) rfl).trans ?_
    refine (ex_iconst).trans ?_
    refine (ex_inv_i (As := [.ref 0, .int (3 : Int32)]) (rest := [.int x1]) rfl rfl).trans (ex_bnd fun u1 => ?_)
    refine (ex_iadd).trans ?_
    refine (ex_istore_n (L2 := [.ref 0, .int (x1 + u1.1), .int x2]) rfl).trans ?_
    refine (ex_aload_n (x := 0) rfl).trans ?_
    refine (ex_get (u := .ref 32) rfl).trans ?_
    refine (ex_iconst).trans ?_
    refine (ex_iconst).trans ?_
    refine (ex_bastore (z := 4) rfl).trans (ex_ite ((if_pos (by decide)).trans ?_) rfl)
    refine (ex_aload_n (x := 0) rfl).trans ?_
    refine (ex_iconst).trans ?_
    refine (ex_put (u := ()) (by decide +kernel)).trans ?_
    refine (ex_iload_n (x := (x1 + u1.1)) rfl).trans ?_
    exact ex_ireturn
  · refine (ex_aload_n (x := 0) rfl).trans ?_
    refine (ex_get (u := .ref 23) rfl).trans ?_
    refine (ex_iload_n (x := x2) rfl).trans ?_
    refine (ex_baload (z := 201) rfl).trans (ex_ite ?_ rfl)
    refine (ex_if_eq (p := 75) (q := rp_48_r5) rfl).trans (ex_ite ?_ ?_)
    · refine (ex_iinc (L2 := [.ref 0, .int x1, .int (x2 + (-1 : Int32))]) rfl rfl).trans ?_
      refine (ex_goto (p := 45) (q := rp_48_r4) rfl).trans ?_
      exact rfl
    · refine (ex_aload_n (x := 0) rfl).trans ?_
      refine (ex_get (u := .ref 24) rfl).trans ?_
      refine (ex_iload_n (x := x2) rfl).trans ?_
      refine (ex_baload (z := 201) rfl).trans (ex_ite ?_ rfl)
      refine (ex_if_eq (p := 75) (q := rp_48_r5) rfl).trans (ex_ite ?_ ?_)
      · refine (ex_iinc (L2 := [.ref 0, .int x1, .int (x2 + (-1 : Int32))]) rfl rfl).trans ?_
        refine (ex_goto (p := 45) (q := rp_48_r4) rfl).trans ?_
        exact rfl
      · refine (ex_aload_n (x := 0) rfl).trans ?_
        refine (ex_iload_n (x := x2) rfl).trans ?_
        refine (ex_iload_n (x := x1) rfl).trans ?_
        refine (ex_inv_i (As := [.ref 0, .int x2, .int x1]) (rest := []) rfl rfl).trans (ex_bnd fun u2 => ?_)
        refine (ex_istore_n (L2 := [.ref 0, .int u2.1, .int x2]) rfl).trans ?_
        refine (ex_iinc (L2 := [.ref 0, .int u2.1, .int (x2 + (-1 : Int32))]) rfl rfl).trans ?_
        refine (ex_goto (p := 45) (q := rp_48_r4) rfl).trans ?_
        exact rfl
-- 49: WiringContainerModel.beanOf(I)I
set_option maxRecDepth 100000 in
set_option maxHeartbeats 4000000 in
theorem rp_49_g (d : Nat) (σ : mm_S) (x1 : Int32) : rG (d + 1) 49 [.ref 0, .int x1] σ = ((rG d 42 [.ref 0, .int x1] σ).bind fun u1 => (if u1.1 = 0 then (some ((-8 : Int32), 0, u1.2.2)) else (if mm_in x1 201 then (some ((u1.2.2.1 20 (x1).toNatClampNeg), 0, u1.2.2)) else none))) := by
  refine (mm_entry 99999990 10 (maxL := 2) (labs := rp_49_l) (rows := rp_49_r0) (L := [.ref 0, .int x1]) (rk := 1) rfl rfl rfl rfl rfl rfl).trans ?_
  refine (ex_aload_n (x := 0) rfl).trans ?_
  refine (ex_iload_n (x := x1) rfl).trans ?_
  refine (ex_inv_z (As := [.ref 0, .int x1]) (rest := []) rfl rfl).trans (ex_bnd fun u1 => ?_)
  refine (ex_if_eq (p := 17) (q := rp_49_r1) rfl).trans (ex_ite ?_ ?_)
  · refine (ex_bipush).trans ?_
    exact ex_ireturn
  · refine (ex_aload_n (x := 0) rfl).trans ?_
    refine (ex_get (u := .ref 20) rfl).trans ?_
    refine (ex_iload_n (x := x1) rfl).trans ?_
    refine (ex_iaload (z := 201) rfl).trans (ex_ite ?_ rfl)
    refine (ex_goto (p := 19) (q := rp_49_r2) rfl).trans ?_
    exact ex_ireturn
-- 50: WiringContainerModel.owner(I)I
set_option maxRecDepth 100000 in
set_option maxHeartbeats 4000000 in
theorem rp_50_g (d : Nat) (σ : mm_S) (x1 : Int32) : rG (d + 1) 50 [.ref 0, .int x1] σ = ((rG d 42 [.ref 0, .int x1] σ).bind fun u1 => (if u1.1 = 0 then (some ((-8 : Int32), 0, u1.2.2)) else (if mm_in x1 201 then (some ((u1.2.2.1 21 (x1).toNatClampNeg), 0, u1.2.2)) else none))) := by
  refine (mm_entry 99999990 10 (maxL := 2) (labs := rp_50_l) (rows := rp_50_r0) (L := [.ref 0, .int x1]) (rk := 1) rfl rfl rfl rfl rfl rfl).trans ?_
  refine (ex_aload_n (x := 0) rfl).trans ?_
  refine (ex_iload_n (x := x1) rfl).trans ?_
  refine (ex_inv_z (As := [.ref 0, .int x1]) (rest := []) rfl rfl).trans (ex_bnd fun u1 => ?_)
  refine (ex_if_eq (p := 17) (q := rp_50_r1) rfl).trans (ex_ite ?_ ?_)
  · refine (ex_bipush).trans ?_
    exact ex_ireturn
  · refine (ex_aload_n (x := 0) rfl).trans ?_
    refine (ex_get (u := .ref 21) rfl).trans ?_
    refine (ex_iload_n (x := x1) rfl).trans ?_
    refine (ex_iaload (z := 201) rfl).trans (ex_ite ?_ rfl)
    refine (ex_goto (p := 19) (q := rp_50_r2) rfl).trans ?_
    exact ex_ireturn
-- 51: WiringContainerModel.destroyed(I)I
set_option maxRecDepth 100000 in
set_option maxHeartbeats 4000000 in
theorem rp_51_g (d : Nat) (σ : mm_S) (x1 : Int32) : rG (d + 1) 51 [.ref 0, .int x1] σ = (if x1 < 0 then (some ((0 : Int32), 0, σ)) else (if (σ.1 0 31) ≤ x1 then (some ((0 : Int32), 0, σ)) else (if mm_in x1 201 then (some ((σ.1 25 (x1).toNatClampNeg), 0, σ)) else none))) := by
  refine (mm_entry 99999988 12 (maxL := 2) (labs := rp_51_l) (rows := rp_51_r0) (L := [.ref 0, .int x1]) (rk := 1) rfl rfl rfl rfl rfl rfl).trans ?_
  refine (ex_iload_n (x := x1) rfl).trans ?_
  refine (ex_if_lt (p := 21) (q := rp_51_r1) rfl).trans (ex_ite ?_ ?_)
  · refine (ex_iconst).trans ?_
    exact ex_ireturn
  · refine (ex_iload_n (x := x1) rfl).trans ?_
    refine (ex_aload_n (x := 0) rfl).trans ?_
    refine (ex_get (u := .int (σ.1 0 31)) rfl).trans ?_
    refine (ex_ic_ge (p := 21) (q := rp_51_r1) rfl).trans (ex_ite ?_ ?_)
    · refine (ex_iconst).trans ?_
      exact ex_ireturn
    · refine (ex_aload_n (x := 0) rfl).trans ?_
      refine (ex_get (u := .ref 25) rfl).trans ?_
      refine (ex_iload_n (x := x1) rfl).trans ?_
      refine (ex_iaload (z := 201) rfl).trans (ex_ite ?_ rfl)
      refine (ex_goto (p := 22) (q := rp_51_r2) rfl).trans ?_
      exact ex_ireturn
-- 52: WiringContainerModel.live()I
set_option maxRecDepth 100000 in
set_option maxHeartbeats 4000000 in
theorem rp_52_g (d : Nat) (σ : mm_S) : rG (d + 1) 52 [.ref 0] σ = (some (((σ.1 0 24) - (σ.1 0 31)), 0, σ)) := by
  refine (mm_entry 99999994 6 (maxL := 1) (labs := rp_52_l) (rows := rp_52_r0) (L := [.ref 0]) (rk := 1) rfl rfl rfl rfl rfl rfl).trans ?_
  refine (ex_aload_n (x := 0) rfl).trans ?_
  refine (ex_get (u := .int (σ.1 0 24)) rfl).trans ?_
  refine (ex_aload_n (x := 0) rfl).trans ?_
  refine (ex_get (u := .int (σ.1 0 31)) rfl).trans ?_
  refine (ex_isub).trans ?_
  exact ex_ireturn
