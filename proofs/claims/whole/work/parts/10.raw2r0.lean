/-! THE REFERENCE, stretch by stretch, as pure equations (by program) -/
-- 0: WiringContainerModel.written(IIZZ)Z
set_option maxRecDepth 100000 in
set_option maxHeartbeats 4000000 in
theorem rp_0_g (d : Nat) (σ : mm_S) (x1 : Int32) (x2 : Int32) (x3 : Int32) (x4 : Int32) : rG (d + 1) 0 [.ref 0, .int x1, .int x2, .int x3, .int x4] σ = (if 0 < x1 then (mm_ex sr (rG d) 3 rp_0_l (99999990 + 2) rp_0_r1 [.ref 0, .int x1, .int x2, .int x3, .int x4, .int x1, .int (0 : Int32), .int (0 : Int32), .null, .null, .null, .null] [] σ) else (some ((0 : Int32), 0, σ))) := by
  refine (mm_entry 99999990 10 (maxL := 12) (labs := rp_0_l) (rows := rp_0_r0) (L := [.ref 0, .int x1, .int x2, .int x3, .int x4, .null, .null, .null, .null, .null, .null, .null]) (rk := 3) rfl rfl rfl rfl rfl rfl).trans ?_
  refine (ex_iload_n (x := x1) rfl).trans ?_
  refine (ex_istore (L2 := [.ref 0, .int x1, .int x2, .int x3, .int x4, .int x1, .null, .null, .null, .null, .null, .null]) rfl).trans ?_
  refine (ex_iconst).trans ?_
  refine (ex_istore (L2 := [.ref 0, .int x1, .int x2, .int x3, .int x4, .int x1, .int (0 : Int32), .null, .null, .null, .null, .null]) rfl).trans ?_
  refine (ex_iconst).trans ?_
  refine (ex_istore (L2 := [.ref 0, .int x1, .int x2, .int x3, .int x4, .int x1, .int (0 : Int32), .int (0 : Int32), .null, .null, .null, .null]) rfl).trans ?_
  refine (ex_iload_n (x := x1) rfl).trans ?_
  refine (ex_if_gt (p := 15) (q := rp_0_r1) rfl).trans (ex_ite ?_ ?_)
  · exact rfl
  · refine (ex_iconst).trans ?_
    exact ex_zreturn0
set_option maxRecDepth 100000 in
set_option maxHeartbeats 4000000 in
theorem rp_0_h1 (d n : Nat) (σ : mm_S) (x1 : Int32) (x2 : Int32) (x3 : Int32) (x4 : Int32) (x5 : Int32) (x6 : Int32) (x7 : Int32) : mm_ex sr (rG d) 3 rp_0_l (n + 39) rp_0_r1 [.ref 0, .int x1, .int x2, .int x3, .int x4, .int x5, .int x6, .int x7, .null, .null, .null, .null] [] σ = (if x5 = 0 then (if x6 = 0 then (some ((0 : Int32), 0, σ)) else (some ((1 : Int32), 0, σ))) else (if (x5 &&& (31 : Int32)) < (1 : Int32) then (if x3 = 0 then (if x4 = 0 then (mm_ex sr (rG d) 3 rp_0_l (n + 17) rp_0_r7 [.ref 0, .int x1, .int x2, .int x3, .int x4, .int (x5 >>> ((5 : Int32) &&& 31)), .int x6, .int (x7 + (1 : Int32)), .int (x5 &&& (31 : Int32)), .int (0 : Int32), .int (0 : Int32), .null] [] σ) else (if (x5 &&& (31 : Int32)) = (31 : Int32) then (mm_ex sr (rG d) 3 rp_0_l (n + 12) rp_0_r8 [.ref 0, .int x1, .int x2, .int x3, .int x4, .int (x5 >>> ((5 : Int32) &&& 31)), .int x6, .int (x7 + (1 : Int32)), .int (x5 &&& (31 : Int32)), .int (0 : Int32), .int (0 : Int32), .null] [.int (1 : Int32)] σ) else (mm_ex sr (rG d) 3 rp_0_l (n + 14) rp_0_r7 [.ref 0, .int x1, .int x2, .int x3, .int x4, .int (x5 >>> ((5 : Int32) &&& 31)), .int x6, .int (x7 + (1 : Int32)), .int (x5 &&& (31 : Int32)), .int (0 : Int32), .int (0 : Int32), .null] [] σ))) else (if (x5 &&& (31 : Int32)) = (29 : Int32) then (if x4 = 0 then (mm_ex sr (rG d) 3 rp_0_l (n + 13) rp_0_r7 [.ref 0, .int x1, .int x2, .int x3, .int x4, .int (x5 >>> ((5 : Int32) &&& 31)), .int x6, .int (x7 + (1 : Int32)), .int (x5 &&& (31 : Int32)), .int (0 : Int32), .int (1 : Int32), .null] [] σ) else (if (x5 &&& (31 : Int32)) = (31 : Int32) then (mm_ex sr (rG d) 3 rp_0_l (n + 8) rp_0_r8 [.ref 0, .int x1, .int x2, .int x3, .int x4, .int (x5 >>> ((5 : Int32) &&& 31)), .int x6, .int (x7 + (1 : Int32)), .int (x5 &&& (31 : Int32)), .int (0 : Int32), .int (1 : Int32), .null] [.int (1 : Int32)] σ) else (mm_ex sr (rG d) 3 rp_0_l (n + 10) rp_0_r7 [.ref 0, .int x1, .int x2, .int x3, .int x4, .int (x5 >>> ((5 : Int32) &&& 31)), .int x6, .int (x7 + (1 : Int32)), .int (x5 &&& (31 : Int32)), .int (0 : Int32), .int (1 : Int32), .null] [] σ))) else (if (x5 &&& (31 : Int32)) = (30 : Int32) then (if x4 = 0 then (mm_ex sr (rG d) 3 rp_0_l (n + 10) rp_0_r7 [.ref 0, .int x1, .int x2, .int x3, .int x4, .int (x5 >>> ((5 : Int32) &&& 31)), .int x6, .int (x7 + (1 : Int32)), .int (x5 &&& (31 : Int32)), .int (0 : Int32), .int (1 : Int32), .null] [] σ) else (if (x5 &&& (31 : Int32)) = (31 : Int32) then (mm_ex sr (rG d) 3 rp_0_l (n + 5) rp_0_r8 [.ref 0, .int x1, .int x2, .int x3, .int x4, .int (x5 >>> ((5 : Int32) &&& 31)), .int x6, .int (x7 + (1 : Int32)), .int (x5 &&& (31 : Int32)), .int (0 : Int32), .int (1 : Int32), .null] [.int (1 : Int32)] σ) else (mm_ex sr (rG d) 3 rp_0_l (n + 7) rp_0_r7 [.ref 0, .int x1, .int x2, .int x3, .int x4, .int (x5 >>> ((5 : Int32) &&& 31)), .int x6, .int (x7 + (1 : Int32)), .int (x5 &&& (31 : Int32)), .int (0 : Int32), .int (1 : Int32), .null] [] σ))) else (if x4 = 0 then (mm_ex sr (rG d) 3 rp_0_l (n + 11) rp_0_r7 [.ref 0, .int x1, .int x2, .int x3, .int x4, .int (x5 >>> ((5 : Int32) &&& 31)), .int x6, .int (x7 + (1 : Int32)), .int (x5 &&& (31 : Int32)), .int (0 : Int32), .int (0 : Int32), .null] [] σ) else (if (x5 &&& (31 : Int32)) = (31 : Int32) then (mm_ex sr (rG d) 3 rp_0_l (n + 6) rp_0_r8 [.ref 0, .int x1, .int x2, .int x3, .int x4, .int (x5 >>> ((5 : Int32) &&& 31)), .int x6, .int (x7 + (1 : Int32)), .int (x5 &&& (31 : Int32)), .int (0 : Int32), .int (0 : Int32), .null] [.int (1 : Int32)] σ) else (mm_ex sr (rG d) 3 rp_0_l (n + 8) rp_0_r7 [.ref 0, .int x1, .int x2, .int x3, .int x4, .int (x5 >>> ((5 : Int32) &&& 31)), .int x6, .int (x7 + (1 : Int32)), .int (x5 &&& (31 : Int32)), .int (0 : Int32), .int (0 : Int32), .null] [] σ)))))) else (if (σ.1 0 0) < (x5 &&& (31 : Int32)) then (if x3 = 0 then (if x4 = 0 then (mm_ex sr (rG d) 3 rp_0_l (n + 13) rp_0_r7 [.ref 0, .int x1, .int x2, .int x3, .int x4, .int (x5 >>> ((5 : Int32) &&& 31)), .int x6, .int (x7 + (1 : Int32)), .int (x5 &&& (31 : Int32)), .int (0 : Int32), .int (0 : Int32), .null] [] σ) else (if (x5 &&& (31 : Int32)) = (31 : Int32) then (mm_ex sr (rG d) 3 rp_0_l (n + 8) rp_0_r8 [.ref 0, .int x1, .int x2, .int x3, .int x4, .int (x5 >>> ((5 : Int32) &&& 31)), .int x6, .int (x7 + (1 : Int32)), .int (x5 &&& (31 : Int32)), .int (0 : Int32), .int (0 : Int32), .null] [.int (1 : Int32)] σ) else (mm_ex sr (rG d) 3 rp_0_l (n + 10) rp_0_r7 [.ref 0, .int x1, .int x2, .int x3, .int x4, .int (x5 >>> ((5 : Int32) &&& 31)), .int x6, .int (x7 + (1 : Int32)), .int (x5 &&& (31 : Int32)), .int (0 : Int32), .int (0 : Int32), .null] [] σ))) else (if (x5 &&& (31 : Int32)) = (29 : Int32) then (if x4 = 0 then (mm_ex sr (rG d) 3 rp_0_l (n + 9) rp_0_r7 [.ref 0, .int x1, .int x2, .int x3, .int x4, .int (x5 >>> ((5 : Int32) &&& 31)), .int x6, .int (x7 + (1 : Int32)), .int (x5 &&& (31 : Int32)), .int (0 : Int32), .int (1 : Int32), .null] [] σ) else (if (x5 &&& (31 : Int32)) = (31 : Int32) then (mm_ex sr (rG d) 3 rp_0_l (n + 4) rp_0_r8 [.ref 0, .int x1, .int x2, .int x3, .int x4, .int (x5 >>> ((5 : Int32) &&& 31)), .int x6, .int (x7 + (1 : Int32)), .int (x5 &&& (31 : Int32)), .int (0 : Int32), .int (1 : Int32), .null] [.int (1 : Int32)] σ) else (mm_ex sr (rG d) 3 rp_0_l (n + 6) rp_0_r7 [.ref 0, .int x1, .int x2, .int x3, .int x4, .int (x5 >>> ((5 : Int32) &&& 31)), .int x6, .int (x7 + (1 : Int32)), .int (x5 &&& (31 : Int32)), .int (0 : Int32), .int (1 : Int32), .null] [] σ))) else (if (x5 &&& (31 : Int32)) = (30 : Int32) then (if x4 = 0 then (mm_ex sr (rG d) 3 rp_0_l (n + 6) rp_0_r7 [.ref 0, .int x1, .int x2, .int x3, .int x4, .int (x5 >>> ((5 : Int32) &&& 31)), .int x6, .int (x7 + (1 : Int32)), .int (x5 &&& (31 : Int32)), .int (0 : Int32), .int (1 : Int32), .null] [] σ) else (if (x5 &&& (31 : Int32)) = (31 : Int32) then (mm_ex sr (rG d) 3 rp_0_l (n + 1) rp_0_r8 [.ref 0, .int x1, .int x2, .int x3, .int x4, .int (x5 >>> ((5 : Int32) &&& 31)), .int x6, .int (x7 + (1 : Int32)), .int (x5 &&& (31 : Int32)), .int (0 : Int32), .int (1 : Int32), .null] [.int (1 : Int32)] σ) else (mm_ex sr (rG d) 3 rp_0_l (n + 3) rp_0_r7 [.ref 0, .int x1, .int x2, .int x3, .int x4, .int (x5 >>> ((5 : Int32) &&& 31)), .int x6, .int (x7 + (1 : Int32)), .int (x5 &&& (31 : Int32)), .int (0 : Int32), .int (1 : Int32), .null] [] σ))) else (if x4 = 0 then (mm_ex sr (rG d) 3 rp_0_l (n + 7) rp_0_r7 [.ref 0, .int x1, .int x2, .int x3, .int x4, .int (x5 >>> ((5 : Int32) &&& 31)), .int x6, .int (x7 + (1 : Int32)), .int (x5 &&& (31 : Int32)), .int (0 : Int32), .int (0 : Int32), .null] [] σ) else (if (x5 &&& (31 : Int32)) = (31 : Int32) then (mm_ex sr (rG d) 3 rp_0_l (n + 2) rp_0_r8 [.ref 0, .int x1, .int x2, .int x3, .int x4, .int (x5 >>> ((5 : Int32) &&& 31)), .int x6, .int (x7 + (1 : Int32)), .int (x5 &&& (31 : Int32)), .int (0 : Int32), .int (0 : Int32), .null] [.int (1 : Int32)] σ) else (mm_ex sr (rG d) 3 rp_0_l (n + 4) rp_0_r7 [.ref 0, .int x1, .int x2, .int x3, .int x4, .int (x5 >>> ((5 : Int32) &&& 31)), .int x6, .int (x7 + (1 : Int32)), .int (x5 &&& (31 : Int32)), .int (0 : Int32), .int (0 : Int32), .null] [] σ)))))) else (if x3 = 0 then (if x4 = 0 then (mm_ex sr (rG d) 3 rp_0_l (n + 12) rp_0_r7 [.ref 0, .int x1, .int x2, .int x3, .int x4, .int (x5 >>> ((5 : Int32) &&& 31)), .int x6, .int (x7 + (1 : Int32)), .int (x5 &&& (31 : Int32)), .int (1 : Int32), .int (0 : Int32), .null] [] σ) else (if (x5 &&& (31 : Int32)) = (31 : Int32) then (mm_ex sr (rG d) 3 rp_0_l (n + 7) rp_0_r8 [.ref 0, .int x1, .int x2, .int x3, .int x4, .int (x5 >>> ((5 : Int32) &&& 31)), .int x6, .int (x7 + (1 : Int32)), .int (x5 &&& (31 : Int32)), .int (1 : Int32), .int (0 : Int32), .null] [.int (1 : Int32)] σ) else (mm_ex sr (rG d) 3 rp_0_l (n + 9) rp_0_r7 [.ref 0, .int x1, .int x2, .int x3, .int x4, .int (x5 >>> ((5 : Int32) &&& 31)), .int x6, .int (x7 + (1 : Int32)), .int (x5 &&& (31 : Int32)), .int (1 : Int32), .int (0 : Int32), .null] [] σ))) else (if (x5 &&& (31 : Int32)) = (29 : Int32) then (if x4 = 0 then (mm_ex sr (rG d) 3 rp_0_l (n + 8) rp_0_r7 [.ref 0, .int x1, .int x2, .int x3, .int x4, .int (x5 >>> ((5 : Int32) &&& 31)), .int x6, .int (x7 + (1 : Int32)), .int (x5 &&& (31 : Int32)), .int (1 : Int32), .int (1 : Int32), .null] [] σ) else (if (x5 &&& (31 : Int32)) = (31 : Int32) then (mm_ex sr (rG d) 3 rp_0_l (n + 3) rp_0_r8 [.ref 0, .int x1, .int x2, .int x3, .int x4, .int (x5 >>> ((5 : Int32) &&& 31)), .int x6, .int (x7 + (1 : Int32)), .int (x5 &&& (31 : Int32)), .int (1 : Int32), .int (1 : Int32), .null] [.int (1 : Int32)] σ) else (mm_ex sr (rG d) 3 rp_0_l (n + 5) rp_0_r7 [.ref 0, .int x1, .int x2, .int x3, .int x4, .int (x5 >>> ((5 : Int32) &&& 31)), .int x6, .int (x7 + (1 : Int32)), .int (x5 &&& (31 : Int32)), .int (1 : Int32), .int (1 : Int32), .null] [] σ))) else (if (x5 &&& (31 : Int32)) = (30 : Int32) then (if x4 = 0 then (mm_ex sr (rG d) 3 rp_0_l (n + 5) rp_0_r7 [.ref 0, .int x1, .int x2, .int x3, .int x4, .int (x5 >>> ((5 : Int32) &&& 31)), .int x6, .int (x7 + (1 : Int32)), .int (x5 &&& (31 : Int32)), .int (1 : Int32), .int (1 : Int32), .null] [] σ) else (if (x5 &&& (31 : Int32)) = (31 : Int32) then (mm_ex sr (rG d) 3 rp_0_l (n + 0) rp_0_r8 [.ref 0, .int x1, .int x2, .int x3, .int x4, .int (x5 >>> ((5 : Int32) &&& 31)), .int x6, .int (x7 + (1 : Int32)), .int (x5 &&& (31 : Int32)), .int (1 : Int32), .int (1 : Int32), .null] [.int (1 : Int32)] σ) else (mm_ex sr (rG d) 3 rp_0_l (n + 2) rp_0_r7 [.ref 0, .int x1, .int x2, .int x3, .int x4, .int (x5 >>> ((5 : Int32) &&& 31)), .int x6, .int (x7 + (1 : Int32)), .int (x5 &&& (31 : Int32)), .int (1 : Int32), .int (1 : Int32), .null] [] σ))) else (if x4 = 0 then (mm_ex sr (rG d) 3 rp_0_l (n + 6) rp_0_r7 [.ref 0, .int x1, .int x2, .int x3, .int x4, .int (x5 >>> ((5 : Int32) &&& 31)), .int x6, .int (x7 + (1 : Int32)), .int (x5 &&& (31 : Int32)), .int (1 : Int32), .int (0 : Int32), .null] [] σ) else (if (x5 &&& (31 : Int32)) = (31 : Int32) then (mm_ex sr (rG d) 3 rp_0_l (n + 1) rp_0_r8 [.ref 0, .int x1, .int x2, .int x3, .int x4, .int (x5 >>> ((5 : Int32) &&& 31)), .int x6, .int (x7 + (1 : Int32)), .int (x5 &&& (31 : Int32)), .int (1 : Int32), .int (0 : Int32), .null] [.int (1 : Int32)] σ) else (mm_ex sr (rG d) 3 rp_0_l (n + 3) rp_0_r7 [.ref 0, .int x1, .int x2, .int x3, .int x4, .int (x5 >>> ((5 : Int32) &&& 31)), .int x6, .int (x7 + (1 : Int32)), .int (x5 &&& (31 : Int32)), .int (1 : Int32), .int (0 : Int32), .null] [] σ))))))))) := by
  refine (ex_iload (x := x5) rfl).trans ?_
  refine (ex_if_eq (p := 176) (q := rp_0_r15) rfl).trans (ex_ite ?_ ?_)
  · refine (ex_iload (x := x6) rfl).trans ?_
    refine (ex_if_eq (p := 185) (q := rp_0_r16) rfl).trans (ex_ite ?_ ?_)
    · refine (ex_iconst).trans ?_
      exact ex_zreturn0
    · refine (ex_iconst).trans ?_
      refine (ex_goto (p := 186) (q := rp_0_r17) rfl).trans ?_
      exact ex_zreturn1
  · refine (ex_iload (x := x5) rfl).trans ?_
    refine (ex_bipush).trans ?_
    refine (ex_iand).trans ?_
    refine (ex_istore (L2 := [.ref 0, .int x1, .int x2, .int x3, .int x4, .int x5, .int x6, .int x7, .int (x5 &&& (31 : Int32)), .null, .null, .null]) rfl).trans ?_
    refine (ex_iload (x := x5) rfl).trans ?_
    refine (ex_iconst).trans ?_
    refine (ex_ishr).trans ?_
    refine (ex_istore (L2 := [.ref 0, .int x1, .int x2, .int x3, .int x4, .int (x5 >>> ((5 : Int32) &&& 31)), .int x6, .int x7, .int (x5 &&& (31 : Int32)), .null, .null, .null]) rfl).trans ?_
    refine (ex_iinc (L2 := [.ref 0, .int x1, .int x2, .int x3, .int x4, .int (x5 >>> ((5 : Int32) &&& 31)), .int x6, .int (x7 + (1 : Int32)), .int (x5 &&& (31 : Int32)), .null, .null, .null]) rfl rfl).trans ?_
    refine (ex_iload (x := (x5 &&& (31 : Int32))) rfl).trans ?_
    refine (ex_iconst).trans ?_
    refine (ex_ic_lt (p := 55) (q := rp_0_r2) rfl).trans (ex_ite ?_ ?_)
    · refine (ex_iconst).trans ?_
      refine (ex_istore (L2 := [.ref 0, .int x1, .int x2, .int x3, .int x4, .int (x5 >>> ((5 : Int32) &&& 31)), .int x6, .int (x7 + (1 : Int32)), .int (x5 &&& (31 : Int32)), .int (0 : Int32), .null, .null]) rfl).trans ?_
      refine (ex_iload_n (x := x3) rfl).trans ?_
      refine (ex_if_eq (p := 80) (q := rp_0_r5) rfl).trans (ex_ite ?_ ?_)
      · refine (ex_iconst).trans ?_
        refine (ex_istore (L2 := [.ref 0, .int x1, .int x2, .int x3, .int x4, .int (x5 >>> ((5 : Int32) &&& 31)), .int x6, .int (x7 + (1 : Int32)), .int (x5 &&& (31 : Int32)), .int (0 : Int32), .int (0 : Int32), .null]) rfl).trans ?_
        refine (ex_iload (x := x4) rfl).trans ?_
        refine (ex_if_eq (p := 99) (q := rp_0_r7) rfl).trans (ex_ite ?_ ?_)
        · exact rfl
        · refine (ex_iload (x := (x5 &&& (31 : Int32))) rfl).trans ?_
          refine (ex_bipush).trans ?_
          refine (ex_ic_ne (p := 99) (q := rp_0_r7) rfl).trans (ex_ite ?_ ?_)
          · refine (ex_iconst).trans ?_
            refine (ex_goto (p := 100) (q := rp_0_r8) rfl).trans ?_
            exact rfl
          · exact rfl
      · refine (ex_iload (x := (x5 &&& (31 : Int32))) rfl).trans ?_
        refine (ex_bipush).trans ?_
        refine (ex_ic_eq (p := 76) (q := rp_0_r4) rfl).trans (ex_ite ?_ ?_)
        · refine (ex_iconst).trans ?_
          refine (ex_goto (p := 81) (q := rp_0_r6) rfl).trans ?_
          refine (ex_istore (L2 := [.ref 0, .int x1, .int x2, .int x3, .int x4, .int (x5 >>> ((5 : Int32) &&& 31)), .int x6, .int (x7 + (1 : Int32)), .int (x5 &&& (31 : Int32)), .int (0 : Int32), .int (1 : Int32), .null]) rfl).trans ?_
          refine (ex_iload (x := x4) rfl).trans ?_
          refine (ex_if_eq (p := 99) (q := rp_0_r7) rfl).trans (ex_ite ?_ ?_)
          · exact rfl
          · refine (ex_iload (x := (x5 &&& (31 : Int32))) rfl).trans ?_
            refine (ex_bipush).trans ?_
            refine (ex_ic_ne (p := 99) (q := rp_0_r7) rfl).trans (ex_ite ?_ ?_)
            · refine (ex_iconst).trans ?_
              refine (ex_goto (p := 100) (q := rp_0_r8) rfl).trans ?_
              exact rfl
            · exact rfl
        · refine (ex_iload (x := (x5 &&& (31 : Int32))) rfl).trans ?_
          refine (ex_bipush).trans ?_
          refine (ex_ic_ne (p := 80) (q := rp_0_r5) rfl).trans (ex_ite ?_ ?_)
          · refine (ex_iconst).trans ?_
            refine (ex_goto (p := 81) (q := rp_0_r6) rfl).trans ?_
            refine (ex_istore (L2 := [.ref 0, .int x1, .int x2, .int x3, .int x4, .int (x5 >>> ((5 : Int32) &&& 31)), .int x6, .int (x7 + (1 : Int32)), .int (x5 &&& (31 : Int32)), .int (0 : Int32), .int (1 : Int32), .null]) rfl).trans ?_
            refine (ex_iload (x := x4) rfl).trans ?_
            refine (ex_if_eq (p := 99) (q := rp_0_r7) rfl).trans (ex_ite ?_ ?_)
            · exact rfl
            · refine (ex_iload (x := (x5 &&& (31 : Int32))) rfl).trans ?_
              refine (ex_bipush).trans ?_
              refine (ex_ic_ne (p := 99) (q := rp_0_r7) rfl).trans (ex_ite ?_ ?_)
              · refine (ex_iconst).trans ?_
                refine (ex_goto (p := 100) (q := rp_0_r8) rfl).trans ?_
                exact rfl
              · exact rfl
          · refine (ex_iconst).trans ?_
            refine (ex_istore (L2 := [.ref 0, .int x1, .int x2, .int x3, .int x4, .int (x5 >>> ((5 : Int32) &&& 31)), .int x6, .int (x7 + (1 : Int32)), .int (x5 &&& (31 : Int32)), .int (0 : Int32), .int (0 : Int32), .null]) rfl).trans ?_
            refine (ex_iload (x := x4) rfl).trans ?_
            refine (ex_if_eq (p := 99) (q := rp_0_r7) rfl).trans (ex_ite ?_ ?_)
            · exact rfl
            · refine (ex_iload (x := (x5 &&& (31 : Int32))) rfl).trans ?_
              refine (ex_bipush).trans ?_
              refine (ex_ic_ne (p := 99) (q := rp_0_r7) rfl).trans (ex_ite ?_ ?_)
              · refine (ex_iconst).trans ?_
                refine (ex_goto (p := 100) (q := rp_0_r8) rfl).trans ?_
                exact rfl
              · exact rfl
    · refine (ex_iload (x := (x5 &&& (31 : Int32))) rfl).trans ?_
      refine (ex_aload_n (x := 0) rfl).trans ?_
      refine (ex_get (u := .int (σ.1 0 0)) rfl).trans ?_
      refine (ex_ic_gt (p := 55) (q := rp_0_r2) rfl).trans (ex_ite ?_ ?_)
      · refine (ex_iconst).trans ?_
        refine (ex_istore (L2 := [.ref 0, .int x1, .int x2, .int x3, .int x4, .int (x5 >>> ((5 : Int32) &&& 31)), .int x6, .int (x7 + (1 : Int32)), .int (x5 &&& (31 : Int32)), .int (0 : Int32), .null, .null]) rfl).trans ?_
        refine (ex_iload_n (x := x3) rfl).trans ?_
        refine (ex_if_eq (p := 80) (q := rp_0_r5) rfl).trans (ex_ite ?_ ?_)
        · refine (ex_iconst).trans ?_
          refine (ex_istore (L2 := [.ref 0, .int x1, .int x2, .int x3, .int x4, .int (x5 >>> ((5 : Int32) &&& 31)), .int x6, .int (x7 + (1 : Int32)), .int (x5 &&& (31 : Int32)), .int (0 : Int32), .int (0 : Int32), .null]) rfl).trans ?_
          refine (ex_iload (x := x4) rfl).trans ?_
          refine (ex_if_eq (p := 99) (q := rp_0_r7) rfl).trans (ex_ite ?_ ?_)
          · exact rfl
          · refine (ex_iload (x := (x5 &&& (31 : Int32))) rfl).trans ?_
            refine (ex_bipush).trans ?_
            refine (ex_ic_ne (p := 99) (q := rp_0_r7) rfl).trans (ex_ite ?_ ?_)
            · refine (ex_iconst).trans ?_
              refine (ex_goto (p := 100) (q := rp_0_r8) rfl).trans ?_
              exact rfl
            · exact rfl
        · refine (ex_iload (x := (x5 &&& (31 : Int32))) rfl).trans ?_
          refine (ex_bipush).trans ?_
          refine (ex_ic_eq (p := 76) (q := rp_0_r4) rfl).trans (ex_ite ?_ ?_)
          · refine (ex_iconst).trans ?_
            refine (ex_goto (p := 81) (q := rp_0_r6) rfl).trans ?_
            refine (ex_istore (L2 := [.ref 0, .int x1, .int x2, .int x3, .int x4, .int (x5 >>> ((5 : Int32) &&& 31)), .int x6, .int (x7 + (1 : Int32)), .int (x5 &&& (31 : Int32)), .int (0 : Int32), .int (1 : Int32), .null]) rfl).trans ?_
            refine (ex_iload (x := x4) rfl).trans ?_
            refine (ex_if_eq (p := 99) (q := rp_0_r7) rfl).trans (ex_ite ?_ ?_)
            · exact rfl
            · refine (ex_iload (x := (x5 &&& (31 : Int32))) rfl).trans ?_
              refine (ex_bipush).trans ?_
              refine (ex_ic_ne (p := 99) (q := rp_0_r7) rfl).trans (ex_ite ?_ ?_)
              · refine (ex_iconst).trans ?_
                refine (ex_goto (p := 100) (q := rp_0_r8) rfl).trans ?_
                exact rfl
              · exact rfl
          · refine (ex_iload (x := (x5 &&& (31 : Int32))) rfl).trans ?_
            refine (ex_bipush).trans ?_
            refine (ex_ic_ne (p := 80) (q := rp_0_r5) rfl).trans (ex_ite ?_ ?_)
            · refine (ex_iconst).trans ?_
              refine (ex_goto (p := 81) (q := rp_0_r6) rfl).trans ?_
              refine (ex_istore (L2 := [.ref 0, .int x1, .int x2, .int x3, .int x4, .int (x5 >>> ((5 : Int32) &&& 31)), .int x6, .int (x7 + (1 : Int32)), .int (x5 &&& (31 : Int32)), .int (0 : Int32), .int (1 : Int32), .null]) rfl).trans ?_
              refine (ex_iload (x := x4) rfl).trans ?_
              refine (ex_if_eq (p := 99) (q := rp_0_r7) rfl).trans (ex_ite ?_ ?_)
              · exact rfl
              · refine (ex_iload (x := (x5 &&& (31 : Int32))) rfl).trans ?_
                refine (ex_bipush).trans ?_
                refine (ex_ic_ne (p := 99) (q := rp_0_r7) rfl).trans (ex_ite ?_ ?_)
                · refine (ex_iconst).trans ?_
                  refine (ex_goto (p := 100) (q := rp_0_r8) rfl).trans ?_
                  exact rfl
                · exact rfl
            · refine (ex_iconst).trans ?_
              refine (ex_istore (L2 := [.ref 0, .int x1, .int x2, .int x3, .int x4, .int (x5 >>> ((5 : Int32) &&& 31)), .int x6, .int (x7 + (1 : Int32)), .int (x5 &&& (31 : Int32)), .int (0 : Int32), .int (0 : Int32), .null]) rfl).trans ?_
              refine (ex_iload (x := x4) rfl).trans ?_
              refine (ex_if_eq (p := 99) (q := rp_0_r7) rfl).trans (ex_ite ?_ ?_)
              · exact rfl
              · refine (ex_iload (x := (x5 &&& (31 : Int32))) rfl).trans ?_
                refine (ex_bipush).trans ?_
                refine (ex_ic_ne (p := 99) (q := rp_0_r7) rfl).trans (ex_ite ?_ ?_)
                · refine (ex_iconst).trans ?_
                  refine (ex_goto (p := 100) (q := rp_0_r8) rfl).trans ?_
                  exact rfl
                · exact rfl
      · refine (ex_iconst).trans ?_
        refine (ex_goto (p := 56) (q := rp_0_r3) rfl).trans ?_
        refine (ex_istore (L2 := [.ref 0, .int x1, .int x2, .int x3, .int x4, .int (x5 >>> ((5 : Int32) &&& 31)), .int x6, .int (x7 + (1 : Int32)), .int (x5 &&& (31 : Int32)), .int (1 : Int32), .null, .null]) rfl).trans ?_
        refine (ex_iload_n (x := x3) rfl).trans ?_
        refine (ex_if_eq (p := 80) (q := rp_0_r5) rfl).trans (ex_ite ?_ ?_)
        · refine (ex_iconst).trans ?_
          refine (ex_istore (L2 := [.ref 0, .int x1, .int x2, .int x3, .int x4, .int (x5 >>> ((5 : Int32) &&& 31)), .int x6, .int (x7 + (1 : Int32)), .int (x5 &&& (31 : Int32)), .int (1 : Int32), .int (0 : Int32), .null]) rfl).trans ?_
          refine (ex_iload (x := x4) rfl).trans ?_
          refine (ex_if_eq (p := 99) (q := rp_0_r7) rfl).trans (ex_ite ?_ ?_)
          · exact rfl
          · refine (ex_iload (x := (x5 &&& (31 : Int32))) rfl).trans ?_
            refine (ex_bipush).trans ?_
            refine (ex_ic_ne (p := 99) (q := rp_0_r7) rfl).trans (ex_ite ?_ ?_)
            · refine (ex_iconst).trans ?_
              refine (ex_goto (p := 100) (q := rp_0_r8) rfl).trans ?_
              exact rfl
            · exact rfl
        · refine (ex_iload (x := (x5 &&& (31 : Int32))) rfl).trans ?_
          refine (ex_bipush).trans ?_
          refine (ex_ic_eq (p := 76) (q := rp_0_r4) rfl).trans (ex_ite ?_ ?_)
          · refine (ex_iconst).trans ?_
            refine (ex_goto (p := 81) (q := rp_0_r6) rfl).trans ?_
            refine (ex_istore (L2 := [.ref 0, .int x1, .int x2, .int x3, .int x4, .int (x5 >>> ((5 : Int32) &&& 31)), .int x6, .int (x7 + (1 : Int32)), .int (x5 &&& (31 : Int32)), .int (1 : Int32), .int (1 : Int32), .null]) rfl).trans ?_
            refine (ex_iload (x := x4) rfl).trans ?_
            refine (ex_if_eq (p := 99) (q := rp_0_r7) rfl).trans (ex_ite ?_ ?_)
            · exact rfl
            · refine (ex_iload (x := (x5 &&& (31 : Int32))) rfl).trans ?_
              refine (ex_bipush).trans ?_
              refine (ex_ic_ne (p := 99) (q := rp_0_r7) rfl).trans (ex_ite ?_ ?_)
              · refine (ex_iconst).trans ?_
                refine (ex_goto (p := 100) (q := rp_0_r8) rfl).trans ?_
                exact rfl
              · exact rfl
          · refine (ex_iload (x := (x5 &&& (31 : Int32))) rfl).trans ?_
            refine (ex_bipush).trans ?_
            refine (ex_ic_ne (p := 80) (q := rp_0_r5) rfl).trans (ex_ite ?_ ?_)
            · refine (ex_iconst).trans ?_
              refine (ex_goto (p := 81) (q := rp_0_r6) rfl).trans ?_
              refine (ex_istore (L2 := [.ref 0, .int x1, .int x2, .int x3, .int x4, .int (x5 >>> ((5 : Int32) &&& 31)), .int x6, .int (x7 + (1 : Int32)), .int (x5 &&& (31 : Int32)), .int (1 : Int32), .int (1 : Int32), .null]) rfl).trans ?_
              refine (ex_iload (x := x4) rfl).trans ?_
              refine (ex_if_eq (p := 99) (q := rp_0_r7) rfl).trans (ex_ite ?_ ?_)
              · exact rfl
              · refine (ex_iload (x := (x5 &&& (31 : Int32))) rfl).trans ?_
                refine (ex_bipush).trans ?_
                refine (ex_ic_ne (p := 99) (q := rp_0_r7) rfl).trans (ex_ite ?_ ?_)
                · refine (ex_iconst).trans ?_
                  refine (ex_goto (p := 100) (q := rp_0_r8) rfl).trans ?_
                  exact rfl
                · exact rfl
            · refine (ex_iconst).trans ?_
              refine (ex_istore (L2 := [.ref 0, .int x1, .int x2, .int x3, .int x4, .int (x5 >>> ((5 : Int32) &&& 31)), .int x6, .int (x7 + (1 : Int32)), .int (x5 &&& (31 : Int32)), .int (1 : Int32), .int (0 : Int32), .null]) rfl).trans ?_
              refine (ex_iload (x := x4) rfl).trans ?_
              refine (ex_if_eq (p := 99) (q := rp_0_r7) rfl).trans (ex_ite ?_ ?_)
              · exact rfl
              · refine (ex_iload (x := (x5 &&& (31 : Int32))) rfl).trans ?_
                refine (ex_bipush).trans ?_
                refine (ex_ic_ne (p := 99) (q := rp_0_r7) rfl).trans (ex_ite ?_ ?_)
                · refine (ex_iconst).trans ?_
                  refine (ex_goto (p := 100) (q := rp_0_r8) rfl).trans ?_
                  exact rfl
                · exact rfl
set_option maxRecDepth 100000 in
set_option maxHeartbeats 4000000 in
theorem rp_0_h7 (d n : Nat) (σ : mm_S) (x1 : Int32) (x2 : Int32) (x3 : Int32) (x4 : Int32) (x5 : Int32) (x6 : Int32) (x7 : Int32) (x8 : Int32) (x9 : Int32) (x10 : Int32) : mm_ex sr (rG d) 3 rp_0_l (n + 1) rp_0_r7 [.ref 0, .int x1, .int x2, .int x3, .int x4, .int x5, .int x6, .int x7, .int x8, .int x9, .int x10, .null] [] σ = (mm_ex sr (rG d) 3 rp_0_l (n + 0) rp_0_r8 [.ref 0, .int x1, .int x2, .int x3, .int x4, .int x5, .int x6, .int x7, .int x8, .int x9, .int x10, .null] [.int (0 : Int32)] σ) := by
  refine (ex_iconst).trans ?_
  exact rfl
set_option maxRecDepth 100000 in
set_option maxHeartbeats 4000000 in
theorem rp_0_h8 (d n : Nat) (σ : mm_S) (x1 : Int32) (x2 : Int32) (x3 : Int32) (x4 : Int32) (x5 : Int32) (x6 : Int32) (x7 : Int32) (x8 : Int32) (x9 : Int32) (x10 : Int32) (xs0 : Int32) : mm_ex sr (rG d) 3 rp_0_l (n + 26) rp_0_r8 [.ref 0, .int x1, .int x2, .int x3, .int x4, .int x5, .int x6, .int x7, .int x8, .int x9, .int x10, .null] [.int xs0] σ = (if x2 < x7 then (some ((0 : Int32), 0, σ)) else (if x6 = (2 : Int32) then (some ((0 : Int32), 0, σ)) else (if x9 = 0 then (if x6 = 0 then (some ((0 : Int32), 0, σ)) else (if x10 = 0 then (if xs0 = 0 then (some ((0 : Int32), 0, σ)) else (if x9 = 0 then (if x8 = (29 : Int32) then (mm_ex sr (rG d) 3 rp_0_l (n + 2) rp_0_r1 [.ref 0, .int x1, .int x2, .int x3, .int x4, .int x5, .int (0 : Int32), .int x7, .int x8, .int x9, .int x10, .int xs0] [] σ) else (mm_ex sr (rG d) 3 rp_0_l (n + 3) rp_0_r1 [.ref 0, .int x1, .int x2, .int x3, .int x4, .int x5, .int (2 : Int32), .int x7, .int x8, .int x9, .int x10, .int xs0] [] σ)) else (if mm_in x8 32 then (if (σ.1 1 (x8).toNatClampNeg) = 0 then (mm_ex sr (rG d) 3 rp_0_l (n + 0) rp_0_r1 [.ref 0, .int x1, .int x2, .int x3, .int x4, .int x5, .int (2 : Int32), .int x7, .int x8, .int x9, .int x10, .int xs0] [] σ) else (mm_ex sr (rG d) 3 rp_0_l (n + 0) rp_0_r1 [.ref 0, .int x1, .int x2, .int x3, .int x4, .int x5, .int (1 : Int32), .int x7, .int x8, .int x9, .int x10, .int xs0] [] σ)) else none))) else (if x9 = 0 then (if x8 = (29 : Int32) then (mm_ex sr (rG d) 3 rp_0_l (n + 4) rp_0_r1 [.ref 0, .int x1, .int x2, .int x3, .int x4, .int x5, .int (0 : Int32), .int x7, .int x8, .int x9, .int x10, .int xs0] [] σ) else (mm_ex sr (rG d) 3 rp_0_l (n + 5) rp_0_r1 [.ref 0, .int x1, .int x2, .int x3, .int x4, .int x5, .int (2 : Int32), .int x7, .int x8, .int x9, .int x10, .int xs0] [] σ)) else (if mm_in x8 32 then (if (σ.1 1 (x8).toNatClampNeg) = 0 then (mm_ex sr (rG d) 3 rp_0_l (n + 2) rp_0_r1 [.ref 0, .int x1, .int x2, .int x3, .int x4, .int x5, .int (2 : Int32), .int x7, .int x8, .int x9, .int x10, .int xs0] [] σ) else (mm_ex sr (rG d) 3 rp_0_l (n + 2) rp_0_r1 [.ref 0, .int x1, .int x2, .int x3, .int x4, .int x5, .int (1 : Int32), .int x7, .int x8, .int x9, .int x10, .int xs0] [] σ)) else none)))) else (if x9 = 0 then (if x8 = (29 : Int32) then (mm_ex sr (rG d) 3 rp_0_l (n + 8) rp_0_r1 [.ref 0, .int x1, .int x2, .int x3, .int x4, .int x5, .int (0 : Int32), .int x7, .int x8, .int x9, .int x10, .int xs0] [] σ) else (mm_ex sr (rG d) 3 rp_0_l (n + 9) rp_0_r1 [.ref 0, .int x1, .int x2, .int x3, .int x4, .int x5, .int (2 : Int32), .int x7, .int x8, .int x9, .int x10, .int xs0] [] σ)) else (if mm_in x8 32 then (if (σ.1 1 (x8).toNatClampNeg) = 0 then (mm_ex sr (rG d) 3 rp_0_l (n + 6) rp_0_r1 [.ref 0, .int x1, .int x2, .int x3, .int x4, .int x5, .int (2 : Int32), .int x7, .int x8, .int x9, .int x10, .int xs0] [] σ) else (mm_ex sr (rG d) 3 rp_0_l (n + 6) rp_0_r1 [.ref 0, .int x1, .int x2, .int x3, .int x4, .int x5, .int (1 : Int32), .int x7, .int x8, .int x9, .int x10, .int xs0] [] σ)) else none))))) := by
  refine (ex_istore (L2 := [.ref 0, .int x1, .int x2, .int x3, .int x4, .int x5, .int x6, .int x7, .int x8, .int x9, .int x10, .int xs0]) rfl).trans ?_
  refine (ex_iload (x := x7) rfl).trans ?_
  refine (ex_iload_n (x := x2) rfl).trans ?_
  refine (ex_ic_gt (p := 134) (q := rp_0_r9) rfl).trans (ex_ite ?_ ?_)
  · refine (ex_iconst).trans ?_
    exact ex_zreturn0
  · refine (ex_iload (x := x6) rfl).trans ?_
    refine (ex_iconst).trans ?_
    refine (ex_ic_eq (p := 134) (q := rp_0_r9) rfl).trans (ex_ite ?_ ?_)
    · refine (ex_iconst).trans ?_
      exact ex_zreturn0
    · refine (ex_iload (x := x9) rfl).trans ?_
      refine (ex_if_ne (p := 136) (q := rp_0_r10) rfl).trans (ex_ite ?_ ?_)
      · refine (ex_iload (x := x6) rfl).trans ?_
        refine (ex_if_eq (p := 134) (q := rp_0_r9) rfl).trans (ex_ite ?_ ?_)
        · refine (ex_iconst).trans ?_
          exact ex_zreturn0
        · refine (ex_iload (x := x10) rfl).trans ?_
          refine (ex_if_ne (p := 136) (q := rp_0_r10) rfl).trans (ex_ite ?_ ?_)
          · refine (ex_iload (x := xs0) rfl).trans ?_
            refine (ex_if_ne (p := 136) (q := rp_0_r10) rfl).trans (ex_ite ?_ ?_)
            · refine (ex_iconst).trans ?_
              exact ex_zreturn0
            · refine (ex_iload (x := x9) rfl).trans ?_
              refine (ex_if_eq (p := 159) (q := rp_0_r12) rfl).trans (ex_ite ?_ ?_)
              · refine (ex_iload (x := x8) rfl).trans ?_
                refine (ex_bipush).trans ?_
                refine (ex_ic_ne (p := 170) (q := rp_0_r13) rfl).trans (ex_ite ?_ ?_)
                · refine (ex_iconst).trans ?_
                  refine (ex_goto (p := 171) (q := rp_0_r14) rfl).trans ?_
                  refine (ex_istore (L2 := [.ref 0, .int x1, .int x2, .int x3, .int x4, .int x5, .int (0 : Int32), .int x7, .int x8, .int x9, .int x10, .int xs0]) rfl).trans ?_
                  refine (ex_goto (p := 15) (q := rp_0_r1) rfl).trans ?_
                  exact rfl
                · refine (ex_iconst).trans ?_
                  refine (ex_istore (L2 := [.ref 0, .int x1, .int x2, .int x3, .int x4, .int x5, .int (2 : Int32), .int x7, .int x8, .int x9, .int x10, .int xs0]) rfl).trans ?_
                  refine (ex_goto (p := 15) (q := rp_0_r1) rfl).trans ?_
                  exact rfl
              · refine (ex_aload_n (x := 0) rfl).trans ?_
                refine (ex_get (u := .ref 1) rfl).trans ?_
                refine (ex_iload (x := x8) rfl).trans ?_
                refine (ex_baload (z := 32) rfl).trans (ex_ite ?_ rfl)
                refine (ex_if_eq (p := 155) (q := rp_0_r11) rfl).trans (ex_ite ?_ ?_)
                · refine (ex_iconst).trans ?_
                  refine (ex_goto (p := 171) (q := rp_0_r14) rfl).trans ?_
                  refine (ex_istore (L2 := [.ref 0, .int x1, .int x2, .int x3, .int x4, .int x5, .int (2 : Int32), .int x7, .int x8, .int x9, .int x10, .int xs0]) rfl).trans ?_
                  refine (ex_goto (p := 15) (q := rp_0_r1) rfl).trans ?_
                  exact rfl
                · refine (ex_iconst).trans ?_
                  refine (ex_goto (p := 171) (q := rp_0_r14) rfl).trans ?_
                  refine (ex_istore (L2 := [.ref 0, .int x1, .int x2, .int x3, .int x4, .int x5, .int (1 : Int32), .int x7, .int x8, .int x9, .int x10, .int xs0]) rfl).trans ?_
                  refine (ex_goto (p := 15) (q := rp_0_r1) rfl).trans ?_
                  exact rfl
          · refine (ex_iload (x := x9) rfl).trans ?_
            refine (ex_if_eq (p := 159) (q := rp_0_r12) rfl).trans (ex_ite ?_ ?_)
            · refine (ex_iload (x := x8) rfl).trans ?_
              refine (ex_bipush).trans ?_
              refine (ex_ic_ne (p := 170) (q := rp_0_r13) rfl).trans (ex_ite ?_ ?_)
              · refine (ex_iconst).trans ?_
                refine (ex_goto (p := 171) (q := rp_0_r14) rfl).trans ?_
                refine (ex_istore (L2 := [.ref 0, .int x1, .int x2, .int x3, .int x4, .int x5, .int (0 : Int32), .int x7, .int x8, .int x9, .int x10, .int xs0]) rfl).trans ?_
                refine (ex_goto (p := 15) (q := rp_0_r1) rfl).trans ?_
                exact rfl
              · refine (ex_iconst).trans ?_
                refine (ex_istore (L2 := [.ref 0, .int x1, .int x2, .int x3, .int x4, .int x5, .int (2 : Int32), .int x7, .int x8, .int x9, .int x10, .int xs0]) rfl).trans ?_
                refine (ex_goto (p := 15) (q := rp_0_r1) rfl).trans ?_
                exact rfl
            · refine (ex_aload_n (x := 0) rfl).trans ?_
              refine (ex_get (u := .ref 1) rfl).trans ?_
              refine (ex_iload (x := x8) rfl).trans ?_
              refine (ex_baload (z := 32) rfl).trans (ex_ite ?_ rfl)
              refine (ex_if_eq (p := 155) (q := rp_0_r11) rfl).trans (ex_ite ?_ ?_)
              · refine (ex_iconst).trans ?_
                refine (ex_goto (p := 171) (q := rp_0_r14) rfl).trans ?_
                refine (ex_istore (L2 := [.ref 0, .int x1, .int x2, .int x3, .int x4, .int x5, .int (2 : Int32), .int x7, .int x8, .int x9, .int x10, .int xs0]) rfl).trans ?_
                refine (ex_goto (p := 15) (q := rp_0_r1) rfl).trans ?_
                exact rfl
              · refine (ex_iconst).trans ?_
                refine (ex_goto (p := 171) (q := rp_0_r14) rfl).trans ?_
                refine (ex_istore (L2 := [.ref 0, .int x1, .int x2, .int x3, .int x4, .int x5, .int (1 : Int32), .int x7, .int x8, .int x9, .int x10, .int xs0]) rfl).trans ?_
                refine (ex_goto (p := 15) (q := rp_0_r1) rfl).trans ?_
                exact rfl
      · refine (ex_iload (x := x9) rfl).trans ?_
        refine (ex_if_eq (p := 159) (q := rp_0_r12) rfl).trans (ex_ite ?_ ?_)
        · refine (ex_iload (x := x8) rfl).trans ?_
          refine (ex_bipush).trans ?_
          refine (ex_ic_ne (p := 170) (q := rp_0_r13) rfl).trans (ex_ite ?_ ?_)
          · refine (ex_iconst).trans ?_
            refine (ex_goto (p := 171) (q := rp_0_r14) rfl).trans ?_
            refine (ex_istore (L2 := [.ref 0, .int x1, .int x2, .int x3, .int x4, .int x5, .int (0 : Int32), .int x7, .int x8, .int x9, .int x10, .int xs0]) rfl).trans ?_
            refine (ex_goto (p := 15) (q := rp_0_r1) rfl).trans ?_
            exact rfl
          · refine (ex_iconst).trans ?_
            refine (ex_istore (L2 := [.ref 0, .int x1, .int x2, .int x3, .int x4, .int x5, .int (2 : Int32), .int x7, .int x8, .int x9, .int x10, .int xs0]) rfl).trans ?_
            refine (ex_goto (p := 15) (q := rp_0_r1) rfl).trans ?_
            exact rfl
        · refine (ex_aload_n (x := 0) rfl).trans ?_
          refine (ex_get (u := .ref 1) rfl).trans ?_
          refine (ex_iload (x := x8) rfl).trans ?_
          refine (ex_baload (z := 32) rfl).trans (ex_ite ?_ rfl)
          refine (ex_if_eq (p := 155) (q := rp_0_r11) rfl).trans (ex_ite ?_ ?_)
          · refine (ex_iconst).trans ?_
            refine (ex_goto (p := 171) (q := rp_0_r14) rfl).trans ?_
            refine (ex_istore (L2 := [.ref 0, .int x1, .int x2, .int x3, .int x4, .int x5, .int (2 : Int32), .int x7, .int x8, .int x9, .int x10, .int xs0]) rfl).trans ?_
            refine (ex_goto (p := 15) (q := rp_0_r1) rfl).trans ?_
            exact rfl
          · refine (ex_iconst).trans ?_
            refine (ex_goto (p := 171) (q := rp_0_r14) rfl).trans ?_
            refine (ex_istore (L2 := [.ref 0, .int x1, .int x2, .int x3, .int x4, .int x5, .int (1 : Int32), .int x7, .int x8, .int x9, .int x10, .int xs0]) rfl).trans ?_
            refine (ex_goto (p := 15) (q := rp_0_r1) rfl).trans ?_
            exact rfl
-- 1: WiringContainerModel.required(I)Z
set_option maxRecDepth 100000 in
set_option maxHeartbeats 4000000 in
theorem rp_1_g (d : Nat) (σ : mm_S) (x1 : Int32) : rG (d + 1) 1 [.ref 0, .int x1] σ = ((rG d 0 [.ref 0, .int x1, .int (6 : Int32), .int (1 : Int32), .int (0 : Int32)] σ).bind fun u1 => (if u1.1 = 0 ∨ u1.1 = 1 then some (u1.1, 0, u1.2.2) else none)) := by
  refine (mm_entry 99999993 7 (maxL := 2) (labs := rp_1_l) (rows := rp_1_r0) (L := [.ref 0, .int x1]) (rk := 3) rfl rfl rfl rfl rfl rfl).trans ?_
  refine (ex_aload_n (x := 0) rfl).trans ?_
  refine (ex_iload_n (x := x1) rfl).trans ?_
  refine (ex_bipush).trans ?_
  refine (ex_iconst).trans ?_
  refine (ex_iconst).trans ?_
  refine (ex_inv_z (As := [.ref 0, .int x1, .int (6 : Int32), .int (1 : Int32), .int (0 : Int32)]) (rest := []) rfl rfl).trans (ex_bnd fun u1 => ?_)
  exact ex_zreturn
-- 2: WiringContainerModel.fine(I)Z
set_option maxRecDepth 100000 in
set_option maxHeartbeats 4000000 in
theorem rp_2_g (d : Nat) (σ : mm_S) (x0 : Int32) : rG (d + 1) 2 [.int x0] σ = (if x0 < 0 then (some ((0 : Int32), 0, σ)) else (if (32767 : Int32) < x0 then (some ((0 : Int32), 0, σ)) else (if (1 : Int32) < ((x0 >>> ((3 : Int32) &&& 31)) &&& (7 : Int32)) then (some ((0 : Int32), 0, σ)) else (some ((1 : Int32), 0, σ))))) := by
  refine (mm_entry 99999985 15 (maxL := 1) (labs := rp_2_l) (rows := rp_2_r0) (L := [.int x0]) (rk := 3) rfl rfl rfl rfl rfl rfl).trans ?_
  refine (ex_iload_n (x := x0) rfl).trans ?_
  refine (ex_if_lt (p := 25) (q := rp_2_r1) rfl).trans (ex_ite ?_ ?_)
  · refine (ex_iconst).trans ?_
    exact ex_zreturn0
  · refine (ex_iload_n (x := x0) rfl).trans ?_
    refine (ex_sipush).trans ?_
    refine (ex_ic_gt (p := 25) (q := rp_2_r1) rfl).trans (ex_ite ?_ ?_)
    · refine (ex_iconst).trans ?_
      exact ex_zreturn0
    · refine (ex_iload_n (x := x0) rfl).trans ?_
      refine (ex_iconst).trans ?_
      refine (ex_ishr).trans ?_
      refine (ex_bipush).trans ?_
      refine (ex_iand).trans ?_
      refine (ex_iconst).trans ?_
      refine (ex_ic_gt (p := 25) (q := rp_2_r1) rfl).trans (ex_ite ?_ ?_)
      · refine (ex_iconst).trans ?_
        exact ex_zreturn0
      · refine (ex_iconst).trans ?_
        refine (ex_goto (p := 26) (q := rp_2_r2) rfl).trans ?_
        exact ex_zreturn1
-- 3: WiringContainerModel.askable(I)Z
set_option maxRecDepth 100000 in
set_option maxHeartbeats 4000000 in
theorem rp_3_g (d : Nat) (σ : mm_S) (x0 : Int32) : rG (d + 1) 3 [.int x0] σ = (if x0 = (-1 : Int32) then (some ((1 : Int32), 0, σ)) else ((rG d 2 [.int x0] σ).bind fun u1 => (if u1.1 = 0 then (some ((0 : Int32), 0, u1.2.2)) else (some ((1 : Int32), 0, u1.2.2))))) := by
  refine (mm_entry 99999991 9 (maxL := 1) (labs := rp_3_l) (rows := rp_3_r0) (L := [.int x0]) (rk := 3) rfl rfl rfl rfl rfl rfl).trans ?_
  refine (ex_iload_n (x := x0) rfl).trans ?_
  refine (ex_iconst).trans ?_
  refine (ex_ic_eq (p := 12) (q := rp_3_r1) rfl).trans (ex_ite ?_ ?_)
  · refine (ex_iconst).trans ?_
    refine (ex_goto (p := 17) (q := rp_3_r3) rfl).trans ?_
    exact ex_zreturn1
  · refine (ex_iload_n (x := x0) rfl).trans ?_
    refine (ex_sta_z (As := [.int x0]) (rest := []) (by decide) (by decide) rfl rfl).trans (ex_bnd fun u1 => ?_)
    refine (ex_if_eq (p := 16) (q := rp_3_r2) rfl).trans (ex_ite ?_ ?_)
    · refine (ex_iconst).trans ?_
      exact ex_zreturn0
    · refine (ex_iconst).trans ?_
      refine (ex_goto (p := 17) (q := rp_3_r3) rfl).trans ?_
      exact ex_zreturn1
-- 4: WiringContainerModel.parental(IZ)Z
set_option maxRecDepth 100000 in
set_option maxHeartbeats 4000000 in
theorem rp_4_g (d : Nat) (σ : mm_S) (x1 : Int32) (x2 : Int32) : rG (d + 1) 4 [.ref 0, .int x1, .int x2] σ = (if x1 = 0 then (some ((1 : Int32), 0, σ)) else ((rG d 0 [.ref 0, .int x1, .int (3 : Int32), .int (0 : Int32), .int x2] σ).bind fun u1 => (if u1.1 = 0 then (some ((0 : Int32), 0, u1.2.2)) else (if mm_in (x1 &&& (31 : Int32)) 32 then (if (u1.2.2.1 2 ((x1 &&& (31 : Int32))).toNatClampNeg) = 0 then (if (x1 &&& (31 : Int32)) = (1 : Int32) then (some ((0 : Int32), 0, u1.2.2)) else (some ((1 : Int32), 0, u1.2.2))) else (some ((0 : Int32), 0, u1.2.2))) else none)))) := by
  refine (mm_entry 99999976 24 (maxL := 3) (labs := rp_4_l) (rows := rp_4_r0) (L := [.ref 0, .int x1, .int x2]) (rk := 3) rfl rfl rfl rfl rfl rfl).trans ?_
  refine (ex_iload_n (x := x1) rfl).trans ?_
  refine (ex_if_ne (p := 6) (q := rp_4_r1) rfl).trans (ex_ite ?_ ?_)
  · refine (ex_iconst).trans ?_
    exact ex_zreturn1
  · refine (ex_aload_n (x := 0) rfl).trans ?_
    refine (ex_iload_n (x := x1) rfl).trans ?_
    refine (ex_iconst).trans ?_
    refine (ex_iconst).trans ?_
    refine (ex_iload_n (x := x2) rfl).trans ?_
    refine (ex_inv_z (As := [.ref 0, .int x1, .int (3 : Int32), .int (0 : Int32), .int x2]) (rest := []) rfl rfl).trans (ex_bnd fun u1 => ?_)
    refine (ex_if_eq (p := 41) (q := rp_4_r2) rfl).trans (ex_ite ?_ ?_)
    · refine (ex_iconst).trans ?_
      exact ex_zreturn0
    · refine (ex_aload_n (x := 0) rfl).trans ?_
      refine (ex_get (u := .ref 2) rfl).trans ?_
      refine (ex_iload_n (x := x1) rfl).trans ?_
      refine (ex_bipush).trans ?_
      refine (ex_iand).trans ?_
      refine (ex_baload (z := 32) rfl).trans (ex_ite ?_ rfl)
      refine (ex_if_ne (p := 41) (q := rp_4_r2) rfl).trans (ex_ite ?_ ?_)
      · refine (ex_iload_n (x := x1) rfl).trans ?_
        refine (ex_bipush).trans ?_
        refine (ex_iand).trans ?_
        refine (ex_iconst).trans ?_
        refine (ex_ic_eq (p := 41) (q := rp_4_r2) rfl).trans (ex_ite ?_ ?_)
        · refine (ex_iconst).trans ?_
          exact ex_zreturn0
        · refine (ex_iconst).trans ?_
          refine (ex_goto (p := 42) (q := rp_4_r3) rfl).trans ?_
          exact ex_zreturn1
      · refine (ex_iconst).trans ?_
        exact ex_zreturn0
-- 5: WiringContainerModel.declare(IIZZ)I
set_option maxRecDepth 100000 in
set_option maxHeartbeats 4000000 in
theorem rp_5_g (d : Nat) (σ : mm_S) (x1 : Int32) (x2 : Int32) (x3 : Int32) (x4 : Int32) : rG (d + 1) 5 [.ref 0, .int x1, .int x2, .int x3, .int x4] σ = (if (σ.1 0 15) = 0 then (if (σ.1 0 0) < (13 : Int32) then ((rG d 4 [.ref 0, .int x1, .int x3] σ).bind fun u1 => (if u1.1 = 0 then (some ((-1 : Int32), 0, u1.2.2)) else ((rG d 4 [.ref 0, .int x2, .int x3] u1.2.2).bind fun u2 => (if u2.1 = 0 then (some ((-1 : Int32), 0, u2.2.2)) else (if x1 = 0 then (mm_ex sr (rG d) 1 rp_5_l (99999960 + 19) rp_5_r5 [.ref 0, .int x1, .int x2, .int x3, .int x4, .int (0 : Int32)] [] u2.2.2) else (if mm_in (x1 &&& (31 : Int32)) 32 then (if ((u2.2.2.1 3 ((x1 &&& (31 : Int32))).toNatClampNeg) + (1 : Int32)) ≤ (0 : Int32) then (mm_ex sr (rG d) 1 rp_5_l (99999960 + 9) rp_5_r5 [.ref 0, .int x1, .int x2, .int x3, .int x4, .int (0 : Int32)] [] u2.2.2) else (if mm_in (x1 &&& (31 : Int32)) 32 then (mm_ex sr (rG d) 1 rp_5_l (99999960 + 0) rp_5_r6 [.ref 0, .int x1, .int x2, .int x3, .int x4, .int (0 : Int32)] [.int ((u2.2.2.1 3 ((x1 &&& (31 : Int32))).toNatClampNeg) + (1 : Int32))] u2.2.2) else none)) else none)))))) else (some ((-2 : Int32), 0, σ))) else (some ((-3 : Int32), 0, σ))) := by
  refine (mm_entry 99999960 40 (maxL := 6) (labs := rp_5_l) (rows := rp_5_r0) (L := [.ref 0, .int x1, .int x2, .int x3, .int x4, .null]) (rk := 1) rfl rfl rfl rfl rfl rfl).trans ?_
  refine (ex_aload_n (x := 0) rfl).trans ?_
  refine (ex_get (u := .int (σ.1 0 15)) rfl).trans ?_
  refine (ex_if_eq (p := 10) (q := rp_5_r1) rfl).trans (ex_ite ?_ ?_)
  · refine (ex_aload_n (x := 0) rfl).trans ?_
    refine (ex_get (u := .int (σ.1 0 0)) rfl).trans ?_
    refine (ex_bipush).trans ?_
    refine (ex_ic_lt (p := 22) (q := rp_5_r2) rfl).trans (ex_ite ?_ ?_)
    · refine (ex_aload_n (x := 0) rfl).trans ?_
      refine (ex_iload_n (x := x1) rfl).trans ?_
      refine (ex_iload_n (x := x3) rfl).trans ?_
      refine (ex_inv_z (As := [.ref 0, .int x1, .int x3]) (rest := []) rfl rfl).trans (ex_bnd fun u1 => ?_)
      refine (ex_if_eq (p := 40) (q := rp_5_r3) rfl).trans (ex_ite ?_ ?_)
      · refine (ex_iconst).trans ?_
        exact ex_ireturn
      · refine (ex_aload_n (x := 0) rfl).trans ?_
        refine (ex_iload_n (x := x2) rfl).trans ?_
        refine (ex_iload_n (x := x3) rfl).trans ?_
        refine (ex_inv_z (As := [.ref 0, .int x2, .int x3]) (rest := []) rfl rfl).trans (ex_bnd fun u2 => ?_)
        refine (ex_if_ne (p := 42) (q := rp_5_r4) rfl).trans (ex_ite ?_ ?_)
        · refine (ex_iconst).trans ?_
          exact ex_ireturn
        · refine (ex_iconst).trans ?_
          refine (ex_istore (L2 := [.ref 0, .int x1, .int x2, .int x3, .int x4, .int (0 : Int32)]) rfl).trans ?_
          refine (ex_iload_n (x := x1) rfl).trans ?_
          refine (ex_if_eq (p := 79) (q := rp_5_r5) rfl).trans (ex_ite ?_ ?_)
          · exact rfl
          · refine (ex_aload_n (x := 0) rfl).trans ?_
            refine (ex_get (u := .ref 3) rfl).trans ?_
            refine (ex_iload_n (x := x1) rfl).trans ?_
            refine (ex_bipush).trans ?_
            refine (ex_iand).trans ?_
            refine (ex_iaload (z := 32) rfl).trans (ex_ite ?_ rfl)
            refine (ex_iconst).trans ?_
            refine (ex_iadd).trans ?_
            refine (ex_iload (x := (0 : Int32)) rfl).trans ?_
            refine (ex_ic_le (p := 79) (q := rp_5_r5) rfl).trans (ex_ite ?_ ?_)
            · exact rfl
            · refine (ex_aload_n (x := 0) rfl).trans ?_
              refine (ex_get (u := .ref 3) rfl).trans ?_
              refine (ex_iload_n (x := x1) rfl).trans ?_
              refine (ex_bipush).trans ?_
              refine (ex_iand).trans ?_
              refine (ex_iaload (z := 32) rfl).trans (ex_ite ?_ rfl)
              refine (ex_iconst).trans ?_
              refine (ex_iadd).trans ?_
              refine (ex_goto (p := 81) (q := rp_5_r6) rfl).trans ?_
              exact rfl
    · refine (ex_bipush).trans ?_
      exact ex_ireturn
  · refine (ex_bipush).trans ?_
    exact ex_ireturn
set_option maxRecDepth 100000 in
set_option maxHeartbeats 4000000 in
theorem rp_5_h5 (d n : Nat) (σ : mm_S) (x1 : Int32) (x2 : Int32) (x3 : Int32) (x4 : Int32) (x5 : Int32) : mm_ex sr (rG d) 1 rp_5_l (n + 1) rp_5_r5 [.ref 0, .int x1, .int x2, .int x3, .int x4, .int x5] [] σ = (mm_ex sr (rG d) 1 rp_5_l (n + 0) rp_5_r6 [.ref 0, .int x1, .int x2, .int x3, .int x4, .int x5] [.int x5] σ) := by
  refine (ex_iload (x := x5) rfl).trans ?_
  exact rfl
set_option maxRecDepth 100000 in
set_option maxHeartbeats 4000000 in
theorem rp_5_h6 (d n : Nat) (σ : mm_S) (x1 : Int32) (x2 : Int32) (x3 : Int32) (x4 : Int32) (x5 : Int32) (xs0 : Int32) : mm_ex sr (rG d) 1 rp_5_l (n + 71) rp_5_r6 [.ref 0, .int x1, .int x2, .int x3, .int x4, .int x5] [.int xs0] σ = (if x2 = 0 then (if xs0 ≤ (3 : Int32) then (if mm_in ((mm_w σ.1 0 0 ((σ.1 0 0) + (1 : Int32))) 0 0) 32 then (if x3 = 0 ∨ x3 = 1 then (if mm_in ((mm_w (mm_w σ.1 0 0 ((σ.1 0 0) + (1 : Int32))) 1 (((mm_w σ.1 0 0 ((σ.1 0 0) + (1 : Int32))) 0 0)).toNatClampNeg x3) 0 0) 32 then (if x4 = 0 ∨ x4 = 1 then (if mm_in ((mm_w (mm_w (mm_w σ.1 0 0 ((σ.1 0 0) + (1 : Int32))) 1 (((mm_w σ.1 0 0 ((σ.1 0 0) + (1 : Int32))) 0 0)).toNatClampNeg x3) 2 (((mm_w (mm_w σ.1 0 0 ((σ.1 0 0) + (1 : Int32))) 1 (((mm_w σ.1 0 0 ((σ.1 0 0) + (1 : Int32))) 0 0)).toNatClampNeg x3) 0 0)).toNatClampNeg x4) 0 0) 32 then (if mm_in ((2 : Int32) * ((mm_w (mm_w (mm_w (mm_w σ.1 0 0 ((σ.1 0 0) + (1 : Int32))) 1 (((mm_w σ.1 0 0 ((σ.1 0 0) + (1 : Int32))) 0 0)).toNatClampNeg x3) 2 (((mm_w (mm_w σ.1 0 0 ((σ.1 0 0) + (1 : Int32))) 1 (((mm_w σ.1 0 0 ((σ.1 0 0) + (1 : Int32))) 0 0)).toNatClampNeg x3) 0 0)).toNatClampNeg x4) 3 (((mm_w (mm_w (mm_w σ.1 0 0 ((σ.1 0 0) + (1 : Int32))) 1 (((mm_w σ.1 0 0 ((σ.1 0 0) + (1 : Int32))) 0 0)).toNatClampNeg x3) 2 (((mm_w (mm_w σ.1 0 0 ((σ.1 0 0) + (1 : Int32))) 1 (((mm_w σ.1 0 0 ((σ.1 0 0) + (1 : Int32))) 0 0)).toNatClampNeg x3) 0 0)).toNatClampNeg x4) 0 0)).toNatClampNeg xs0) 0 0)) 64 then (if mm_in (((2 : Int32) * ((mm_w (mm_w (mm_w (mm_w (mm_w σ.1 0 0 ((σ.1 0 0) + (1 : Int32))) 1 (((mm_w σ.1 0 0 ((σ.1 0 0) + (1 : Int32))) 0 0)).toNatClampNeg x3) 2 (((mm_w (mm_w σ.1 0 0 ((σ.1 0 0) + (1 : Int32))) 1 (((mm_w σ.1 0 0 ((σ.1 0 0) + (1 : Int32))) 0 0)).toNatClampNeg x3) 0 0)).toNatClampNeg x4) 3 (((mm_w (mm_w (mm_w σ.1 0 0 ((σ.1 0 0) + (1 : Int32))) 1 (((mm_w σ.1 0 0 ((σ.1 0 0) + (1 : Int32))) 0 0)).toNatClampNeg x3) 2 (((mm_w (mm_w σ.1 0 0 ((σ.1 0 0) + (1 : Int32))) 1 (((mm_w σ.1 0 0 ((σ.1 0 0) + (1 : Int32))) 0 0)).toNatClampNeg x3) 0 0)).toNatClampNeg x4) 0 0)).toNatClampNeg xs0) 4 (((2 : Int32) * ((mm_w (mm_w (mm_w (mm_w σ.1 0 0 ((σ.1 0 0) + (1 : Int32))) 1 (((mm_w σ.1 0 0 ((σ.1 0 0) + (1 : Int32))) 0 0)).toNatClampNeg x3) 2 (((mm_w (mm_w σ.1 0 0 ((σ.1 0 0) + (1 : Int32))) 1 (((mm_w σ.1 0 0 ((σ.1 0 0) + (1 : Int32))) 0 0)).toNatClampNeg x3) 0 0)).toNatClampNeg x4) 3 (((mm_w (mm_w (mm_w σ.1 0 0 ((σ.1 0 0) + (1 : Int32))) 1 (((mm_w σ.1 0 0 ((σ.1 0 0) + (1 : Int32))) 0 0)).toNatClampNeg x3) 2 (((mm_w (mm_w σ.1 0 0 ((σ.1 0 0) + (1 : Int32))) 1 (((mm_w σ.1 0 0 ((σ.1 0 0) + (1 : Int32))) 0 0)).toNatClampNeg x3) 0 0)).toNatClampNeg x4) 0 0)).toNatClampNeg xs0) 0 0))).toNatClampNeg x1) 0 0)) + (1 : Int32)) 64 then (some (((mm_w (mm_w (mm_w (mm_w (mm_w (mm_w σ.1 0 0 ((σ.1 0 0) + (1 : Int32))) 1 (((mm_w σ.1 0 0 ((σ.1 0 0) + (1 : Int32))) 0 0)).toNatClampNeg x3) 2 (((mm_w (mm_w σ.1 0 0 ((σ.1 0 0) + (1 : Int32))) 1 (((mm_w σ.1 0 0 ((σ.1 0 0) + (1 : Int32))) 0 0)).toNatClampNeg x3) 0 0)).toNatClampNeg x4) 3 (((mm_w (mm_w (mm_w σ.1 0 0 ((σ.1 0 0) + (1 : Int32))) 1 (((mm_w σ.1 0 0 ((σ.1 0 0) + (1 : Int32))) 0 0)).toNatClampNeg x3) 2 (((mm_w (mm_w σ.1 0 0 ((σ.1 0 0) + (1 : Int32))) 1 (((mm_w σ.1 0 0 ((σ.1 0 0) + (1 : Int32))) 0 0)).toNatClampNeg x3) 0 0)).toNatClampNeg x4) 0 0)).toNatClampNeg xs0) 4 (((2 : Int32) * ((mm_w (mm_w (mm_w (mm_w σ.1 0 0 ((σ.1 0 0) + (1 : Int32))) 1 (((mm_w σ.1 0 0 ((σ.1 0 0) + (1 : Int32))) 0 0)).toNatClampNeg x3) 2 (((mm_w (mm_w σ.1 0 0 ((σ.1 0 0) + (1 : Int32))) 1 (((mm_w σ.1 0 0 ((σ.1 0 0) + (1 : Int32))) 0 0)).toNatClampNeg x3) 0 0)).toNatClampNeg x4) 3 (((mm_w (mm_w (mm_w σ.1 0 0 ((σ.1 0 0) + (1 : Int32))) 1 (((mm_w σ.1 0 0 ((σ.1 0 0) + (1 : Int32))) 0 0)).toNatClampNeg x3) 2 (((mm_w (mm_w σ.1 0 0 ((σ.1 0 0) + (1 : Int32))) 1 (((mm_w σ.1 0 0 ((σ.1 0 0) + (1 : Int32))) 0 0)).toNatClampNeg x3) 0 0)).toNatClampNeg x4) 0 0)).toNatClampNeg xs0) 0 0))).toNatClampNeg x1) 4 ((((2 : Int32) * ((mm_w (mm_w (mm_w (mm_w (mm_w σ.1 0 0 ((σ.1 0 0) + (1 : Int32))) 1 (((mm_w σ.1 0 0 ((σ.1 0 0) + (1 : Int32))) 0 0)).toNatClampNeg x3) 2 (((mm_w (mm_w σ.1 0 0 ((σ.1 0 0) + (1 : Int32))) 1 (((mm_w σ.1 0 0 ((σ.1 0 0) + (1 : Int32))) 0 0)).toNatClampNeg x3) 0 0)).toNatClampNeg x4) 3 (((mm_w (mm_w (mm_w σ.1 0 0 ((σ.1 0 0) + (1 : Int32))) 1 (((mm_w σ.1 0 0 ((σ.1 0 0) + (1 : Int32))) 0 0)).toNatClampNeg x3) 2 (((mm_w (mm_w σ.1 0 0 ((σ.1 0 0) + (1 : Int32))) 1 (((mm_w σ.1 0 0 ((σ.1 0 0) + (1 : Int32))) 0 0)).toNatClampNeg x3) 0 0)).toNatClampNeg x4) 0 0)).toNatClampNeg xs0) 4 (((2 : Int32) * ((mm_w (mm_w (mm_w (mm_w σ.1 0 0 ((σ.1 0 0) + (1 : Int32))) 1 (((mm_w σ.1 0 0 ((σ.1 0 0) + (1 : Int32))) 0 0)).toNatClampNeg x3) 2 (((mm_w (mm_w σ.1 0 0 ((σ.1 0 0) + (1 : Int32))) 1 (((mm_w σ.1 0 0 ((σ.1 0 0) + (1 : Int32))) 0 0)).toNatClampNeg x3) 0 0)).toNatClampNeg x4) 3 (((mm_w (mm_w (mm_w σ.1 0 0 ((σ.1 0 0) + (1 : Int32))) 1 (((mm_w σ.1 0 0 ((σ.1 0 0) + (1 : Int32))) 0 0)).toNatClampNeg x3) 2 (((mm_w (mm_w σ.1 0 0 ((σ.1 0 0) + (1 : Int32))) 1 (((mm_w σ.1 0 0 ((σ.1 0 0) + (1 : Int32))) 0 0)).toNatClampNeg x3) 0 0)).toNatClampNeg x4) 0 0)).toNatClampNeg xs0) 0 0))).toNatClampNeg x1) 0 0)) + (1 : Int32))).toNatClampNeg x2) 0 0), 0, ((mm_w (mm_w (mm_w (mm_w (mm_w (mm_w σ.1 0 0 ((σ.1 0 0) + (1 : Int32))) 1 (((mm_w σ.1 0 0 ((σ.1 0 0) + (1 : Int32))) 0 0)).toNatClampNeg x3) 2 (((mm_w (mm_w σ.1 0 0 ((σ.1 0 0) + (1 : Int32))) 1 (((mm_w σ.1 0 0 ((σ.1 0 0) + (1 : Int32))) 0 0)).toNatClampNeg x3) 0 0)).toNatClampNeg x4) 3 (((mm_w (mm_w (mm_w σ.1 0 0 ((σ.1 0 0) + (1 : Int32))) 1 (((mm_w σ.1 0 0 ((σ.1 0 0) + (1 : Int32))) 0 0)).toNatClampNeg x3) 2 (((mm_w (mm_w σ.1 0 0 ((σ.1 0 0) + (1 : Int32))) 1 (((mm_w σ.1 0 0 ((σ.1 0 0) + (1 : Int32))) 0 0)).toNatClampNeg x3) 0 0)).toNatClampNeg x4) 0 0)).toNatClampNeg xs0) 4 (((2 : Int32) * ((mm_w (mm_w (mm_w (mm_w σ.1 0 0 ((σ.1 0 0) + (1 : Int32))) 1 (((mm_w σ.1 0 0 ((σ.1 0 0) + (1 : Int32))) 0 0)).toNatClampNeg x3) 2 (((mm_w (mm_w σ.1 0 0 ((σ.1 0 0) + (1 : Int32))) 1 (((mm_w σ.1 0 0 ((σ.1 0 0) + (1 : Int32))) 0 0)).toNatClampNeg x3) 0 0)).toNatClampNeg x4) 3 (((mm_w (mm_w (mm_w σ.1 0 0 ((σ.1 0 0) + (1 : Int32))) 1 (((mm_w σ.1 0 0 ((σ.1 0 0) + (1 : Int32))) 0 0)).toNatClampNeg x3) 2 (((mm_w (mm_w σ.1 0 0 ((σ.1 0 0) + (1 : Int32))) 1 (((mm_w σ.1 0 0 ((σ.1 0 0) + (1 : Int32))) 0 0)).toNatClampNeg x3) 0 0)).toNatClampNeg x4) 0 0)).toNatClampNeg xs0) 0 0))).toNatClampNeg x1) 4 ((((2 : Int32) * ((mm_w (mm_w (mm_w (mm_w (mm_w σ.1 0 0 ((σ.1 0 0) + (1 : Int32))) 1 (((mm_w σ.1 0 0 ((σ.1 0 0) + (1 : Int32))) 0 0)).toNatClampNeg x3) 2 (((mm_w (mm_w σ.1 0 0 ((σ.1 0 0) + (1 : Int32))) 1 (((mm_w σ.1 0 0 ((σ.1 0 0) + (1 : Int32))) 0 0)).toNatClampNeg x3) 0 0)).toNatClampNeg x4) 3 (((mm_w (mm_w (mm_w σ.1 0 0 ((σ.1 0 0) + (1 : Int32))) 1 (((mm_w σ.1 0 0 ((σ.1 0 0) + (1 : Int32))) 0 0)).toNatClampNeg x3) 2 (((mm_w (mm_w σ.1 0 0 ((σ.1 0 0) + (1 : Int32))) 1 (((mm_w σ.1 0 0 ((σ.1 0 0) + (1 : Int32))) 0 0)).toNatClampNeg x3) 0 0)).toNatClampNeg x4) 0 0)).toNatClampNeg xs0) 4 (((2 : Int32) * ((mm_w (mm_w (mm_w (mm_w σ.1 0 0 ((σ.1 0 0) + (1 : Int32))) 1 (((mm_w σ.1 0 0 ((σ.1 0 0) + (1 : Int32))) 0 0)).toNatClampNeg x3) 2 (((mm_w (mm_w σ.1 0 0 ((σ.1 0 0) + (1 : Int32))) 1 (((mm_w σ.1 0 0 ((σ.1 0 0) + (1 : Int32))) 0 0)).toNatClampNeg x3) 0 0)).toNatClampNeg x4) 3 (((mm_w (mm_w (mm_w σ.1 0 0 ((σ.1 0 0) + (1 : Int32))) 1 (((mm_w σ.1 0 0 ((σ.1 0 0) + (1 : Int32))) 0 0)).toNatClampNeg x3) 2 (((mm_w (mm_w σ.1 0 0 ((σ.1 0 0) + (1 : Int32))) 1 (((mm_w σ.1 0 0 ((σ.1 0 0) + (1 : Int32))) 0 0)).toNatClampNeg x3) 0 0)).toNatClampNeg x4) 0 0)).toNatClampNeg xs0) 0 0))).toNatClampNeg x1) 0 0)) + (1 : Int32))).toNatClampNeg x2), σ.2))) else none) else none) else none) else none) else none) else none) else none) else (some ((-1 : Int32), 0, σ))) else (if mm_in (x2 &&& (31 : Int32)) 32 then (if ((σ.1 3 ((x2 &&& (31 : Int32))).toNatClampNeg) + (1 : Int32)) ≤ xs0 then (if xs0 ≤ (3 : Int32) then (if mm_in ((mm_w σ.1 0 0 ((σ.1 0 0) + (1 : Int32))) 0 0) 32 then (if x3 = 0 ∨ x3 = 1 then (if mm_in ((mm_w (mm_w σ.1 0 0 ((σ.1 0 0) + (1 : Int32))) 1 (((mm_w σ.1 0 0 ((σ.1 0 0) + (1 : Int32))) 0 0)).toNatClampNeg x3) 0 0) 32 then (if x4 = 0 ∨ x4 = 1 then (if mm_in ((mm_w (mm_w (mm_w σ.1 0 0 ((σ.1 0 0) + (1 : Int32))) 1 (((mm_w σ.1 0 0 ((σ.1 0 0) + (1 : Int32))) 0 0)).toNatClampNeg x3) 2 (((mm_w (mm_w σ.1 0 0 ((σ.1 0 0) + (1 : Int32))) 1 (((mm_w σ.1 0 0 ((σ.1 0 0) + (1 : Int32))) 0 0)).toNatClampNeg x3) 0 0)).toNatClampNeg x4) 0 0) 32 then (if mm_in ((2 : Int32) * ((mm_w (mm_w (mm_w (mm_w σ.1 0 0 ((σ.1 0 0) + (1 : Int32))) 1 (((mm_w σ.1 0 0 ((σ.1 0 0) + (1 : Int32))) 0 0)).toNatClampNeg x3) 2 (((mm_w (mm_w σ.1 0 0 ((σ.1 0 0) + (1 : Int32))) 1 (((mm_w σ.1 0 0 ((σ.1 0 0) + (1 : Int32))) 0 0)).toNatClampNeg x3) 0 0)).toNatClampNeg x4) 3 (((mm_w (mm_w (mm_w σ.1 0 0 ((σ.1 0 0) + (1 : Int32))) 1 (((mm_w σ.1 0 0 ((σ.1 0 0) + (1 : Int32))) 0 0)).toNatClampNeg x3) 2 (((mm_w (mm_w σ.1 0 0 ((σ.1 0 0) + (1 : Int32))) 1 (((mm_w σ.1 0 0 ((σ.1 0 0) + (1 : Int32))) 0 0)).toNatClampNeg x3) 0 0)).toNatClampNeg x4) 0 0)).toNatClampNeg xs0) 0 0)) 64 then (if mm_in (((2 : Int32) * ((mm_w (mm_w (mm_w (mm_w (mm_w σ.1 0 0 ((σ.1 0 0) + (1 : Int32))) 1 (((mm_w σ.1 0 0 ((σ.1 0 0) + (1 : Int32))) 0 0)).toNatClampNeg x3) 2 (((mm_w (mm_w σ.1 0 0 ((σ.1 0 0) + (1 : Int32))) 1 (((mm_w σ.1 0 0 ((σ.1 0 0) + (1 : Int32))) 0 0)).toNatClampNeg x3) 0 0)).toNatClampNeg x4) 3 (((mm_w (mm_w (mm_w σ.1 0 0 ((σ.1 0 0) + (1 : Int32))) 1 (((mm_w σ.1 0 0 ((σ.1 0 0) + (1 : Int32))) 0 0)).toNatClampNeg x3) 2 (((mm_w (mm_w σ.1 0 0 ((σ.1 0 0) + (1 : Int32))) 1 (((mm_w σ.1 0 0 ((σ.1 0 0) + (1 : Int32))) 0 0)).toNatClampNeg x3) 0 0)).toNatClampNeg x4) 0 0)).toNatClampNeg xs0) 4 (((2 : Int32) * ((mm_w (mm_w (mm_w (mm_w σ.1 0 0 ((σ.1 0 0) + (1 : Int32))) 1 (((mm_w σ.1 0 0 ((σ.1 0 0) + (1 : Int32))) 0 0)).toNatClampNeg x3) 2 (((mm_w (mm_w σ.1 0 0 ((σ.1 0 0) + (1 : Int32))) 1 (((mm_w σ.1 0 0 ((σ.1 0 0) + (1 : Int32))) 0 0)).toNatClampNeg x3) 0 0)).toNatClampNeg x4) 3 (((mm_w (mm_w (mm_w σ.1 0 0 ((σ.1 0 0) + (1 : Int32))) 1 (((mm_w σ.1 0 0 ((σ.1 0 0) + (1 : Int32))) 0 0)).toNatClampNeg x3) 2 (((mm_w (mm_w σ.1 0 0 ((σ.1 0 0) + (1 : Int32))) 1 (((mm_w σ.1 0 0 ((σ.1 0 0) + (1 : Int32))) 0 0)).toNatClampNeg x3) 0 0)).toNatClampNeg x4) 0 0)).toNatClampNeg xs0) 0 0))).toNatClampNeg x1) 0 0)) + (1 : Int32)) 64 then (some (((mm_w (mm_w (mm_w (mm_w (mm_w (mm_w σ.1 0 0 ((σ.1 0 0) + (1 : Int32))) 1 (((mm_w σ.1 0 0 ((σ.1 0 0) + (1 : Int32))) 0 0)).toNatClampNeg x3) 2 (((mm_w (mm_w σ.1 0 0 ((σ.1 0 0) + (1 : Int32))) 1 (((mm_w σ.1 0 0 ((σ.1 0 0) + (1 : Int32))) 0 0)).toNatClampNeg x3) 0 0)).toNatClampNeg x4) 3 (((mm_w (mm_w (mm_w σ.1 0 0 ((σ.1 0 0) + (1 : Int32))) 1 (((mm_w σ.1 0 0 ((σ.1 0 0) + (1 : Int32))) 0 0)).toNatClampNeg x3) 2 (((mm_w (mm_w σ.1 0 0 ((σ.1 0 0) + (1 : Int32))) 1 (((mm_w σ.1 0 0 ((σ.1 0 0) + (1 : Int32))) 0 0)).toNatClampNeg x3) 0 0)).toNatClampNeg x4) 0 0)).toNatClampNeg xs0) 4 (((2 : Int32) * ((mm_w (mm_w (mm_w (mm_w σ.1 0 0 ((σ.1 0 0) + (1 : Int32))) 1 (((mm_w σ.1 0 0 ((σ.1 0 0) + (1 : Int32))) 0 0)).toNatClampNeg x3) 2 (((mm_w (mm_w σ.1 0 0 ((σ.1 0 0) + (1 : Int32))) 1 (((mm_w σ.1 0 0 ((σ.1 0 0) + (1 : Int32))) 0 0)).toNatClampNeg x3) 0 0)).toNatClampNeg x4) 3 (((mm_w (mm_w (mm_w σ.1 0 0 ((σ.1 0 0) + (1 : Int32))) 1 (((mm_w σ.1 0 0 ((σ.1 0 0) + (1 : Int32))) 0 0)).toNatClampNeg x3) 2 (((mm_w (mm_w σ.1 0 0 ((σ.1 0 0) + (1 : Int32))) 1 (((mm_w σ.1 0 0 ((σ.1 0 0) + (1 : Int32))) 0 0)).toNatClampNeg x3) 0 0)).toNatClampNeg x4) 0 0)).toNatClampNeg xs0) 0 0))).toNatClampNeg x1) 4 ((((2 : Int32) * ((mm_w (mm_w (mm_w (mm_w (mm_w σ.1 0 0 ((σ.1 0 0) + (1 : Int32))) 1 (((mm_w σ.1 0 0 ((σ.1 0 0) + (1 : Int32))) 0 0)).toNatClampNeg x3) 2 (((mm_w (mm_w σ.1 0 0 ((σ.1 0 0) + (1 : Int32))) 1 (((mm_w σ.1 0 0 ((σ.1 0 0) + (1 : Int32))) 0 0)).toNatClampNeg x3) 0 0)).toNatClampNeg x4) 3 (((mm_w (mm_w (mm_w σ.1 0 0 ((σ.1 0 0) + (1 : Int32))) 1 (((mm_w σ.1 0 0 ((σ.1 0 0) + (1 : Int32))) 0 0)).toNatClampNeg x3) 2 (((mm_w (mm_w σ.1 0 0 ((σ.1 0 0) + (1 : Int32))) 1 (((mm_w σ.1 0 0 ((σ.1 0 0) + (1 : Int32))) 0 0)).toNatClampNeg x3) 0 0)).toNatClampNeg x4) 0 0)).toNatClampNeg xs0) 4 (((2 : Int32) * ((mm_w (mm_w (mm_w (mm_w σ.1 0 0 ((σ.1 0 0) + (1 : Int32))) 1 (((mm_w σ.1 0 0 ((σ.1 0 0) + (1 : Int32))) 0 0)).toNatClampNeg x3) 2 (((mm_w (mm_w σ.1 0 0 ((σ.1 0 0) + (1 : Int32))) 1 (((mm_w σ.1 0 0 ((σ.1 0 0) + (1 : Int32))) 0 0)).toNatClampNeg x3) 0 0)).toNatClampNeg x4) 3 (((mm_w (mm_w (mm_w σ.1 0 0 ((σ.1 0 0) + (1 : Int32))) 1 (((mm_w σ.1 0 0 ((σ.1 0 0) + (1 : Int32))) 0 0)).toNatClampNeg x3) 2 (((mm_w (mm_w σ.1 0 0 ((σ.1 0 0) + (1 : Int32))) 1 (((mm_w σ.1 0 0 ((σ.1 0 0) + (1 : Int32))) 0 0)).toNatClampNeg x3) 0 0)).toNatClampNeg x4) 0 0)).toNatClampNeg xs0) 0 0))).toNatClampNeg x1) 0 0)) + (1 : Int32))).toNatClampNeg x2) 0 0), 0, ((mm_w (mm_w (mm_w (mm_w (mm_w (mm_w σ.1 0 0 ((σ.1 0 0) + (1 : Int32))) 1 (((mm_w σ.1 0 0 ((σ.1 0 0) + (1 : Int32))) 0 0)).toNatClampNeg x3) 2 (((mm_w (mm_w σ.1 0 0 ((σ.1 0 0) + (1 : Int32))) 1 (((mm_w σ.1 0 0 ((σ.1 0 0) + (1 : Int32))) 0 0)).toNatClampNeg x3) 0 0)).toNatClampNeg x4) 3 (((mm_w (mm_w (mm_w σ.1 0 0 ((σ.1 0 0) + (1 : Int32))) 1 (((mm_w σ.1 0 0 ((σ.1 0 0) + (1 : Int32))) 0 0)).toNatClampNeg x3) 2 (((mm_w (mm_w σ.1 0 0 ((σ.1 0 0) + (1 : Int32))) 1 (((mm_w σ.1 0 0 ((σ.1 0 0) + (1 : Int32))) 0 0)).toNatClampNeg x3) 0 0)).toNatClampNeg x4) 0 0)).toNatClampNeg xs0) 4 (((2 : Int32) * ((mm_w (mm_w (mm_w (mm_w σ.1 0 0 ((σ.1 0 0) + (1 : Int32))) 1 (((mm_w σ.1 0 0 ((σ.1 0 0) + (1 : Int32))) 0 0)).toNatClampNeg x3) 2 (((mm_w (mm_w σ.1 0 0 ((σ.1 0 0) + (1 : Int32))) 1 (((mm_w σ.1 0 0 ((σ.1 0 0) + (1 : Int32))) 0 0)).toNatClampNeg x3) 0 0)).toNatClampNeg x4) 3 (((mm_w (mm_w (mm_w σ.1 0 0 ((σ.1 0 0) + (1 : Int32))) 1 (((mm_w σ.1 0 0 ((σ.1 0 0) + (1 : Int32))) 0 0)).toNatClampNeg x3) 2 (((mm_w (mm_w σ.1 0 0 ((σ.1 0 0) + (1 : Int32))) 1 (((mm_w σ.1 0 0 ((σ.1 0 0) + (1 : Int32))) 0 0)).toNatClampNeg x3) 0 0)).toNatClampNeg x4) 0 0)).toNatClampNeg xs0) 0 0))).toNatClampNeg x1) 4 ((((2 : Int32) * ((mm_w (mm_w (mm_w (mm_w (mm_w σ.1 0 0 ((σ.1 0 0) + (1 : Int32))) 1 (((mm_w σ.1 0 0 ((σ.1 0 0) + (1 : Int32))) 0 0)).toNatClampNeg x3) 2 (((mm_w (mm_w σ.1 0 0 ((σ.1 0 0) + (1 : Int32))) 1 (((mm_w σ.1 0 0 ((σ.1 0 0) + (1 : Int32))) 0 0)).toNatClampNeg x3) 0 0)).toNatClampNeg x4) 3 (((mm_w (mm_w (mm_w σ.1 0 0 ((σ.1 0 0) + (1 : Int32))) 1 (((mm_w σ.1 0 0 ((σ.1 0 0) + (1 : Int32))) 0 0)).toNatClampNeg x3) 2 (((mm_w (mm_w σ.1 0 0 ((σ.1 0 0) + (1 : Int32))) 1 (((mm_w σ.1 0 0 ((σ.1 0 0) + (1 : Int32))) 0 0)).toNatClampNeg x3) 0 0)).toNatClampNeg x4) 0 0)).toNatClampNeg xs0) 4 (((2 : Int32) * ((mm_w (mm_w (mm_w (mm_w σ.1 0 0 ((σ.1 0 0) + (1 : Int32))) 1 (((mm_w σ.1 0 0 ((σ.1 0 0) + (1 : Int32))) 0 0)).toNatClampNeg x3) 2 (((mm_w (mm_w σ.1 0 0 ((σ.1 0 0) + (1 : Int32))) 1 (((mm_w σ.1 0 0 ((σ.1 0 0) + (1 : Int32))) 0 0)).toNatClampNeg x3) 0 0)).toNatClampNeg x4) 3 (((mm_w (mm_w (mm_w σ.1 0 0 ((σ.1 0 0) + (1 : Int32))) 1 (((mm_w σ.1 0 0 ((σ.1 0 0) + (1 : Int32))) 0 0)).toNatClampNeg x3) 2 (((mm_w (mm_w σ.1 0 0 ((σ.1 0 0) + (1 : Int32))) 1 (((mm_w σ.1 0 0 ((σ.1 0 0) + (1 : Int32))) 0 0)).toNatClampNeg x3) 0 0)).toNatClampNeg x4) 0 0)).toNatClampNeg xs0) 0 0))).toNatClampNeg x1) 0 0)) + (1 : Int32))).toNatClampNeg x2), σ.2))) else none) else none) else none) else none) else none) else none) else none) else (some ((-1 : Int32), 0, σ))) else (if mm_in (x2 &&& (31 : Int32)) 32 then (if ((σ.1 3 ((x2 &&& (31 : Int32))).toNatClampNeg) + (1 : Int32)) ≤ (3 : Int32) then (if mm_in ((mm_w σ.1 0 0 ((σ.1 0 0) + (1 : Int32))) 0 0) 32 then (if x3 = 0 ∨ x3 = 1 then (if mm_in ((mm_w (mm_w σ.1 0 0 ((σ.1 0 0) + (1 : Int32))) 1 (((mm_w σ.1 0 0 ((σ.1 0 0) + (1 : Int32))) 0 0)).toNatClampNeg x3) 0 0) 32 then (if x4 = 0 ∨ x4 = 1 then (if mm_in ((mm_w (mm_w (mm_w σ.1 0 0 ((σ.1 0 0) + (1 : Int32))) 1 (((mm_w σ.1 0 0 ((σ.1 0 0) + (1 : Int32))) 0 0)).toNatClampNeg x3) 2 (((mm_w (mm_w σ.1 0 0 ((σ.1 0 0) + (1 : Int32))) 1 (((mm_w σ.1 0 0 ((σ.1 0 0) + (1 : Int32))) 0 0)).toNatClampNeg x3) 0 0)).toNatClampNeg x4) 0 0) 32 then (if mm_in ((2 : Int32) * ((mm_w (mm_w (mm_w (mm_w σ.1 0 0 ((σ.1 0 0) + (1 : Int32))) 1 (((mm_w σ.1 0 0 ((σ.1 0 0) + (1 : Int32))) 0 0)).toNatClampNeg x3) 2 (((mm_w (mm_w σ.1 0 0 ((σ.1 0 0) + (1 : Int32))) 1 (((mm_w σ.1 0 0 ((σ.1 0 0) + (1 : Int32))) 0 0)).toNatClampNeg x3) 0 0)).toNatClampNeg x4) 3 (((mm_w (mm_w (mm_w σ.1 0 0 ((σ.1 0 0) + (1 : Int32))) 1 (((mm_w σ.1 0 0 ((σ.1 0 0) + (1 : Int32))) 0 0)).toNatClampNeg x3) 2 (((mm_w (mm_w σ.1 0 0 ((σ.1 0 0) + (1 : Int32))) 1 (((mm_w σ.1 0 0 ((σ.1 0 0) + (1 : Int32))) 0 0)).toNatClampNeg x3) 0 0)).toNatClampNeg x4) 0 0)).toNatClampNeg ((σ.1 3 ((x2 &&& (31 : Int32))).toNatClampNeg) + (1 : Int32))) 0 0)) 64 then (if mm_in (((2 : Int32) * ((mm_w (mm_w (mm_w (mm_w (mm_w σ.1 0 0 ((σ.1 0 0) + (1 : Int32))) 1 (((mm_w σ.1 0 0 ((σ.1 0 0) + (1 : Int32))) 0 0)).toNatClampNeg x3) 2 (((mm_w (mm_w σ.1 0 0 ((σ.1 0 0) + (1 : Int32))) 1 (((mm_w σ.1 0 0 ((σ.1 0 0) + (1 : Int32))) 0 0)).toNatClampNeg x3) 0 0)).toNatClampNeg x4) 3 (((mm_w (mm_w (mm_w σ.1 0 0 ((σ.1 0 0) + (1 : Int32))) 1 (((mm_w σ.1 0 0 ((σ.1 0 0) + (1 : Int32))) 0 0)).toNatClampNeg x3) 2 (((mm_w (mm_w σ.1 0 0 ((σ.1 0 0) + (1 : Int32))) 1 (((mm_w σ.1 0 0 ((σ.1 0 0) + (1 : Int32))) 0 0)).toNatClampNeg x3) 0 0)).toNatClampNeg x4) 0 0)).toNatClampNeg ((σ.1 3 ((x2 &&& (31 : Int32))).toNatClampNeg) + (1 : Int32))) 4 (((2 : Int32) * ((mm_w (mm_w (mm_w (mm_w σ.1 0 0 ((σ.1 0 0) + (1 : Int32))) 1 (((mm_w σ.1 0 0 ((σ.1 0 0) + (1 : Int32))) 0 0)).toNatClampNeg x3) 2 (((mm_w (mm_w σ.1 0 0 ((σ.1 0 0) + (1 : Int32))) 1 (((mm_w σ.1 0 0 ((σ.1 0 0) + (1 : Int32))) 0 0)).toNatClampNeg x3) 0 0)).toNatClampNeg x4) 3 (((mm_w (mm_w (mm_w σ.1 0 0 ((σ.1 0 0) + (1 : Int32))) 1 (((mm_w σ.1 0 0 ((σ.1 0 0) + (1 : Int32))) 0 0)).toNatClampNeg x3) 2 (((mm_w (mm_w σ.1 0 0 ((σ.1 0 0) + (1 : Int32))) 1 (((mm_w σ.1 0 0 ((σ.1 0 0) + (1 : Int32))) 0 0)).toNatClampNeg x3) 0 0)).toNatClampNeg x4) 0 0)).toNatClampNeg ((σ.1 3 ((x2 &&& (31 : Int32))).toNatClampNeg) + (1 : Int32))) 0 0))).toNatClampNeg x1) 0 0)) + (1 : Int32)) 64 then (some (((mm_w (mm_w (mm_w (mm_w (mm_w (mm_w σ.1 0 0 ((σ.1 0 0) + (1 : Int32))) 1 (((mm_w σ.1 0 0 ((σ.1 0 0) + (1 : Int32))) 0 0)).toNatClampNeg x3) 2 (((mm_w (mm_w σ.1 0 0 ((σ.1 0 0) + (1 : Int32))) 1 (((mm_w σ.1 0 0 ((σ.1 0 0) + (1 : Int32))) 0 0)).toNatClampNeg x3) 0 0)).toNatClampNeg x4) 3 (((mm_w (mm_w (mm_w σ.1 0 0 ((σ.1 0 0) + (1 : Int32))) 1 (((mm_w σ.1 0 0 ((σ.1 0 0) + (1 : Int32))) 0 0)).toNatClampNeg x3) 2 (((mm_w (mm_w σ.1 0 0 ((σ.1 0 0) + (1 : Int32))) 1 (((mm_w σ.1 0 0 ((σ.1 0 0) + (1 : Int32))) 0 0)).toNatClampNeg x3) 0 0)).toNatClampNeg x4) 0 0)).toNatClampNeg ((σ.1 3 ((x2 &&& (31 : Int32))).toNatClampNeg) + (1 : Int32))) 4 (((2 : Int32) * ((mm_w (mm_w (mm_w (mm_w σ.1 0 0 ((σ.1 0 0) + (1 : Int32))) 1 (((mm_w σ.1 0 0 ((σ.1 0 0) + (1 : Int32))) 0 0)).toNatClampNeg x3) 2 (((mm_w (mm_w σ.1 0 0 ((σ.1 0 0) + (1 : Int32))) 1 (((mm_w σ.1 0 0 ((σ.1 0 0) + (1 : Int32))) 0 0)).toNatClampNeg x3) 0 0)).toNatClampNeg x4) 3 (((mm_w (mm_w (mm_w σ.1 0 0 ((σ.1 0 0) + (1 : Int32))) 1 (((mm_w σ.1 0 0 ((σ.1 0 0) + (1 : Int32))) 0 0)).toNatClampNeg x3) 2 (((mm_w (mm_w σ.1 0 0 ((σ.1 0 0) + (1 : Int32))) 1 (((mm_w σ.1 0 0 ((σ.1 0 0) + (1 : Int32))) 0 0)).toNatClampNeg x3) 0 0)).toNatClampNeg x4) 0 0)).toNatClampNeg ((σ.1 3 ((x2 &&& (31 : Int32))).toNatClampNeg) + (1 : Int32))) 0 0))).toNatClampNeg x1) 4 ((((2 : Int32) * ((mm_w (mm_w (mm_w (mm_w (mm_w σ.1 0 0 ((σ.1 0 0) + (1 : Int32))) 1 (((mm_w σ.1 0 0 ((σ.1 0 0) + (1 : Int32))) 0 0)).toNatClampNeg x3) 2 (((mm_w (mm_w σ.1 0 0 ((σ.1 0 0) + (1 : Int32))) 1 (((mm_w σ.1 0 0 ((σ.1 0 0) + (1 : Int32))) 0 0)).toNatClampNeg x3) 0 0)).toNatClampNeg x4) 3 (((mm_w (mm_w (mm_w σ.1 0 0 ((σ.1 0 0) + (1 : Int32))) 1 (((mm_w σ.1 0 0 ((σ.1 0 0) + (1 : Int32))) 0 0)).toNatClampNeg x3) 2 (((mm_w (mm_w σ.1 0 0 ((σ.1 0 0) + (1 : Int32))) 1 (((mm_w σ.1 0 0 ((σ.1 0 0) + (1 : Int32))) 0 0)).toNatClampNeg x3) 0 0)).toNatClampNeg x4) 0 0)).toNatClampNeg ((σ.1 3 ((x2 &&& (31 : Int32))).toNatClampNeg) + (1 : Int32))) 4 (((2 : Int32) * ((mm_w (mm_w (mm_w (mm_w σ.1 0 0 ((σ.1 0 0) + (1 : Int32))) 1 (((mm_w σ.1 0 0 ((σ.1 0 0) + (1 : Int32))) 0 0)).toNatClampNeg x3) 2 (((mm_w (mm_w σ.1 0 0 ((σ.1 0 0) + (1 : Int32))) 1 (((mm_w σ.1 0 0 ((σ.1 0 0) + (1 : Int32))) 0 0)).toNatClampNeg x3) 0 0)).toNatClampNeg x4) 3 (((mm_w (mm_w (mm_w σ.1 0 0 ((σ.1 0 0) + (1 : Int32))) 1 (((mm_w σ.1 0 0 ((σ.1 0 0) + (1 : Int32))) 0 0)).toNatClampNeg x3) 2 (((mm_w (mm_w σ.1 0 0 ((σ.1 0 0) + (1 : Int32))) 1 (((mm_w σ.1 0 0 ((σ.1 0 0) + (1 : Int32))) 0 0)).toNatClampNeg x3) 0 0)).toNatClampNeg x4) 0 0)).toNatClampNeg ((σ.1 3 ((x2 &&& (31 : Int32))).toNatClampNeg) + (1 : Int32))) 0 0))).toNatClampNeg x1) 0 0)) + (1 : Int32))).toNatClampNeg x2) 0 0), 0, ((mm_w (mm_w (mm_w (mm_w (mm_w (mm_w σ.1 0 0 ((σ.1 0 0) + (1 : Int32))) 1 (((mm_w σ.1 0 0 ((σ.1 0 0) + (1 : Int32))) 0 0)).toNatClampNeg x3) 2 (((mm_w (mm_w σ.1 0 0 ((σ.1 0 0) + (1 : Int32))) 1 (((mm_w σ.1 0 0 ((σ.1 0 0) + (1 : Int32))) 0 0)).toNatClampNeg x3) 0 0)).toNatClampNeg x4) 3 (((mm_w (mm_w (mm_w σ.1 0 0 ((σ.1 0 0) + (1 : Int32))) 1 (((mm_w σ.1 0 0 ((σ.1 0 0) + (1 : Int32))) 0 0)).toNatClampNeg x3) 2 (((mm_w (mm_w σ.1 0 0 ((σ.1 0 0) + (1 : Int32))) 1 (((mm_w σ.1 0 0 ((σ.1 0 0) + (1 : Int32))) 0 0)).toNatClampNeg x3) 0 0)).toNatClampNeg x4) 0 0)).toNatClampNeg ((σ.1 3 ((x2 &&& (31 : Int32))).toNatClampNeg) + (1 : Int32))) 4 (((2 : Int32) * ((mm_w (mm_w (mm_w (mm_w σ.1 0 0 ((σ.1 0 0) + (1 : Int32))) 1 (((mm_w σ.1 0 0 ((σ.1 0 0) + (1 : Int32))) 0 0)).toNatClampNeg x3) 2 (((mm_w (mm_w σ.1 0 0 ((σ.1 0 0) + (1 : Int32))) 1 (((mm_w σ.1 0 0 ((σ.1 0 0) + (1 : Int32))) 0 0)).toNatClampNeg x3) 0 0)).toNatClampNeg x4) 3 (((mm_w (mm_w (mm_w σ.1 0 0 ((σ.1 0 0) + (1 : Int32))) 1 (((mm_w σ.1 0 0 ((σ.1 0 0) + (1 : Int32))) 0 0)).toNatClampNeg x3) 2 (((mm_w (mm_w σ.1 0 0 ((σ.1 0 0) + (1 : Int32))) 1 (((mm_w σ.1 0 0 ((σ.1 0 0) + (1 : Int32))) 0 0)).toNatClampNeg x3) 0 0)).toNatClampNeg x4) 0 0)).toNatClampNeg ((σ.1 3 ((x2 &&& (31 : Int32))).toNatClampNeg) + (1 : Int32))) 0 0))).toNatClampNeg x1) 4 ((((2 : Int32) * ((mm_w (mm_w (mm_w (mm_w (mm_w σ.1 0 0 ((σ.1 0 0) + (1 : Int32))) 1 (((mm_w σ.1 0 0 ((σ.1 0 0) + (1 : Int32))) 0 0)).toNatClampNeg x3) 2 (((mm_w (mm_w σ.1 0 0 ((σ.1 0 0) + (1 : Int32))) 1 (((mm_w σ.1 0 0 ((σ.1 0 0) + (1 : Int32))) 0 0)).toNatClampNeg x3) 0 0)).toNatClampNeg x4) 3 (((mm_w (mm_w (mm_w σ.1 0 0 ((σ.1 0 0) + (1 : Int32))) 1 (((mm_w σ.1 0 0 ((σ.1 0 0) + (1 : Int32))) 0 0)).toNatClampNeg x3) 2 (((mm_w (mm_w σ.1 0 0 ((σ.1 0 0) + (1 : Int32))) 1 (((mm_w σ.1 0 0 ((σ.1 0 0) + (1 : Int32))) 0 0)).toNatClampNeg x3) 0 0)).toNatClampNeg x4) 0 0)).toNatClampNeg ((σ.1 3 ((x2 &&& (31 : Int32))).toNatClampNeg) + (1 : Int32))) 4 (((2 : Int32) * ((mm_w (mm_w (mm_w (mm_w σ.1 0 0 ((σ.1 0 0) + (1 : Int32))) 1 (((mm_w σ.1 0 0 ((σ.1 0 0) + (1 : Int32))) 0 0)).toNatClampNeg x3) 2 (((mm_w (mm_w σ.1 0 0 ((σ.1 0 0) + (1 : Int32))) 1 (((mm_w σ.1 0 0 ((σ.1 0 0) + (1 : Int32))) 0 0)).toNatClampNeg x3) 0 0)).toNatClampNeg x4) 3 (((mm_w (mm_w (mm_w σ.1 0 0 ((σ.1 0 0) + (1 : Int32))) 1 (((mm_w σ.1 0 0 ((σ.1 0 0) + (1 : Int32))) 0 0)).toNatClampNeg x3) 2 (((mm_w (mm_w σ.1 0 0 ((σ.1 0 0) + (1 : Int32))) 1 (((mm_w σ.1 0 0 ((σ.1 0 0) + (1 : Int32))) 0 0)).toNatClampNeg x3) 0 0)).toNatClampNeg x4) 0 0)).toNatClampNeg ((σ.1 3 ((x2 &&& (31 : Int32))).toNatClampNeg) + (1 : Int32))) 0 0))).toNatClampNeg x1) 0 0)) + (1 : Int32))).toNatClampNeg x2), σ.2))) else none) else none) else none) else none) else none) else none) else none) else (some ((-1 : Int32), 0, σ))) else none)) else none)) := by
  refine (ex_istore (L2 := [.ref 0, .int x1, .int x2, .int x3, .int x4, .int xs0]) rfl).trans ?_
  refine (ex_iload_n (x := x2) rfl).trans ?_
  refine (ex_if_eq (p := 117) (q := rp_5_r7) rfl).trans (ex_ite ?_ ?_)
  · refine (ex_iload (x := xs0) rfl).trans ?_
    refine (ex_istore (L2 := [.ref 0, .int x1, .int x2, .int x3, .int x4, .int xs0]) rfl).trans ?_
    refine (ex_iload (x := xs0) rfl).trans ?_
    refine (ex_iconst).trans ?_
    refine (ex_ic_le (p := 129) (q := rp_5_r9) rfl).trans (ex_ite ?_ ?_)
    · refine (ex_aload_n (x := 0) rfl).trans ?_
      refine (ex_dup).trans ?_
      refine (ex_get (u := .int (σ.1 0 0)) rfl).trans ?_
      refine (ex_iconst).trans ?_
      refine (ex_iadd).trans ?_
      refine (ex_put (u := ()) rfl).trans ?_
      refine (ex_aload_n (x := 0) rfl).trans ?_
      refine (ex_get (u := .ref 1) rfl).trans ?_
      refine (ex_aload_n (x := 0) rfl).trans ?_
      refine (ex_get (u := .int ((mm_w σ.1 0 0 ((σ.1 0 0) + (1 : Int32))) 0 0)) rfl).trans ?_
      refine (ex_iload_n (x := x3) rfl).trans ?_
      refine (ex_bastore (z := 32) rfl).trans (ex_ite (ex_ite ?_ rfl) rfl)
      refine (ex_aload_n (x := 0) rfl).trans ?_
      refine (ex_get (u := .ref 2) rfl).trans ?_
      refine (ex_aload_n (x := 0) rfl).trans ?_
      refine (ex_get (u := .int ((mm_w (mm_w σ.1 0 0 ((σ.1 0 0) + (1 : Int32))) 1 (((mm_w σ.1 0 0 ((σ.1 0 0) + (1 : Int32))) 0 0)).toNatClampNeg x3) 0 0)) rfl).trans ?_
      refine (ex_iload (x := x4) rfl).trans ?_
      refine (ex_bastore (z := 32) rfl).trans (ex_ite (ex_ite ?_ rfl) rfl)
      refine (ex_aload_n (x := 0) rfl).trans ?_
      refine (ex_get (u := .ref 3) rfl).trans ?_
      refine (ex_aload_n (x := 0) rfl).trans ?_
      refine (ex_get (u := .int ((mm_w (mm_w (mm_w σ.1 0 0 ((σ.1 0 0) + (1 : Int32))) 1 (((mm_w σ.1 0 0 ((σ.1 0 0) + (1 : Int32))) 0 0)).toNatClampNeg x3) 2 (((mm_w (mm_w σ.1 0 0 ((σ.1 0 0) + (1 : Int32))) 1 (((mm_w σ.1 0 0 ((σ.1 0 0) + (1 : Int32))) 0 0)).toNatClampNeg x3) 0 0)).toNatClampNeg x4) 0 0)) rfl).trans ?_
      refine (ex_iload (x := xs0) rfl).trans ?_
      refine (ex_iastore (z := 32) rfl).trans (ex_ite ?_ rfl)
      refine (ex_aload_n (x := 0) rfl).trans ?_
      refine (ex_get (u := .ref 4) rfl).trans ?_
      refine (ex_iconst).trans ?_
      refine (ex_aload_n (x := 0) rfl).trans ?_
      refine (ex_get (u := .int ((mm_w (mm_w (mm_w (mm_w σ.1 0 0 ((σ.1 0 0) + (1 : Int32))) 1 (((mm_w σ.1 0 0 ((σ.1 0 0) + (1 : Int32))) 0 0)).toNatClampNeg x3) 2 (((mm_w (mm_w σ.1 0 0 ((σ.1 0 0) + (1 : Int32))) 1 (((mm_w σ.1 0 0 ((σ.1 0 0) + (1 : Int32))) 0 0)).toNatClampNeg x3) 0 0)).toNatClampNeg x4) 3 (((mm_w (mm_w (mm_w σ.1 0 0 ((σ.1 0 0) + (1 : Int32))) 1 (((mm_w σ.1 0 0 ((σ.1 0 0) + (1 : Int32))) 0 0)).toNatClampNeg x3) 2 (((mm_w (mm_w σ.1 0 0 ((σ.1 0 0) + (1 : Int32))) 1 (((mm_w σ.1 0 0 ((σ.1 0 0) + (1 : Int32))) 0 0)).toNatClampNeg x3) 0 0)).toNatClampNeg x4) 0 0)).toNatClampNeg xs0) 0 0)) rfl).trans ?_
      refine (ex_imul).trans ?_
      refine (ex_iload_n (x := x1) rfl).trans ?_
      refine (ex_iastore (z := 64) rfl).trans (ex_ite ?_ rfl)
      refine (ex_aload_n (x := 0) rfl).trans ?_
      refine (ex_get (u := .ref 4) rfl).trans ?_
      refine (ex_iconst).trans ?_
      refine (ex_aload_n (x := 0) rfl).trans ?_
      refine (ex_get (u := .int ((mm_w (mm_w (mm_w (mm_w (mm_w σ.1 0 0 ((σ.1 0 0) + (1 : Int32))) 1 (((mm_w σ.1 0 0 ((σ.1 0 0) + (1 : Int32))) 0 0)).toNatClampNeg x3) 2 (((mm_w (mm_w σ.1 0 0 ((σ.1 0 0) + (1 : Int32))) 1 (((mm_w σ.1 0 0 ((σ.1 0 0) + (1 : Int32))) 0 0)).toNatClampNeg x3) 0 0)).toNatClampNeg x4) 3 (((mm_w (mm_w (mm_w σ.1 0 0 ((σ.1 0 0) + (1 : Int32))) 1 (((mm_w σ.1 0 0 ((σ.1 0 0) + (1 : Int32))) 0 0)).toNatClampNeg x3) 2 (((mm_w (mm_w σ.1 0 0 ((σ.1 0 0) + (1 : Int32))) 1 (((mm_w σ.1 0 0 ((σ.1 0 0) + (1 : Int32))) 0 0)).toNatClampNeg x3) 0 0)).toNatClampNeg x4) 0 0)).toNatClampNeg xs0) 4 (((2 : Int32) * ((mm_w (mm_w (mm_w (mm_w σ.1 0 0 ((σ.1 0 0) + (1 : Int32))) 1 (((mm_w σ.1 0 0 ((σ.1 0 0) + (1 : Int32))) 0 0)).toNatClampNeg x3) 2 (((mm_w (mm_w σ.1 0 0 ((σ.1 0 0) + (1 : Int32))) 1 (((mm_w σ.1 0 0 ((σ.1 0 0) + (1 : Int32))) 0 0)).toNatClampNeg x3) 0 0)).toNatClampNeg x4) 3 (((mm_w (mm_w (mm_w σ.1 0 0 ((σ.1 0 0) + (1 : Int32))) 1 (((mm_w σ.1 0 0 ((σ.1 0 0) + (1 : Int32))) 0 0)).toNatClampNeg x3) 2 (((mm_w (mm_w σ.1 0 0 ((σ.1 0 0) + (1 : Int32))) 1 (((mm_w σ.1 0 0 ((σ.1 0 0) + (1 : Int32))) 0 0)).toNatClampNeg x3) 0 0)).toNatClampNeg x4) 0 0)).toNatClampNeg xs0) 0 0))).toNatClampNeg x1) 0 0)) rfl).trans ?_
      refine (ex_imul).trans ?_
      refine (ex_iconst).trans ?_
      refine (ex_iadd).trans ?_
      refine (ex_iload_n (x := x2) rfl).trans ?_
      refine (ex_iastore (z := 64) rfl).trans (ex_ite ?_ rfl)
      refine (ex_aload_n (x := 0) rfl).trans ?_
      refine (ex_get (u := .int ((mm_w (mm_w (mm_w (mm_w (mm_w (mm_w σ.1 0 0 ((σ.1 0 0) + (1 : Int32))) 1 (((mm_w σ.1 0 0 ((σ.1 0 0) + (1 : Int32))) 0 0)).toNatClampNeg x3) 2 (((mm_w (mm_w σ.1 0 0 ((σ.1 0 0) + (1 : Int32))) 1 (((mm_w σ.1 0 0 ((σ.1 0 0) + (1 : Int32))) 0 0)).toNatClampNeg x3) 0 0)).toNatClampNeg x4) 3 (((mm_w (mm_w (mm_w σ.1 0 0 ((σ.1 0 0) + (1 : Int32))) 1 (((mm_w σ.1 0 0 ((σ.1 0 0) + (1 : Int32))) 0 0)).toNatClampNeg x3) 2 (((mm_w (mm_w σ.1 0 0 ((σ.1 0 0) + (1 : Int32))) 1 (((mm_w σ.1 0 0 ((σ.1 0 0) + (1 : Int32))) 0 0)).toNatClampNeg x3) 0 0)).toNatClampNeg x4) 0 0)).toNatClampNeg xs0) 4 (((2 : Int32) * ((mm_w (mm_w (mm_w (mm_w σ.1 0 0 ((σ.1 0 0) + (1 : Int32))) 1 (((mm_w σ.1 0 0 ((σ.1 0 0) + (1 : Int32))) 0 0)).toNatClampNeg x3) 2 (((mm_w (mm_w σ.1 0 0 ((σ.1 0 0) + (1 : Int32))) 1 (((mm_w σ.1 0 0 ((σ.1 0 0) + (1 : Int32))) 0 0)).toNatClampNeg x3) 0 0)).toNatClampNeg x4) 3 (((mm_w (mm_w (mm_w σ.1 0 0 ((σ.1 0 0) + (1 : Int32))) 1 (((mm_w σ.1 0 0 ((σ.1 0 0) + (1 : Int32))) 0 0)).toNatClampNeg x3) 2 (((mm_w (mm_w σ.1 0 0 ((σ.1 0 0) + (1 : Int32))) 1 (((mm_w σ.1 0 0 ((σ.1 0 0) + (1 : Int32))) 0 0)).toNatClampNeg x3) 0 0)).toNatClampNeg x4) 0 0)).toNatClampNeg xs0) 0 0))).toNatClampNeg x1) 4 ((((2 : Int32) * ((mm_w (mm_w (mm_w (mm_w (mm_w σ.1 0 0 ((σ.1 0 0) + (1 : Int32))) 1 (((mm_w σ.1 0 0 ((σ.1 0 0) + (1 : Int32))) 0 0)).toNatClampNeg x3) 2 (((mm_w (mm_w σ.1 0 0 ((σ.1 0 0) + (1 : Int32))) 1 (((mm_w σ.1 0 0 ((σ.1 0 0) + (1 : Int32))) 0 0)).toNatClampNeg x3) 0 0)).toNatClampNeg x4) 3 (((mm_w (mm_w (mm_w σ.1 0 0 ((σ.1 0 0) + (1 : Int32))) 1 (((mm_w σ.1 0 0 ((σ.1 0 0) + (1 : Int32))) 0 0)).toNatClampNeg x3) 2 (((mm_w (mm_w σ.1 0 0 ((σ.1 0 0) + (1 : Int32))) 1 (((mm_w σ.1 0 0 ((σ.1 0 0) + (1 : Int32))) 0 0)).toNatClampNeg x3) 0 0)).toNatClampNeg x4) 0 0)).toNatClampNeg xs0) 4 (((2 : Int32) * ((mm_w (mm_w (mm_w (mm_w σ.1 0 0 ((σ.1 0 0) + (1 : Int32))) 1 (((mm_w σ.1 0 0 ((σ.1 0 0) + (1 : Int32))) 0 0)).toNatClampNeg x3) 2 (((mm_w (mm_w σ.1 0 0 ((σ.1 0 0) + (1 : Int32))) 1 (((mm_w σ.1 0 0 ((σ.1 0 0) + (1 : Int32))) 0 0)).toNatClampNeg x3) 0 0)).toNatClampNeg x4) 3 (((mm_w (mm_w (mm_w σ.1 0 0 ((σ.1 0 0) + (1 : Int32))) 1 (((mm_w σ.1 0 0 ((σ.1 0 0) + (1 : Int32))) 0 0)).toNatClampNeg x3) 2 (((mm_w (mm_w σ.1 0 0 ((σ.1 0 0) + (1 : Int32))) 1 (((mm_w σ.1 0 0 ((σ.1 0 0) + (1 : Int32))) 0 0)).toNatClampNeg x3) 0 0)).toNatClampNeg x4) 0 0)).toNatClampNeg xs0) 0 0))).toNatClampNeg x1) 0 0)) + (1 : Int32))).toNatClampNeg x2) 0 0)) rfl).trans ?_
      exact ex_ireturn
    · refine (ex_iconst).trans ?_
      exact ex_ireturn
  · refine (ex_aload_n (x := 0) rfl).trans ?_
    refine (ex_get (u := .ref 3) rfl).trans ?_
    refine (ex_iload_n (x := x2) rfl).trans ?_
    refine (ex_bipush).trans ?_
    refine (ex_iand).trans ?_
    refine (ex_iaload (z := 32) rfl).trans (ex_ite ?_ rfl)
    refine (ex_iconst).trans ?_
    refine (ex_iadd).trans ?_
    refine (ex_iload (x := xs0) rfl).trans ?_
    refine (ex_ic_le (p := 117) (q := rp_5_r7) rfl).trans (ex_ite ?_ ?_)
    · refine (ex_iload (x := xs0) rfl).trans ?_
      refine (ex_istore (L2 := [.ref 0, .int x1, .int x2, .int x3, .int x4, .int xs0]) rfl).trans ?_
      refine (ex_iload (x := xs0) rfl).trans ?_
      refine (ex_iconst).trans ?_
      refine (ex_ic_le (p := 129) (q := rp_5_r9) rfl).trans (ex_ite ?_ ?_)
      · refine (ex_aload_n (x := 0) rfl).trans ?_
        refine (ex_dup).trans ?_
        refine (ex_get (u := .int (σ.1 0 0)) rfl).trans ?_
        refine (ex_iconst).trans ?_
        refine (ex_iadd).trans ?_
        refine (ex_put (u := ()) rfl).trans ?_
        refine (ex_aload_n (x := 0) rfl).trans ?_
        refine (ex_get (u := .ref 1) rfl).trans ?_
        refine (ex_aload_n (x := 0) rfl).trans ?_
        refine (ex_get (u := .int ((mm_w σ.1 0 0 ((σ.1 0 0) + (1 : Int32))) 0 0)) rfl).trans ?_
        refine (ex_iload_n (x := x3) rfl).trans ?_
        refine (ex_bastore (z := 32) rfl).trans (ex_ite (ex_ite ?_ rfl) rfl)
        refine (ex_aload_n (x := 0) rfl).trans ?_
        refine (ex_get (u := .ref 2) rfl).trans ?_
        refine (ex_aload_n (x := 0) rfl).trans ?_
        refine (ex_get (u := .int ((mm_w (mm_w σ.1 0 0 ((σ.1 0 0) + (1 : Int32))) 1 (((mm_w σ.1 0 0 ((σ.1 0 0) + (1 : Int32))) 0 0)).toNatClampNeg x3) 0 0)) rfl).trans ?_
        refine (ex_iload (x := x4) rfl).trans ?_
        refine (ex_bastore (z := 32) rfl).trans (ex_ite (ex_ite ?_ rfl) rfl)
        refine (ex_aload_n (x := 0) rfl).trans ?_
        refine (ex_get (u := .ref 3) rfl).trans ?_
        refine (ex_aload_n (x := 0) rfl).trans ?_
        refine (ex_get (u := .int ((mm_w (mm_w (mm_w σ.1 0 0 ((σ.1 0 0) + (1 : Int32))) 1 (((mm_w σ.1 0 0 ((σ.1 0 0) + (1 : Int32))) 0 0)).toNatClampNeg x3) 2 (((mm_w (mm_w σ.1 0 0 ((σ.1 0 0) + (1 : Int32))) 1 (((mm_w σ.1 0 0 ((σ.1 0 0) + (1 : Int32))) 0 0)).toNatClampNeg x3) 0 0)).toNatClampNeg x4) 0 0)) rfl).trans ?_
        refine (ex_iload (x := xs0) rfl).trans ?_
        refine (ex_iastore (z := 32) rfl).trans (ex_ite ?_ rfl)
        refine (ex_aload_n (x := 0) rfl).trans ?_
        refine (ex_get (u := .ref 4) rfl).trans ?_
        refine (ex_iconst).trans ?_
        refine (ex_aload_n (x := 0) rfl).trans ?_
        refine (ex_get (u := .int ((mm_w (mm_w (mm_w (mm_w σ.1 0 0 ((σ.1 0 0) + (1 : Int32))) 1 (((mm_w σ.1 0 0 ((σ.1 0 0) + (1 : Int32))) 0 0)).toNatClampNeg x3) 2 (((mm_w (mm_w σ.1 0 0 ((σ.1 0 0) + (1 : Int32))) 1 (((mm_w σ.1 0 0 ((σ.1 0 0) + (1 : Int32))) 0 0)).toNatClampNeg x3) 0 0)).toNatClampNeg x4) 3 (((mm_w (mm_w (mm_w σ.1 0 0 ((σ.1 0 0) + (1 : Int32))) 1 (((mm_w σ.1 0 0 ((σ.1 0 0) + (1 : Int32))) 0 0)).toNatClampNeg x3) 2 (((mm_w (mm_w σ.1 0 0 ((σ.1 0 0) + (1 : Int32))) 1 (((mm_w σ.1 0 0 ((σ.1 0 0) + (1 : Int32))) 0 0)).toNatClampNeg x3) 0 0)).toNatClampNeg x4) 0 0)).toNatClampNeg xs0) 0 0)) rfl).trans ?_
        refine (ex_imul).trans ?_
        refine (ex_iload_n (x := x1) rfl).trans ?_
        refine (ex_iastore (z := 64) rfl).trans (ex_ite ?_ rfl)
        refine (ex_aload_n (x := 0) rfl).trans ?_
        refine (ex_get (u := .ref 4) rfl).trans ?_
        refine (ex_iconst).trans ?_
        refine (ex_aload_n (x := 0) rfl).trans ?_
        refine (ex_get (u := .int ((mm_w (mm_w (mm_w (mm_w (mm_w σ.1 0 0 ((σ.1 0 0) + (1 : Int32))) 1 (((mm_w σ.1 0 0 ((σ.1 0 0) + (1 : Int32))) 0 0)).toNatClampNeg x3) 2 (((mm_w (mm_w σ.1 0 0 ((σ.1 0 0) + (1 : Int32))) 1 (((mm_w σ.1 0 0 ((σ.1 0 0) + (1 : Int32))) 0 0)).toNatClampNeg x3) 0 0)).toNatClampNeg x4) 3 (((mm_w (mm_w (mm_w σ.1 0 0 ((σ.1 0 0) + (1 : Int32))) 1 (((mm_w σ.1 0 0 ((σ.1 0 0) + (1 : Int32))) 0 0)).toNatClampNeg x3) 2 (((mm_w (mm_w σ.1 0 0 ((σ.1 0 0) + (1 : Int32))) 1 (((mm_w σ.1 0 0 ((σ.1 0 0) + (1 : Int32))) 0 0)).toNatClampNeg x3) 0 0)).toNatClampNeg x4) 0 0)).toNatClampNeg xs0) 4 (((2 : Int32) * ((mm_w (mm_w (mm_w (mm_w σ.1 0 0 ((σ.1 0 0) + (1 : Int32))) 1 (((mm_w σ.1 0 0 ((σ.1 0 0) + (1 : Int32))) 0 0)).toNatClampNeg x3) 2 (((mm_w (mm_w σ.1 0 0 ((σ.1 0 0) + (1 : Int32))) 1 (((mm_w σ.1 0 0 ((σ.1 0 0) + (1 : Int32))) 0 0)).toNatClampNeg x3) 0 0)).toNatClampNeg x4) 3 (((mm_w (mm_w (mm_w σ.1 0 0 ((σ.1 0 0) + (1 : Int32))) 1 (((mm_w σ.1 0 0 ((σ.1 0 0) + (1 : Int32))) 0 0)).toNatClampNeg x3) 2 (((mm_w (mm_w σ.1 0 0 ((σ.1 0 0) + (1 : Int32))) 1 (((mm_w σ.1 0 0 ((σ.1 0 0) + (1 : Int32))) 0 0)).toNatClampNeg x3) 0 0)).toNatClampNeg x4) 0 0)).toNatClampNeg xs0) 0 0))).toNatClampNeg x1) 0 0)) rfl).trans ?_
        refine (ex_imul).trans ?_
        refine (ex_iconst).trans ?_
        refine (ex_iadd).trans ?_
        refine (ex_iload_n (x := x2) rfl).trans ?_
        refine (ex_iastore (z := 64) rfl).trans (ex_ite ?_ rfl)
        refine (ex_aload_n (x := 0) rfl).trans ?_
        refine (ex_get (u := .int ((mm_w (mm_w (mm_w (mm_w (mm_w (mm_w σ.1 0 0 ((σ.1 0 0) + (1 : Int32))) 1 (((mm_w σ.1 0 0 ((σ.1 0 0) + (1 : Int32))) 0 0)).toNatClampNeg x3) 2 (((mm_w (mm_w σ.1 0 0 ((σ.1 0 0) + (1 : Int32))) 1 (((mm_w σ.1 0 0 ((σ.1 0 0) + (1 : Int32))) 0 0)).toNatClampNeg x3) 0 0)).toNatClampNeg x4) 3 (((mm_w (mm_w (mm_w σ.1 0 0 ((σ.1 0 0) + (1 : Int32))) 1 (((mm_w σ.1 0 0 ((σ.1 0 0) + (1 : Int32))) 0 0)).toNatClampNeg x3) 2 (((mm_w (mm_w σ.1 0 0 ((σ.1 0 0) + (1 : Int32))) 1 (((mm_w σ.1 0 0 ((σ.1 0 0) + (1 : Int32))) 0 0)).toNatClampNeg x3) 0 0)).toNatClampNeg x4) 0 0)).toNatClampNeg xs0) 4 (((2 : Int32) * ((mm_w (mm_w (mm_w (mm_w σ.1 0 0 ((σ.1 0 0) + (1 : Int32))) 1 (((mm_w σ.1 0 0 ((σ.1 0 0) + (1 : Int32))) 0 0)).toNatClampNeg x3) 2 (((mm_w (mm_w σ.1 0 0 ((σ.1 0 0) + (1 : Int32))) 1 (((mm_w σ.1 0 0 ((σ.1 0 0) + (1 : Int32))) 0 0)).toNatClampNeg x3) 0 0)).toNatClampNeg x4) 3 (((mm_w (mm_w (mm_w σ.1 0 0 ((σ.1 0 0) + (1 : Int32))) 1 (((mm_w σ.1 0 0 ((σ.1 0 0) + (1 : Int32))) 0 0)).toNatClampNeg x3) 2 (((mm_w (mm_w σ.1 0 0 ((σ.1 0 0) + (1 : Int32))) 1 (((mm_w σ.1 0 0 ((σ.1 0 0) + (1 : Int32))) 0 0)).toNatClampNeg x3) 0 0)).toNatClampNeg x4) 0 0)).toNatClampNeg xs0) 0 0))).toNatClampNeg x1) 4 ((((2 : Int32) * ((mm_w (mm_w (mm_w (mm_w (mm_w σ.1 0 0 ((σ.1 0 0) + (1 : Int32))) 1 (((mm_w σ.1 0 0 ((σ.1 0 0) + (1 : Int32))) 0 0)).toNatClampNeg x3) 2 (((mm_w (mm_w σ.1 0 0 ((σ.1 0 0) + (1 : Int32))) 1 (((mm_w σ.1 0 0 ((σ.1 0 0) + (1 : Int32))) 0 0)).toNatClampNeg x3) 0 0)).toNatClampNeg x4) 3 (((mm_w (mm_w (mm_w σ.1 0 0 ((σ.1 0 0) + (1 : Int32))) 1 (((mm_w σ.1 0 0 ((σ.1 0 0) + (1 : Int32))) 0 0)).toNatClampNeg x3) 2 (((mm_w (mm_w σ.1 0 0 ((σ.1 0 0) + (1 : Int32))) 1 (((mm_w σ.1 0 0 ((σ.1 0 0) + (1 : Int32))) 0 0)).toNatClampNeg x3) 0 0)).toNatClampNeg x4) 0 0)).toNatClampNeg xs0) 4 (((2 : Int32) * ((mm_w (mm_w (mm_w (mm_w σ.1 0 0 ((σ.1 0 0) + (1 : Int32))) 1 (((mm_w σ.1 0 0 ((σ.1 0 0) + (1 : Int32))) 0 0)).toNatClampNeg x3) 2 (((mm_w (mm_w σ.1 0 0 ((σ.1 0 0) + (1 : Int32))) 1 (((mm_w σ.1 0 0 ((σ.1 0 0) + (1 : Int32))) 0 0)).toNatClampNeg x3) 0 0)).toNatClampNeg x4) 3 (((mm_w (mm_w (mm_w σ.1 0 0 ((σ.1 0 0) + (1 : Int32))) 1 (((mm_w σ.1 0 0 ((σ.1 0 0) + (1 : Int32))) 0 0)).toNatClampNeg x3) 2 (((mm_w (mm_w σ.1 0 0 ((σ.1 0 0) + (1 : Int32))) 1 (((mm_w σ.1 0 0 ((σ.1 0 0) + (1 : Int32))) 0 0)).toNatClampNeg x3) 0 0)).toNatClampNeg x4) 0 0)).toNatClampNeg xs0) 0 0))).toNatClampNeg x1) 0 0)) + (1 : Int32))).toNatClampNeg x2) 0 0)) rfl).trans ?_
        exact ex_ireturn
      · refine (ex_iconst).trans ?_
        exact ex_ireturn
    · refine (ex_aload_n (x := 0) rfl).trans ?_
      refine (ex_get (u := .ref 3) rfl).trans ?_
      refine (ex_iload_n (x := x2) rfl).trans ?_
      refine (ex_bipush).trans ?_
      refine (ex_iand).trans ?_
      refine (ex_iaload (z := 32) rfl).trans (ex_ite ?_ rfl)
      refine (ex_iconst).trans ?_
      refine (ex_iadd).trans ?_
      refine (ex_goto (p := 119) (q := rp_5_r8) rfl).trans ?_
      refine (ex_istore (L2 := [.ref 0, .int x1, .int x2, .int x3, .int x4, .int ((σ.1 3 ((x2 &&& (31 : Int32))).toNatClampNeg) + (1 : Int32))]) rfl).trans ?_
      refine (ex_iload (x := ((σ.1 3 ((x2 &&& (31 : Int32))).toNatClampNeg) + (1 : Int32))) rfl).trans ?_
      refine (ex_iconst).trans ?_
      refine (ex_ic_le (p := 129) (q := rp_5_r9) rfl).trans (ex_ite ?_ ?_)
      · refine (ex_aload_n (x := 0) rfl).trans ?_
        refine (ex_dup).trans ?_
        refine (ex_get (u := .int (σ.1 0 0)) rfl).trans ?_
        refine (ex_iconst).trans ?_
        refine (ex_iadd).trans ?_
        refine (ex_put (u := ()) rfl).trans ?_
        refine (ex_aload_n (x := 0) rfl).trans ?_
        refine (ex_get (u := .ref 1) rfl).trans ?_
        refine (ex_aload_n (x := 0) rfl).trans ?_
        refine (ex_get (u := .int ((mm_w σ.1 0 0 ((σ.1 0 0) + (1 : Int32))) 0 0)) rfl).trans ?_
        refine (ex_iload_n (x := x3) rfl).trans ?_
        refine (ex_bastore (z := 32) rfl).trans (ex_ite (ex_ite ?_ rfl) rfl)
        refine (ex_aload_n (x := 0) rfl).trans ?_
        refine (ex_get (u := .ref 2) rfl).trans ?_
        refine (ex_aload_n (x := 0) rfl).trans ?_
        refine (ex_get (u := .int ((mm_w (mm_w σ.1 0 0 ((σ.1 0 0) + (1 : Int32))) 1 (((mm_w σ.1 0 0 ((σ.1 0 0) + (1 : Int32))) 0 0)).toNatClampNeg x3) 0 0)) rfl).trans ?_
        refine (ex_iload (x := x4) rfl).trans ?_
        refine (ex_bastore (z := 32) rfl).trans (ex_ite (ex_ite ?_ rfl) rfl)
        refine (ex_aload_n (x := 0) rfl).trans ?_
        refine (ex_get (u := .ref 3) rfl).trans ?_
        refine (ex_aload_n (x := 0) rfl).trans ?_
        refine (ex_get (u := .int ((mm_w (mm_w (mm_w σ.1 0 0 ((σ.1 0 0) + (1 : Int32))) 1 (((mm_w σ.1 0 0 ((σ.1 0 0) + (1 : Int32))) 0 0)).toNatClampNeg x3) 2 (((mm_w (mm_w σ.1 0 0 ((σ.1 0 0) + (1 : Int32))) 1 (((mm_w σ.1 0 0 ((σ.1 0 0) + (1 : Int32))) 0 0)).toNatClampNeg x3) 0 0)).toNatClampNeg x4) 0 0)) rfl).trans ?_
        refine (ex_iload (x := ((σ.1 3 ((x2 &&& (31 : Int32))).toNatClampNeg) + (1 : Int32))) rfl).trans ?_
        refine (ex_iastore (z := 32) rfl).trans (ex_ite ?_ rfl)
        refine (ex_aload_n (x := 0) rfl).trans ?_
        refine (ex_get (u := .ref 4) rfl).trans ?_
        refine (ex_iconst).trans ?_
        refine (ex_aload_n (x := 0) rfl).trans ?_
        refine (ex_get (u := .int ((mm_w (mm_w (mm_w (mm_w σ.1 0 0 ((σ.1 0 0) + (1 : Int32))) 1 (((mm_w σ.1 0 0 ((σ.1 0 0) + (1 : Int32))) 0 0)).toNatClampNeg x3) 2 (((mm_w (mm_w σ.1 0 0 ((σ.1 0 0) + (1 : Int32))) 1 (((mm_w σ.1 0 0 ((σ.1 0 0) + (1 : Int32))) 0 0)).toNatClampNeg x3) 0 0)).toNatClampNeg x4) 3 (((mm_w (mm_w (mm_w σ.1 0 0 ((σ.1 0 0) + (1 : Int32))) 1 (((mm_w σ.1 0 0 ((σ.1 0 0) + (1 : Int32))) 0 0)).toNatClampNeg x3) 2 (((mm_w (mm_w σ.1 0 0 ((σ.1 0 0) + (1 : Int32))) 1 (((mm_w σ.1 0 0 ((σ.1 0 0) + (1 : Int32))) 0 0)).toNatClampNeg x3) 0 0)).toNatClampNeg x4) 0 0)).toNatClampNeg ((σ.1 3 ((x2 &&& (31 : Int32))).toNatClampNeg) + (1 : Int32))) 0 0)) rfl).trans ?_
        refine (ex_imul).trans ?_
        refine (ex_iload_n (x := x1) rfl).trans ?_
        refine (ex_iastore (z := 64) rfl).trans (ex_ite ?_ rfl)
        refine (ex_aload_n (x := 0) rfl).trans ?_
        refine (ex_get (u := .ref 4) rfl).trans ?_
        refine (ex_iconst).trans ?_
        refine (ex_aload_n (x := 0) rfl).trans ?_
        refine (ex_get (u := .int ((mm_w (mm_w (mm_w (mm_w (mm_w σ.1 0 0 ((σ.1 0 0) + (1 : Int32))) 1 (((mm_w σ.1 0 0 ((σ.1 0 0) + (1 : Int32))) 0 0)).toNatClampNeg x3) 2 (((mm_w (mm_w σ.1 0 0 ((σ.1 0 0) + (1 : Int32))) 1 (((mm_w σ.1 0 0 ((σ.1 0 0) + (1 : Int32))) 0 0)).toNatClampNeg x3) 0 0)).toNatClampNeg x4) 3 (((mm_w (mm_w (mm_w σ.1 0 0 ((σ.1 0 0) + (1 : Int32))) 1 (((mm_w σ.1 0 0 ((σ.1 0 0) + (1 : Int32))) 0 0)).toNatClampNeg x3) 2 (((mm_w (mm_w σ.1 0 0 ((σ.1 0 0) + (1 : Int32))) 1 (((mm_w σ.1 0 0 ((σ.1 0 0) + (1 : Int32))) 0 0)).toNatClampNeg x3) 0 0)).toNatClampNeg x4) 0 0)).toNatClampNeg ((σ.1 3 ((x2 &&& (31 : Int32))).toNatClampNeg) + (1 : Int32))) 4 (((2 : Int32) * ((mm_w (mm_w (mm_w (mm_w σ.1 0 0 ((σ.1 0 0) + (1 : Int32))) 1 (((mm_w σ.1 0 0 ((σ.1 0 0) + (1 : Int32))) 0 0)).toNatClampNeg x3) 2 (((mm_w (mm_w σ.1 0 0 ((σ.1 0 0) + (1 : Int32))) 1 (((mm_w σ.1 0 0 ((σ.1 0 0) + (1 : Int32))) 0 0)).toNatClampNeg x3) 0 0)).toNatClampNeg x4) 3 (((mm_w (mm_w (mm_w σ.1 0 0 ((σ.1 0 0) + (1 : Int32))) 1 (((mm_w σ.1 0 0 ((σ.1 0 0) + (1 : Int32))) 0 0)).toNatClampNeg x3) 2 (((mm_w (mm_w σ.1 0 0 ((σ.1 0 0) + (1 : Int32))) 1 (((mm_w σ.1 0 0 ((σ.1 0 0) + (1 : Int32))) 0 0)).toNatClampNeg x3) 0 0)).toNatClampNeg x4) 0 0)).toNatClampNeg ((σ.1 3 ((x2 &&& (31 : Int32))).toNatClampNeg) + (1 : Int32))) 0 0))).toNatClampNeg x1) 0 0)) rfl).trans ?_
        refine (ex_imul).trans ?_
        refine (ex_iconst).trans ?_
        refine (ex_iadd).trans ?_
        refine (ex_iload_n (x := x2) rfl).trans ?_
        refine (ex_iastore (z := 64) rfl).trans (ex_ite ?_ rfl)
        refine (ex_aload_n (x := 0) rfl).trans ?_
        refine (ex_get (u := .int ((mm_w (mm_w (mm_w (mm_w (mm_w (mm_w σ.1 0 0 ((σ.1 0 0) + (1 : Int32))) 1 (((mm_w σ.1 0 0 ((σ.1 0 0) + (1 : Int32))) 0 0)).toNatClampNeg x3) 2 (((mm_w (mm_w σ.1 0 0 ((σ.1 0 0) + (1 : Int32))) 1 (((mm_w σ.1 0 0 ((σ.1 0 0) + (1 : Int32))) 0 0)).toNatClampNeg x3) 0 0)).toNatClampNeg x4) 3 (((mm_w (mm_w (mm_w σ.1 0 0 ((σ.1 0 0) + (1 : Int32))) 1 (((mm_w σ.1 0 0 ((σ.1 0 0) + (1 : Int32))) 0 0)).toNatClampNeg x3) 2 (((mm_w (mm_w σ.1 0 0 ((σ.1 0 0) + (1 : Int32))) 1 (((mm_w σ.1 0 0 ((σ.1 0 0) + (1 : Int32))) 0 0)).toNatClampNeg x3) 0 0)).toNatClampNeg x4) 0 0)).toNatClampNeg ((σ.1 3 ((x2 &&& (31 : Int32))).toNatClampNeg) + (1 : Int32))) 4 (((2 : Int32) * ((mm_w (mm_w (mm_w (mm_w σ.1 0 0 ((σ.1 0 0) + (1 : Int32))) 1 (((mm_w σ.1 0 0 ((σ.1 0 0) + (1 : Int32))) 0 0)).toNatClampNeg x3) 2 (((mm_w (mm_w σ.1 0 0 ((σ.1 0 0) + (1 : Int32))) 1 (((mm_w σ.1 0 0 ((σ.1 0 0) + (1 : Int32))) 0 0)).toNatClampNeg x3) 0 0)).toNatClampNeg x4) 3 (((mm_w (mm_w (mm_w σ.1 0 0 ((σ.1 0 0) + (1 : Int32))) 1 (((mm_w σ.1 0 0 ((σ.1 0 0) + (1 : Int32))) 0 0)).toNatClampNeg x3) 2 (((mm_w (mm_w σ.1 0 0 ((σ.1 0 0) + (1 : Int32))) 1 (((mm_w σ.1 0 0 ((σ.1 0 0) + (1 : Int32))) 0 0)).toNatClampNeg x3) 0 0)).toNatClampNeg x4) 0 0)).toNatClampNeg ((σ.1 3 ((x2 &&& (31 : Int32))).toNatClampNeg) + (1 : Int32))) 0 0))).toNatClampNeg x1) 4 ((((2 : Int32) * ((mm_w (mm_w (mm_w (mm_w (mm_w σ.1 0 0 ((σ.1 0 0) + (1 : Int32))) 1 (((mm_w σ.1 0 0 ((σ.1 0 0) + (1 : Int32))) 0 0)).toNatClampNeg x3) 2 (((mm_w (mm_w σ.1 0 0 ((σ.1 0 0) + (1 : Int32))) 1 (((mm_w σ.1 0 0 ((σ.1 0 0) + (1 : Int32))) 0 0)).toNatClampNeg x3) 0 0)).toNatClampNeg x4) 3 (((mm_w (mm_w (mm_w σ.1 0 0 ((σ.1 0 0) + (1 : Int32))) 1 (((mm_w σ.1 0 0 ((σ.1 0 0) + (1 : Int32))) 0 0)).toNatClampNeg x3) 2 (((mm_w (mm_w σ.1 0 0 ((σ.1 0 0) + (1 : Int32))) 1 (((mm_w σ.1 0 0 ((σ.1 0 0) + (1 : Int32))) 0 0)).toNatClampNeg x3) 0 0)).toNatClampNeg x4) 0 0)).toNatClampNeg ((σ.1 3 ((x2 &&& (31 : Int32))).toNatClampNeg) + (1 : Int32))) 4 (((2 : Int32) * ((mm_w (mm_w (mm_w (mm_w σ.1 0 0 ((σ.1 0 0) + (1 : Int32))) 1 (((mm_w σ.1 0 0 ((σ.1 0 0) + (1 : Int32))) 0 0)).toNatClampNeg x3) 2 (((mm_w (mm_w σ.1 0 0 ((σ.1 0 0) + (1 : Int32))) 1 (((mm_w σ.1 0 0 ((σ.1 0 0) + (1 : Int32))) 0 0)).toNatClampNeg x3) 0 0)).toNatClampNeg x4) 3 (((mm_w (mm_w (mm_w σ.1 0 0 ((σ.1 0 0) + (1 : Int32))) 1 (((mm_w σ.1 0 0 ((σ.1 0 0) + (1 : Int32))) 0 0)).toNatClampNeg x3) 2 (((mm_w (mm_w σ.1 0 0 ((σ.1 0 0) + (1 : Int32))) 1 (((mm_w σ.1 0 0 ((σ.1 0 0) + (1 : Int32))) 0 0)).toNatClampNeg x3) 0 0)).toNatClampNeg x4) 0 0)).toNatClampNeg ((σ.1 3 ((x2 &&& (31 : Int32))).toNatClampNeg) + (1 : Int32))) 0 0))).toNatClampNeg x1) 0 0)) + (1 : Int32))).toNatClampNeg x2) 0 0)) rfl).trans ?_
        exact ex_ireturn
      · refine (ex_iconst).trans ?_
        exact ex_ireturn
-- 6: WiringContainerModel.enter(IIIII)I
set_option maxRecDepth 100000 in
set_option maxHeartbeats 4000000 in
theorem rp_6_g (d : Nat) (σ : mm_S) (x1 : Int32) (x2 : Int32) (x3 : Int32) (x4 : Int32) (x5 : Int32) : rG (d + 1) 6 [.ref 0, .int x1, .int x2, .int x3, .int x4, .int x5] σ = (if mm_in (σ.1 0 5) 16 then (if (x2 >>> ((3 : Int32) &&& 31)) = 0 then (mm_ex sr (rG d) 1 rp_6_l (99999981 + 0) rp_6_r2 [.ref 0, .int x1, .int x2, .int x3, .int x4, .int x5, .int (σ.1 0 5)] [.int (x2 + (8 : Int32)), .int (σ.1 0 5), .ref 6] ((mm_w σ.1 5 ((σ.1 0 5)).toNatClampNeg x1), σ.2)) else (mm_ex sr (rG d) 1 rp_6_l (99999981 + 3) rp_6_r2 [.ref 0, .int x1, .int x2, .int x3, .int x4, .int x5, .int (σ.1 0 5)] [.int x2, .int (σ.1 0 5), .ref 6] ((mm_w σ.1 5 ((σ.1 0 5)).toNatClampNeg x1), σ.2))) else none) := by
  refine (mm_entry 99999981 19 (maxL := 7) (labs := rp_6_l) (rows := rp_6_r0) (L := [.ref 0, .int x1, .int x2, .int x3, .int x4, .int x5, .null]) (rk := 1) rfl rfl rfl rfl rfl rfl).trans ?_
  refine (ex_aload_n (x := 0) rfl).trans ?_
  refine (ex_get (u := .int (σ.1 0 5)) rfl).trans ?_
  refine (ex_istore (L2 := [.ref 0, .int x1, .int x2, .int x3, .int x4, .int x5, .int (σ.1 0 5)]) rfl).trans ?_
  refine (ex_aload_n (x := 0) rfl).trans ?_
  refine (ex_get (u := .ref 5) rfl).trans ?_
  refine (ex_iload (x := (σ.1 0 5)) rfl).trans ?_
  refine (ex_iload_n (x := x1) rfl).trans ?_
  refine (ex_iastore (z := 16) rfl).trans (ex_ite ?_ rfl)
  refine (ex_aload_n (x := 0) rfl).trans ?_
  refine (ex_get (u := .ref 6) rfl).trans ?_
  refine (ex_iload (x := (σ.1 0 5)) rfl).trans ?_
  refine (ex_iload_n (x := x2) rfl).trans ?_
  refine (ex_iconst).trans ?_
  refine (ex_ishr).trans ?_
  refine (ex_if_ne (p := 33) (q := rp_6_r1) rfl).trans (ex_ite ?_ ?_)
  · refine (ex_iload_n (x := x2) rfl).trans ?_
    refine (ex_bipush).trans ?_
    refine (ex_iadd).trans ?_
    refine (ex_goto (p := 34) (q := rp_6_r2) rfl).trans ?_
    exact rfl
  · refine (ex_iload_n (x := x2) rfl).trans ?_
    exact rfl
set_option maxRecDepth 100000 in
set_option maxHeartbeats 4000000 in
theorem rp_6_h2 (d n : Nat) (σ : mm_S) (x1 : Int32) (x2 : Int32) (x3 : Int32) (x4 : Int32) (x5 : Int32) (x6 : Int32) (xs0 : Int32) (xs1 : Int32) : mm_ex sr (rG d) 1 rp_6_l (n + 29) rp_6_r2 [.ref 0, .int x1, .int x2, .int x3, .int x4, .int x5, .int x6] [.int xs0, .int xs1, .ref 6] σ = (if mm_in xs1 16 then (if mm_in x6 16 then (if mm_in x6 16 then (if mm_in x6 16 then (if mm_in x6 16 then (some (x6, 0, ((mm_w (mm_w (mm_w (mm_w (mm_w (mm_w σ.1 6 (xs1).toNatClampNeg xs0) 7 (x6).toNatClampNeg x3) 8 (x6).toNatClampNeg x4) 9 (x6).toNatClampNeg x5) 11 (x6).toNatClampNeg (0 : Int32)) 0 5 (((mm_w (mm_w (mm_w (mm_w (mm_w σ.1 6 (xs1).toNatClampNeg xs0) 7 (x6).toNatClampNeg x3) 8 (x6).toNatClampNeg x4) 9 (x6).toNatClampNeg x5) 11 (x6).toNatClampNeg (0 : Int32)) 0 5) + (1 : Int32))), σ.2))) else none) else none) else none) else none) else none) := by
  refine (ex_iastore (z := 16) rfl).trans (ex_ite ?_ rfl)
  refine (ex_aload_n (x := 0) rfl).trans ?_
  refine (ex_get (u := .ref 7) rfl).trans ?_
  refine (ex_iload (x := x6) rfl).trans ?_
  refine (ex_iload_n (x := x3) rfl).trans ?_
  refine (ex_iastore (z := 16) rfl).trans (ex_ite ?_ rfl)
  refine (ex_aload_n (x := 0) rfl).trans ?_
  refine (ex_get (u := .ref 8) rfl).trans ?_
  refine (ex_iload (x := x6) rfl).trans ?_
  refine (ex_iload (x := x4) rfl).trans ?_
  refine (ex_iastore (z := 16) rfl).trans (ex_ite ?_ rfl)
  refine (ex_aload_n (x := 0) rfl).trans ?_
  refine (ex_get (u := .ref 9) rfl).trans ?_
  refine (ex_iload (x := x6) rfl).trans ?_
  refine (ex_iload (x := x5) rfl).trans ?_
  refine (ex_iastore (z := 16) rfl).trans (ex_ite ?_ rfl)
  refine (ex_aload_n (x := 0) rfl).trans ?_
  refine (ex_get (u := .ref 11) rfl).trans ?_
  refine (ex_iload (x := x6) rfl).trans ?_
  refine (ex_iconst).trans ?_
  refine (ex_iastore (z := 16) rfl).trans (ex_ite ?_ rfl)
  refine (ex_aload_n (x := 0) rfl).trans ?_
  refine (ex_dup).trans ?_
  refine (ex_get (u := .int ((mm_w (mm_w (mm_w (mm_w (mm_w σ.1 6 (xs1).toNatClampNeg xs0) 7 (x6).toNatClampNeg x3) 8 (x6).toNatClampNeg x4) 9 (x6).toNatClampNeg x5) 11 (x6).toNatClampNeg (0 : Int32)) 0 5)) rfl).trans ?_
  refine (ex_iconst).trans ?_
  refine (ex_iadd).trans ?_
  refine (ex_put (u := ()) rfl).trans ?_
  refine (ex_iload (x := x6) rfl).trans ?_
  exact ex_ireturn
-- 7: WiringContainerModel.manage(IIII)I
set_option maxRecDepth 100000 in
set_option maxHeartbeats 4000000 in
theorem rp_7_g (d : Nat) (σ : mm_S) (x1 : Int32) (x2 : Int32) (x3 : Int32) (x4 : Int32) : rG (d + 1) 7 [.ref 0, .int x1, .int x2, .int x3, .int x4] σ = (if (σ.1 0 15) = 0 then (if (σ.1 0 5) < (16 : Int32) then (if x1 < (1 : Int32) then (some ((-1 : Int32), 0, σ)) else (if (σ.1 0 0) < x1 then (some ((-1 : Int32), 0, σ)) else ((rG d 2 [.int x2] σ).bind fun u1 => (if u1.1 = 0 then (some ((-1 : Int32), 0, u1.2.2)) else (if x3 < 0 then (some ((-1 : Int32), 0, u1.2.2)) else (if (2 : Int32) < x3 then (some ((-1 : Int32), 0, u1.2.2)) else (if x4 < (-1 : Int32) then (some ((-1 : Int32), 0, u1.2.2)) else (if x4 ≤ (100 : Int32) then (if mm_in (u1.2.2.1 0 5) 16 then (if mm_in x1 32 then (if ((mm_w u1.2.2.1 10 ((u1.2.2.1 0 5)).toNatClampNeg (1 : Int32)) 1 (x1).toNatClampNeg) = 0 then ((rG d 6 [.ref 0, .int x1, .int x2, .int x3, .int x4, .int (-1 : Int32)] ((mm_w u1.2.2.1 10 ((u1.2.2.1 0 5)).toNatClampNeg (1 : Int32)), u1.2.2.2)).bind fun u2 => (some (u2.1, 0, u2.2.2))) else ((rG d 6 [.ref 0, .int (x1 + (992 : Int32)), .int x2, .int x3, .int x4, .int (-1 : Int32)] ((mm_w u1.2.2.1 10 ((u1.2.2.1 0 5)).toNatClampNeg (1 : Int32)), u1.2.2.2)).bind fun u3 => (some (u3.1, 0, u3.2.2)))) else none) else none) else (some ((-1 : Int32), 0, u1.2.2)))))))))) else (some ((-2 : Int32), 0, σ))) else (some ((-3 : Int32), 0, σ))) := by
  refine (mm_entry 99999950 50 (maxL := 5) (labs := rp_7_l) (rows := rp_7_r0) (L := [.ref 0, .int x1, .int x2, .int x3, .int x4]) (rk := 1) rfl rfl rfl rfl rfl rfl).trans ?_
  refine (ex_aload_n (x := 0) rfl).trans ?_
  refine (ex_get (u := .int (σ.1 0 15)) rfl).trans ?_
  refine (ex_if_eq (p := 10) (q := rp_7_r1) rfl).trans (ex_ite ?_ ?_)
  · refine (ex_aload_n (x := 0) rfl).trans ?_
    refine (ex_get (u := .int (σ.1 0 5)) rfl).trans ?_
    refine (ex_bipush).trans ?_
    refine (ex_ic_lt (p := 22) (q := rp_7_r2) rfl).trans (ex_ite ?_ ?_)
    · refine (ex_iload_n (x := x1) rfl).trans ?_
      refine (ex_iconst).trans ?_
      refine (ex_ic_lt (p := 64) (q := rp_7_r3) rfl).trans (ex_ite ?_ ?_)
      · refine (ex_iconst).trans ?_
        exact ex_ireturn
      · refine (ex_iload_n (x := x1) rfl).trans ?_
        refine (ex_aload_n (x := 0) rfl).trans ?_
        refine (ex_get (u := .int (σ.1 0 0)) rfl).trans ?_
        refine (ex_ic_gt (p := 64) (q := rp_7_r3) rfl).trans (ex_ite ?_ ?_)
        · refine (ex_iconst).trans ?_
          exact ex_ireturn
        · refine (ex_iload_n (x := x2) rfl).trans ?_
          refine (ex_sta_z (As := [.int x2]) (rest := []) (by decide) (by decide) rfl rfl).trans (ex_bnd fun u1 => ?_)
          refine (ex_if_eq (p := 64) (q := rp_7_r3) rfl).trans (ex_ite ?_ ?_)
          · refine (ex_iconst).trans ?_
            exact ex_ireturn
          · refine (ex_iload_n (x := x3) rfl).trans ?_
            refine (ex_if_lt (p := 64) (q := rp_7_r3) rfl).trans (ex_ite ?_ ?_)
            · refine (ex_iconst).trans ?_
              exact ex_ireturn
            · refine (ex_iload_n (x := x3) rfl).trans ?_
              refine (ex_iconst).trans ?_
              refine (ex_ic_gt (p := 64) (q := rp_7_r3) rfl).trans (ex_ite ?_ ?_)
              · refine (ex_iconst).trans ?_
                exact ex_ireturn
              · refine (ex_iload (x := x4) rfl).trans ?_
                refine (ex_iconst).trans ?_
                refine (ex_ic_lt (p := 64) (q := rp_7_r3) rfl).trans (ex_ite ?_ ?_)
                · refine (ex_iconst).trans ?_
                  exact ex_ireturn
                · refine (ex_iload (x := x4) rfl).trans ?_
                  refine (ex_bipush).trans ?_
                  refine (ex_ic_le (p := 66) (q := rp_7_r4) rfl).trans (ex_ite ?_ ?_)
                  · refine (ex_aload_n (x := 0) rfl).trans ?_
                    refine (ex_get (u := .ref 10) rfl).trans ?_
                    refine (ex_aload_n (x := 0) rfl).trans ?_
                    refine (ex_get (u := .int (u1.2.2.1 0 5)) rfl).trans ?_
                    refine (ex_iconst).trans ?_
                    refine (ex_bastore (z := 16) rfl).trans (ex_ite ((if_pos (by decide)).trans ?_) rfl)
                    refine (ex_aload_n (x := 0) rfl).trans ?_
                    refine (ex_aload_n (x := 0) rfl).trans ?_
                    refine (ex_get (u := .ref 1) rfl).trans ?_
                    refine (ex_iload_n (x := x1) rfl).trans ?_
                    refine (ex_baload (z := 32) rfl).trans (ex_ite ?_ rfl)
                    refine (ex_if_eq (p := 94) (q := rp_7_r5) rfl).trans (ex_ite ?_ ?_)
                    · refine (ex_iload_n (x := x1) rfl).trans ?_
                      refine (ex_iload_n (x := x2) rfl).trans ?_
                      refine (ex_iload_n (x := x3) rfl).trans ?_
                      refine (ex_iload (x := x4) rfl).trans ?_
                      refine (ex_iconst).trans ?_
                      refine (ex_inv_i (As := [.ref 0, .int x1, .int x2, .int x3, .int x4, .int (-1 : Int32)]) (rest := []) rfl rfl).trans (ex_bnd fun u2 => ?_)
                      exact ex_ireturn
                    · refine (ex_iload_n (x := x1) rfl).trans ?_
                      refine (ex_sipush).trans ?_
                      refine (ex_iadd).trans ?_
                      refine (ex_goto (p := 95) (q := rp_7_r6) rfl).trans ?_
                      refine (ex_iload_n (x := x2) rfl).trans ?_
                      refine (ex_iload_n (x := x3) rfl).trans ?_
                      refine (ex_iload (x := x4) rfl).trans ?_
                      refine (ex_iconst).trans ?_
                      refine (ex_inv_i (As := [.ref 0, .int (x1 + (992 : Int32)), .int x2, .int x3, .int x4, .int (-1 : Int32)]) (rest := []) rfl rfl).trans (ex_bnd fun u3 => ?_)
                      exact ex_ireturn
                  · refine (ex_iconst).trans ?_
                    exact ex_ireturn
    · refine (ex_bipush).trans ?_
      exact ex_ireturn
  · refine (ex_bipush).trans ?_
    exact ex_ireturn
-- 8: WiringContainerModel.produce(IIIII)I
set_option maxRecDepth 100000 in
set_option maxHeartbeats 4000000 in
theorem rp_8_g (d : Nat) (σ : mm_S) (x1 : Int32) (x2 : Int32) (x3 : Int32) (x4 : Int32) (x5 : Int32) : rG (d + 1) 8 [.ref 0, .int x1, .int x2, .int x3, .int x4, .int x5] σ = (if (σ.1 0 15) = 0 then (if (σ.1 0 5) < (16 : Int32) then (if x1 < (-1 : Int32) then (some ((-1 : Int32), 0, σ)) else (if (σ.1 0 5) ≤ x1 then (some ((-1 : Int32), 0, σ)) else ((rG d 0 [.ref 0, .int x2, .int (4 : Int32), .int (0 : Int32), .int (1 : Int32)] σ).bind fun u1 => (if u1.1 = 0 then (some ((-1 : Int32), 0, u1.2.2)) else ((rG d 2 [.int x3] u1.2.2).bind fun u2 => (if u2.1 = 0 then (some ((-1 : Int32), 0, u2.2.2)) else (if x4 < 0 then (some ((-1 : Int32), 0, u2.2.2)) else (if (2 : Int32) < x4 then (some ((-1 : Int32), 0, u2.2.2)) else (if x5 < (-1 : Int32) then (some ((-1 : Int32), 0, u2.2.2)) else (if x5 ≤ (100 : Int32) then (if x1 < 0 then (if mm_in (u2.2.2.1 0 5) 16 then ((rG d 6 [.ref 0, .int x2, .int x3, .int x4, .int x5, .int x1] ((mm_w u2.2.2.1 10 ((u2.2.2.1 0 5)).toNatClampNeg (0 : Int32)), u2.2.2.2)).bind fun u3 => (some (u3.1, 0, u3.2.2))) else none) else (if mm_in x1 16 then (if (u2.2.2.1 10 (x1).toNatClampNeg) = 0 then (some ((-1 : Int32), 0, u2.2.2)) else (if mm_in x1 16 then (if (u2.2.2.1 7 (x1).toNatClampNeg) = 0 then (if mm_in (u2.2.2.1 0 5) 16 then ((rG d 6 [.ref 0, .int x2, .int x3, .int x4, .int x5, .int x1] ((mm_w u2.2.2.1 10 ((u2.2.2.1 0 5)).toNatClampNeg (0 : Int32)), u2.2.2.2)).bind fun u4 => (some (u4.1, 0, u4.2.2))) else none) else (some ((-1 : Int32), 0, u2.2.2))) else none)) else none)) else (some ((-1 : Int32), 0, u2.2.2)))))))))))) else (some ((-2 : Int32), 0, σ))) else (some ((-3 : Int32), 0, σ))) := by
  refine (mm_entry 99999939 61 (maxL := 6) (labs := rp_8_l) (rows := rp_8_r0) (L := [.ref 0, .int x1, .int x2, .int x3, .int x4, .int x5]) (rk := 1) rfl rfl rfl rfl rfl rfl).trans ?_
  refine (ex_aload_n (x := 0) rfl).trans ?_
  refine (ex_get (u := .int (σ.1 0 15)) rfl).trans ?_
  refine (ex_if_eq (p := 10) (q := rp_8_r1) rfl).trans (ex_ite ?_ ?_)
  · refine (ex_aload_n (x := 0) rfl).trans ?_
    refine (ex_get (u := .int (σ.1 0 5)) rfl).trans ?_
    refine (ex_bipush).trans ?_
    refine (ex_ic_lt (p := 22) (q := rp_8_r2) rfl).trans (ex_ite ?_ ?_)
    · refine (ex_iload_n (x := x1) rfl).trans ?_
      refine (ex_iconst).trans ?_
      refine (ex_ic_lt (p := 77) (q := rp_8_r3) rfl).trans (ex_ite ?_ ?_)
      · refine (ex_iconst).trans ?_
        exact ex_ireturn
      · refine (ex_iload_n (x := x1) rfl).trans ?_
        refine (ex_aload_n (x := 0) rfl).trans ?_
        refine (ex_get (u := .int (σ.1 0 5)) rfl).trans ?_
        refine (ex_ic_ge (p := 77) (q := rp_8_r3) rfl).trans (ex_ite ?_ ?_)
        · refine (ex_iconst).trans ?_
          exact ex_ireturn
        · refine (ex_aload_n (x := 0) rfl).trans ?_
          refine (ex_iload_n (x := x2) rfl).trans ?_
          refine (ex_iconst).trans ?_
          refine (ex_iconst).trans ?_
          refine (ex_iconst).trans ?_
          refine (ex_inv_z (As := [.ref 0, .int x2, .int (4 : Int32), .int (0 : Int32), .int (1 : Int32)]) (rest := []) rfl rfl).trans (ex_bnd fun u1 => ?_)
          refine (ex_if_eq (p := 77) (q := rp_8_r3) rfl).trans (ex_ite ?_ ?_)
          · refine (ex_iconst).trans ?_
            exact ex_ireturn
          · refine (ex_iload_n (x := x3) rfl).trans ?_
            refine (ex_sta_z (As := [.int x3]) (rest := []) (by decide) (by decide) rfl rfl).trans (ex_bnd fun u2 => ?_)
            refine (ex_if_eq (p := 77) (q := rp_8_r3) rfl).trans (ex_ite ?_ ?_)
            · refine (ex_iconst).trans ?_
              exact ex_ireturn
            · refine (ex_iload (x := x4) rfl).trans ?_
              refine (ex_if_lt (p := 77) (q := rp_8_r3) rfl).trans (ex_ite ?_ ?_)
              · refine (ex_iconst).trans ?_
                exact ex_ireturn
              · refine (ex_iload (x := x4) rfl).trans ?_
                refine (ex_iconst).trans ?_
                refine (ex_ic_gt (p := 77) (q := rp_8_r3) rfl).trans (ex_ite ?_ ?_)
                · refine (ex_iconst).trans ?_
                  exact ex_ireturn
                · refine (ex_iload (x := x5) rfl).trans ?_
                  refine (ex_iconst).trans ?_
                  refine (ex_ic_lt (p := 77) (q := rp_8_r3) rfl).trans (ex_ite ?_ ?_)
                  · refine (ex_iconst).trans ?_
                    exact ex_ireturn
                  · refine (ex_iload (x := x5) rfl).trans ?_
                    refine (ex_bipush).trans ?_
                    refine (ex_ic_le (p := 79) (q := rp_8_r4) rfl).trans (ex_ite ?_ ?_)
                    · refine (ex_iload_n (x := x1) rfl).trans ?_
                      refine (ex_if_lt (p := 103) (q := rp_8_r6) rfl).trans (ex_ite ?_ ?_)
                      · refine (ex_aload_n (x := 0) rfl).trans ?_
                        refine (ex_get (u := .ref 10) rfl).trans ?_
                        refine (ex_aload_n (x := 0) rfl).trans ?_
                        refine (ex_get (u := .int (u2.2.2.1 0 5)) rfl).trans ?_
                        refine (ex_iconst).trans ?_
                        refine (ex_bastore (z := 16) rfl).trans (ex_ite ((if_pos (by decide)).trans ?_) rfl)
                        refine (ex_aload_n (x := 0) rfl).trans ?_
                        refine (ex_iload_n (x := x2) rfl).trans ?_
                        refine (ex_iload_n (x := x3) rfl).trans ?_
                        refine (ex_iload (x := x4) rfl).trans ?_
                        refine (ex_iload (x := x5) rfl).trans ?_
                        refine (ex_iload_n (x := x1) rfl).trans ?_
                        refine (ex_inv_i (As := [.ref 0, .int x2, .int x3, .int x4, .int x5, .int x1]) (rest := []) rfl rfl).trans (ex_bnd fun u3 => ?_)
                        exact ex_ireturn
                      · refine (ex_aload_n (x := 0) rfl).trans ?_
                        refine (ex_get (u := .ref 10) rfl).trans ?_
                        refine (ex_iload_n (x := x1) rfl).trans ?_
                        refine (ex_baload (z := 16) rfl).trans (ex_ite ?_ rfl)
                        refine (ex_if_eq (p := 101) (q := rp_8_r5) rfl).trans (ex_ite ?_ ?_)
                        · refine (ex_iconst).trans ?_
                          exact ex_ireturn
                        · refine (ex_aload_n (x := 0) rfl).trans ?_
                          refine (ex_get (u := .ref 7) rfl).trans ?_
                          refine (ex_iload_n (x := x1) rfl).trans ?_
                          refine (ex_iaload (z := 16) rfl).trans (ex_ite ?_ rfl)
                          refine (ex_if_eq (p := 103) (q := rp_8_r6) rfl).trans (ex_ite ?_ ?_)
                          · refine (ex_aload_n (x := 0) rfl).trans ?_
                            refine (ex_get (u := .ref 10) rfl).trans ?_
                            refine (ex_aload_n (x := 0) rfl).trans ?_
                            refine (ex_get (u := .int (u2.2.2.1 0 5)) rfl).trans ?_
                            refine (ex_iconst).trans ?_
                            refine (ex_bastore (z := 16) rfl).trans (ex_ite ((if_pos (by decide)).trans ?_) rfl)
                            refine (ex_aload_n (x := 0) rfl).trans ?_
                            refine (ex_iload_n (x := x2) rfl).trans ?_
                            refine (ex_iload_n (x := x3) rfl).trans ?_
                            refine (ex_iload (x := x4) rfl).trans ?_
                            refine (ex_iload (x := x5) rfl).trans ?_
                            refine (ex_iload_n (x := x1) rfl).trans ?_
                            refine (ex_inv_i (As := [.ref 0, .int x2, .int x3, .int x4, .int x5, .int x1]) (rest := []) rfl rfl).trans (ex_bnd fun u4 => ?_)
                            exact ex_ireturn
                          · refine (ex_iconst).trans ?_
                            exact ex_ireturn
                    · refine (ex_iconst).trans ?_
                      exact ex_ireturn
    · refine (ex_bipush).trans ?_
      exact ex_ireturn
  · refine (ex_bipush).trans ?_
    exact ex_ireturn
-- 9: WiringContainerModel.isBean(I)Z
set_option maxRecDepth 100000 in
set_option maxHeartbeats 4000000 in
theorem rp_9_g (d : Nat) (σ : mm_S) (x1 : Int32) : rG (d + 1) 9 [.ref 0, .int x1] σ = (if x1 < 0 then (some ((0 : Int32), 0, σ)) else (if (σ.1 0 5) ≤ x1 then (some ((0 : Int32), 0, σ)) else (some ((1 : Int32), 0, σ)))) := by
  refine (mm_entry 99999991 9 (maxL := 2) (labs := rp_9_l) (rows := rp_9_r0) (L := [.ref 0, .int x1]) (rk := 3) rfl rfl rfl rfl rfl rfl).trans ?_
  refine (ex_iload_n (x := x1) rfl).trans ?_
  refine (ex_if_lt (p := 16) (q := rp_9_r1) rfl).trans (ex_ite ?_ ?_)
  · refine (ex_iconst).trans ?_
    exact ex_zreturn0
  · refine (ex_iload_n (x := x1) rfl).trans ?_
    refine (ex_aload_n (x := 0) rfl).trans ?_
    refine (ex_get (u := .int (σ.1 0 5)) rfl).trans ?_
    refine (ex_ic_ge (p := 16) (q := rp_9_r1) rfl).trans (ex_ite ?_ ?_)
    · refine (ex_iconst).trans ?_
      exact ex_zreturn0
    · refine (ex_iconst).trans ?_
      refine (ex_goto (p := 17) (q := rp_9_r2) rfl).trans ?_
      exact ex_zreturn1
-- 10: WiringContainerModel.inject(III)I
set_option maxRecDepth 100000 in
set_option maxHeartbeats 4000000 in
theorem rp_10_g (d : Nat) (σ : mm_S) (x1 : Int32) (x2 : Int32) (x3 : Int32) : rG (d + 1) 10 [.ref 0, .int x1, .int x2, .int x3] σ = (if (σ.1 0 15) = 0 then ((rG d 9 [.ref 0, .int x1] σ).bind fun u1 => (if u1.1 = 0 then (some ((-1 : Int32), 0, u1.2.2)) else ((rG d 1 [.ref 0, .int x2] u1.2.2).bind fun u2 => (if u2.1 = 0 then (some ((-1 : Int32), 0, u2.2.2)) else ((rG d 3 [.int x3] u2.2.2).bind fun u3 => (if u3.1 = 0 then (some ((-1 : Int32), 0, u3.2.2)) else (if mm_in x1 16 then (if (u3.2.2.1 11 (x1).toNatClampNeg) < (3 : Int32) then (if mm_in x1 16 then (if mm_in (((3 : Int32) * x1) + (u3.2.2.1 11 (x1).toNatClampNeg)) 48 then (if mm_in (((3 : Int32) * x1) + (u3.2.2.1 11 (x1).toNatClampNeg)) 48 then (if mm_in x1 16 then (if mm_in x1 16 then (some ((u3.2.2.1 11 (x1).toNatClampNeg), 0, ((mm_w (mm_w (mm_w u3.2.2.1 12 ((((3 : Int32) * x1) + (u3.2.2.1 11 (x1).toNatClampNeg))).toNatClampNeg x2) 13 ((((3 : Int32) * x1) + (u3.2.2.1 11 (x1).toNatClampNeg))).toNatClampNeg x3) 11 (x1).toNatClampNeg (((mm_w (mm_w u3.2.2.1 12 ((((3 : Int32) * x1) + (u3.2.2.1 11 (x1).toNatClampNeg))).toNatClampNeg x2) 13 ((((3 : Int32) * x1) + (u3.2.2.1 11 (x1).toNatClampNeg))).toNatClampNeg x3) 11 (x1).toNatClampNeg) + (1 : Int32))), u3.2.2.2))) else none) else none) else none) else none) else none) else (some ((-2 : Int32), 0, u3.2.2))) else none))))))) else (some ((-3 : Int32), 0, σ))) := by
  refine (mm_entry 99999947 53 (maxL := 5) (labs := rp_10_l) (rows := rp_10_r0) (L := [.ref 0, .int x1, .int x2, .int x3, .null]) (rk := 1) rfl rfl rfl rfl rfl rfl).trans ?_
  refine (ex_aload_n (x := 0) rfl).trans ?_
  refine (ex_get (u := .int (σ.1 0 15)) rfl).trans ?_
  refine (ex_if_eq (p := 10) (q := rp_10_r1) rfl).trans (ex_ite ?_ ?_)
  · refine (ex_aload_n (x := 0) rfl).trans ?_
    refine (ex_iload_n (x := x1) rfl).trans ?_
    refine (ex_inv_z (As := [.ref 0, .int x1]) (rest := []) rfl rfl).trans (ex_bnd fun u1 => ?_)
    refine (ex_if_eq (p := 33) (q := rp_10_r2) rfl).trans (ex_ite ?_ ?_)
    · refine (ex_iconst).trans ?_
      exact ex_ireturn
    · refine (ex_aload_n (x := 0) rfl).trans ?_
      refine (ex_iload_n (x := x2) rfl).trans ?_
      refine (ex_inv_z (As := [.ref 0, .int x2]) (rest := []) rfl rfl).trans (ex_bnd fun u2 => ?_)
      refine (ex_if_eq (p := 33) (q := rp_10_r2) rfl).trans (ex_ite ?_ ?_)
      · refine (ex_iconst).trans ?_
        exact ex_ireturn
      · refine (ex_iload_n (x := x3) rfl).trans ?_
        refine (ex_sta_z (As := [.int x3]) (rest := []) (by decide) (by decide) rfl rfl).trans (ex_bnd fun u3 => ?_)
        refine (ex_if_ne (p := 35) (q := rp_10_r3) rfl).trans (ex_ite ?_ ?_)
        · refine (ex_iconst).trans ?_
          exact ex_ireturn
        · refine (ex_aload_n (x := 0) rfl).trans ?_
          refine (ex_get (u := .ref 11) rfl).trans ?_
          refine (ex_iload_n (x := x1) rfl).trans ?_
          refine (ex_iaload (z := 16) rfl).trans (ex_ite ?_ rfl)
          refine (ex_iconst).trans ?_
          refine (ex_ic_lt (p := 48) (q := rp_10_r4) rfl).trans (ex_ite ?_ ?_)
          · refine (ex_aload_n (x := 0) rfl).trans ?_
            refine (ex_get (u := .ref 11) rfl).trans ?_
            refine (ex_iload_n (x := x1) rfl).trans ?_
            refine (ex_iaload (z := 16) rfl).trans (ex_ite ?_ rfl)
            refine (ex_istore (L2 := [.ref 0, .int x1, .int x2, .int x3, .int (u3.2.2.1 11 (x1).toNatClampNeg)]) rfl).trans ?_
            refine (ex_aload_n (x := 0) rfl).trans ?_
            refine (ex_get (u := .ref 12) rfl).trans ?_
            refine (ex_iconst).trans ?_
            refine (ex_iload_n (x := x1) rfl).trans ?_
            refine (ex_imul).trans ?_
            refine (ex_iload (x := (u3.2.2.1 11 (x1).toNatClampNeg)) rfl).trans ?_
            refine (ex_iadd).trans ?_
            refine (ex_iload_n (x := x2) rfl).trans ?_
            refine (ex_iastore (z := 48) rfl).trans (ex_ite ?_ rfl)
            refine (ex_aload_n (x := 0) rfl).trans ?_
            refine (ex_get (u := .ref 13) rfl).trans ?_
            refine (ex_iconst).trans ?_
            refine (ex_iload_n (x := x1) rfl).trans ?_
            refine (ex_imul).trans ?_
            refine (ex_iload (x := (u3.2.2.1 11 (x1).toNatClampNeg)) rfl).trans ?_
            refine (ex_iadd).trans ?_
            refine (ex_iload_n (x := x3) rfl).trans ?_
            refine (ex_iastore (z := 48) rfl).trans (ex_ite ?_ rfl)
            refine (ex_aload_n (x := 0) rfl).trans ?_
            refine (ex_get (u := .ref 11) rfl).trans ?_
            refine (ex_iload_n (x := x1) rfl).trans ?_
            refine (ex_dup2).trans ?_
            refine (ex_iaload (z := 16) rfl).trans (ex_ite ?_ rfl)
            refine (ex_iconst).trans ?_
            refine (ex_iadd).trans ?_
            refine (ex_iastore (z := 16) rfl).trans (ex_ite ?_ rfl)
            refine (ex_iload (x := (u3.2.2.1 11 (x1).toNatClampNeg)) rfl).trans ?_
            exact ex_ireturn
          · refine (ex_bipush).trans ?_
            exact ex_ireturn
  · refine (ex_bipush).trans ?_
    exact ex_ireturn
-- 11: WiringContainerModel.enabled(I)Z
set_option maxRecDepth 100000 in
set_option maxHeartbeats 4000000 in
theorem rp_11_g (d : Nat) (σ : mm_S) (x1 : Int32) : rG (d + 1) 11 [.ref 0, .int x1] σ = (if mm_in x1 16 then (if (σ.1 8 (x1).toNatClampNeg) = (-1 : Int32) then (some ((0 : Int32), 0, σ)) else (if mm_in x1 16 then (if (σ.1 9 (x1).toNatClampNeg) < 0 then (some ((1 : Int32), 0, σ)) else (if mm_in x1 16 then (if mm_in (σ.1 9 (x1).toNatClampNeg) 16 then (if (σ.1 8 ((σ.1 9 (x1).toNatClampNeg)).toNatClampNeg) = (-1 : Int32) then (some ((0 : Int32), 0, σ)) else (some ((1 : Int32), 0, σ))) else none) else none)) else none)) else none) := by
  refine (mm_entry 99999977 23 (maxL := 2) (labs := rp_11_l) (rows := rp_11_r0) (L := [.ref 0, .int x1]) (rk := 3) rfl rfl rfl rfl rfl rfl).trans ?_
  refine (ex_aload_n (x := 0) rfl).trans ?_
  refine (ex_get (u := .ref 8) rfl).trans ?_
  refine (ex_iload_n (x := x1) rfl).trans ?_
  refine (ex_iaload (z := 16) rfl).trans (ex_ite ?_ rfl)
  refine (ex_iconst).trans ?_
  refine (ex_ic_eq (p := 38) (q := rp_11_r2) rfl).trans (ex_ite ?_ ?_)
  · refine (ex_iconst).trans ?_
    exact ex_zreturn0
  · refine (ex_aload_n (x := 0) rfl).trans ?_
    refine (ex_get (u := .ref 9) rfl).trans ?_
    refine (ex_iload_n (x := x1) rfl).trans ?_
    refine (ex_iaload (z := 16) rfl).trans (ex_ite ?_ rfl)
    refine (ex_if_lt (p := 34) (q := rp_11_r1) rfl).trans (ex_ite ?_ ?_)
    · refine (ex_iconst).trans ?_
      refine (ex_goto (p := 39) (q := rp_11_r3) rfl).trans ?_
      exact ex_zreturn1
    · refine (ex_aload_n (x := 0) rfl).trans ?_
      refine (ex_get (u := .ref 8) rfl).trans ?_
      refine (ex_aload_n (x := 0) rfl).trans ?_
      refine (ex_get (u := .ref 9) rfl).trans ?_
      refine (ex_iload_n (x := x1) rfl).trans ?_
      refine (ex_iaload (z := 16) rfl).trans (ex_ite ?_ rfl)
      refine (ex_iaload (z := 16) rfl).trans (ex_ite ?_ rfl)
      refine (ex_iconst).trans ?_
      refine (ex_ic_eq (p := 38) (q := rp_11_r2) rfl).trans (ex_ite ?_ ?_)
      · refine (ex_iconst).trans ?_
        exact ex_zreturn0
      · refine (ex_iconst).trans ?_
        refine (ex_goto (p := 39) (q := rp_11_r3) rfl).trans ?_
        exact ex_zreturn1
-- 12: WiringContainerModel.rank(I)I
set_option maxRecDepth 100000 in
set_option maxHeartbeats 4000000 in
theorem rp_12_g (d : Nat) (σ : mm_S) (x1 : Int32) : rG (d + 1) 12 [.ref 0, .int x1] σ = (if mm_in x1 16 then (if (σ.1 8 (x1).toNatClampNeg) ≤ 0 then (if mm_in x1 16 then (if (σ.1 9 (x1).toNatClampNeg) < 0 then (some ((0 : Int32), 0, σ)) else (if mm_in x1 16 then (if mm_in (σ.1 9 (x1).toNatClampNeg) 16 then (if (σ.1 8 ((σ.1 9 (x1).toNatClampNeg)).toNatClampNeg) ≤ 0 then (some ((0 : Int32), 0, σ)) else (if mm_in x1 16 then (if mm_in (σ.1 9 (x1).toNatClampNeg) 16 then (some ((σ.1 8 ((σ.1 9 (x1).toNatClampNeg)).toNatClampNeg), 0, σ)) else none) else none)) else none) else none)) else none) else (if mm_in x1 16 then (some ((σ.1 8 (x1).toNatClampNeg), 0, σ)) else none)) else none) := by
  refine (mm_entry 99999973 27 (maxL := 2) (labs := rp_12_l) (rows := rp_12_r0) (L := [.ref 0, .int x1]) (rk := 1) rfl rfl rfl rfl rfl rfl).trans ?_
  refine (ex_aload_n (x := 0) rfl).trans ?_
  refine (ex_get (u := .ref 8) rfl).trans ?_
  refine (ex_iload_n (x := x1) rfl).trans ?_
  refine (ex_iaload (z := 16) rfl).trans (ex_ite ?_ rfl)
  refine (ex_if_le (p := 16) (q := rp_12_r1) rfl).trans (ex_ite ?_ ?_)
  · refine (ex_aload_n (x := 0) rfl).trans ?_
    refine (ex_get (u := .ref 9) rfl).trans ?_
    refine (ex_iload_n (x := x1) rfl).trans ?_
    refine (ex_iaload (z := 16) rfl).trans (ex_ite ?_ rfl)
    refine (ex_if_lt (p := 53) (q := rp_12_r2) rfl).trans (ex_ite ?_ ?_)
    · refine (ex_iconst).trans ?_
      exact ex_ireturn
    · refine (ex_aload_n (x := 0) rfl).trans ?_
      refine (ex_get (u := .ref 8) rfl).trans ?_
      refine (ex_aload_n (x := 0) rfl).trans ?_
      refine (ex_get (u := .ref 9) rfl).trans ?_
      refine (ex_iload_n (x := x1) rfl).trans ?_
      refine (ex_iaload (z := 16) rfl).trans (ex_ite ?_ rfl)
      refine (ex_iaload (z := 16) rfl).trans (ex_ite ?_ rfl)
      refine (ex_if_le (p := 53) (q := rp_12_r2) rfl).trans (ex_ite ?_ ?_)
      · refine (ex_iconst).trans ?_
        exact ex_ireturn
      · refine (ex_aload_n (x := 0) rfl).trans ?_
        refine (ex_get (u := .ref 8) rfl).trans ?_
        refine (ex_aload_n (x := 0) rfl).trans ?_
        refine (ex_get (u := .ref 9) rfl).trans ?_
        refine (ex_iload_n (x := x1) rfl).trans ?_
        refine (ex_iaload (z := 16) rfl).trans (ex_ite ?_ rfl)
        refine (ex_iaload (z := 16) rfl).trans (ex_ite ?_ rfl)
        refine (ex_goto (p := 54) (q := rp_12_r3) rfl).trans ?_
        exact ex_ireturn
  · refine (ex_aload_n (x := 0) rfl).trans ?_
    refine (ex_get (u := .ref 8) rfl).trans ?_
    refine (ex_iload_n (x := x1) rfl).trans ?_
    refine (ex_iaload (z := 16) rfl).trans (ex_ite ?_ rfl)
    exact ex_ireturn
-- 13: WiringContainerModel.note(J)V
set_option maxRecDepth 100000 in
set_option maxHeartbeats 4000000 in
theorem rp_13_g (d : Nat) (σ : mm_S) (y1 : Int64) : rG (d + 1) 13 [.ref 0, .long y1] σ = (mm_ex sr (rG d) 0 rp_13_l (99999998 + 0) rp_13_r1 [.ref 0, .long y1, .null, .int (0 : Int32)] [] σ) := by
  refine (mm_entry 99999998 2 (maxL := 4) (labs := rp_13_l) (rows := rp_13_r0) (L := [.ref 0, .long y1, .null, .null]) (rk := 0) rfl rfl rfl rfl rfl rfl).trans ?_
  refine (ex_iconst).trans ?_
  refine (ex_istore_n (L2 := [.ref 0, .long y1, .null, .int (0 : Int32)]) rfl).trans ?_
  exact rfl
set_option maxRecDepth 100000 in
set_option maxHeartbeats 4000000 in
theorem rp_13_h1 (d n : Nat) (σ : mm_S) (y1 : Int64) (x3 : Int32) : mm_ex sr (rG d) 0 rp_13_l (n + 17) rp_13_r1 [.ref 0, .long y1, .null, .int x3] [] σ = (if (σ.1 0 20) ≤ x3 then (if mm_in (σ.1 0 20) 16 then (some (0, 0, ((mm_w σ.1 0 20 ((σ.1 0 20) + (1 : Int32))), (mm_w σ.2 17 ((σ.1 0 20)).toNatClampNeg y1)))) else none) else (if mm_in x3 16 then (if (lg_cmp (σ.2 17 (x3).toNatClampNeg) y1) = 0 then (some (0, 0, σ)) else (mm_ex sr (rG d) 0 rp_13_l (n + 4) rp_13_r1 [.ref 0, .long y1, .null, .int (x3 + (1 : Int32))] [] σ)) else none)) := by
  refine (ex_iload_n (x := x3) rfl).trans ?_
  refine (ex_aload_n (x := 0) rfl).trans ?_
  refine (ex_get (u := .int (σ.1 0 20)) rfl).trans ?_
  refine (ex_ic_ge (p := 28) (q := rp_13_r3) rfl).trans (ex_ite ?_ ?_)
  · refine (ex_aload_n (x := 0) rfl).trans ?_
    refine (ex_get (u := .ref 17) rfl).trans ?_
    refine (ex_aload_n (x := 0) rfl).trans ?_
    refine (ex_get (u := .int (σ.1 0 20)) rfl).trans ?_
    refine (ex_lload_n (x := y1) rfl).trans ?_
    refine (ex_lastore (z := 16) rfl).trans (ex_ite ?_ rfl)
    refine (ex_aload_n (x := 0) rfl).trans ?_
    refine (ex_dup).trans ?_
    refine (ex_get (u := .int (σ.1 0 20)) rfl).trans ?_
    refine (ex_iconst).trans ?_
    refine (ex_iadd).trans ?_
    refine (ex_put (u := ()) rfl).trans ?_
    exact ex_return
  · refine (ex_aload_n (x := 0) rfl).trans ?_
    refine (ex_get (u := .ref 17) rfl).trans ?_
    refine (ex_iload_n (x := x3) rfl).trans ?_
    refine (ex_laload (z := 16) rfl).trans (ex_ite ?_ rfl)
    refine (ex_lload_n (x := y1) rfl).trans ?_
    refine (ex_lcmp).trans ?_
    refine (ex_if_ne (p := 22) (q := rp_13_r2) rfl).trans (ex_ite ?_ ?_)
    · exact ex_return
    · refine (ex_iinc (L2 := [.ref 0, .long y1, .null, .int (x3 + (1 : Int32))]) rfl rfl).trans ?_
      refine (ex_goto (p := 2) (q := rp_13_r1) rfl).trans ?_
      exact rfl
-- 14: WiringContainerModel.becomes(JJ)J
set_option maxRecDepth 100000 in
set_option maxHeartbeats 4000000 in
theorem rp_14_g (d : Nat) (σ : mm_S) (y1 : Int64) (y3 : Int64) : rG (d + 1) 14 [.ref 0, .long y1, .long y3] σ = (if (lg_cmp (y3 >>> (((5 : Int32)).toInt64 &&& 63)) (0 : Int64)) = 0 then (if mm_in ((y3 &&& (31 : Int64))).toInt32 32 then (if (σ.1 1 (((y3 &&& (31 : Int64))).toInt32).toNatClampNeg) = 0 then (mm_ex sr (rG d) 2 rp_14_l (99999980 + 4) rp_14_r1 [.ref 0, .long y1, .null, .long y3, .null, .long (y3 >>> (((5 : Int32)).toInt64 &&& 63)), .null, .null, .null, .null, .null, .null] [] σ) else (some (0, (y1 &&& (31 : Int64)), σ))) else none) else (mm_ex sr (rG d) 2 rp_14_l (99999980 + 12) rp_14_r1 [.ref 0, .long y1, .null, .long y3, .null, .long (y3 >>> (((5 : Int32)).toInt64 &&& 63)), .null, .null, .null, .null, .null, .null] [] σ)) := by
  refine (mm_entry 99999980 20 (maxL := 12) (labs := rp_14_l) (rows := rp_14_r0) (L := [.ref 0, .long y1, .null, .long y3, .null, .null, .null, .null, .null, .null, .null, .null]) (rk := 2) rfl rfl rfl rfl rfl rfl).trans ?_
  refine (ex_lload_n (x := y3) rfl).trans ?_
  refine (ex_iconst).trans ?_
  refine (ex_lshr).trans ?_
  refine (ex_lstore (L2 := [.ref 0, .long y1, .null, .long y3, .null, .long (y3 >>> (((5 : Int32)).toInt64 &&& 63)), .null, .null, .null, .null, .null, .null]) rfl).trans ?_
  refine (ex_lload (x := (y3 >>> (((5 : Int32)).toInt64 &&& 63))) rfl).trans ?_
  refine (ex_lconst).trans ?_
  refine (ex_lcmp).trans ?_
  refine (ex_if_ne (p := 32) (q := rp_14_r1) rfl).trans (ex_ite ?_ ?_)
  · refine (ex_aload_n (x := 0) rfl).trans ?_
    refine (ex_get (u := .ref 1) rfl).trans ?_
    refine (ex_lload_n (x := y3) rfl).trans ?_
    refine (ex_ldc2_w).trans ?_
    refine (ex_land).trans ?_
    refine (ex_l2i).trans ?_
    refine (ex_baload (z := 32) rfl).trans (ex_ite ?_ rfl)
    refine (ex_if_eq (p := 32) (q := rp_14_r1) rfl).trans (ex_ite ?_ ?_)
    · exact rfl
    · refine (ex_lload_n (x := y1) rfl).trans ?_
      refine (ex_ldc2_w).trans ?_
      refine (ex_land).trans ?_
      exact ex_lreturn
  · exact rfl
set_option maxRecDepth 100000 in
set_option maxHeartbeats 4000000 in
theorem rp_14_h1 (d n : Nat) (σ : mm_S) (y1 : Int64) (y3 : Int64) (y5 : Int64) : mm_ex sr (rG d) 2 rp_14_l (n + 4) rp_14_r1 [.ref 0, .long y1, .null, .long y3, .null, .long y5, .null, .null, .null, .null, .null, .null] [] σ = (mm_ex sr (rG d) 2 rp_14_l (n + 0) rp_14_r2 [.ref 0, .long y1, .null, .long y3, .null, .long y5, .null, .long (0 : Int64), .null, .int (0 : Int32), .null, .null] [] σ) := by
  refine (ex_lconst).trans ?_
  refine (ex_lstore (L2 := [.ref 0, .long y1, .null, .long y3, .null, .long y5, .null, .long (0 : Int64), .null, .null, .null, .null]) rfl).trans ?_
  refine (ex_iconst).trans ?_
  refine (ex_istore (L2 := [.ref 0, .long y1, .null, .long y3, .null, .long y5, .null, .long (0 : Int64), .null, .int (0 : Int32), .null, .null]) rfl).trans ?_
  exact rfl
set_option maxRecDepth 100000 in
set_option maxHeartbeats 4000000 in
theorem rp_14_h2 (d n : Nat) (σ : mm_S) (y1 : Int64) (y3 : Int64) (y5 : Int64) (y7 : Int64) (x9 : Int32) : mm_ex sr (rG d) 2 rp_14_l (n + 26) rp_14_r2 [.ref 0, .long y1, .null, .long y3, .null, .long y5, .null, .long y7, .null, .int x9, .null, .null] [] σ = (if (3 : Int32) ≤ x9 then (some (0, y7, σ)) else (if (lg_cmp ((y1 >>> ((((5 : Int32) * x9)).toInt64 &&& 63)) &&& (31 : Int64)) (31 : Int64)) = 0 then (mm_ex sr (rG d) 2 rp_14_l (n + 0) rp_14_r2 [.ref 0, .long y1, .null, .long y3, .null, .long y5, .null, .long (y7 + (y5 <<< ((((5 : Int32) * x9)).toInt64 &&& 63))), .null, .int (x9 + (1 : Int32)), .long ((y1 >>> ((((5 : Int32) * x9)).toInt64 &&& 63)) &&& (31 : Int64)), .null] [] σ) else (mm_ex sr (rG d) 2 rp_14_l (n + 1) rp_14_r2 [.ref 0, .long y1, .null, .long y3, .null, .long y5, .null, .long (y7 + (((y1 >>> ((((5 : Int32) * x9)).toInt64 &&& 63)) &&& (31 : Int64)) <<< ((((5 : Int32) * x9)).toInt64 &&& 63))), .null, .int (x9 + (1 : Int32)), .long ((y1 >>> ((((5 : Int32) * x9)).toInt64 &&& 63)) &&& (31 : Int64)), .null] [] σ))) := by
  refine (ex_iload (x := x9) rfl).trans ?_
  refine (ex_iconst).trans ?_
  refine (ex_ic_ge (p := 88) (q := rp_14_r5) rfl).trans (ex_ite ?_ ?_)
  · refine (ex_lload (x := y7) rfl).trans ?_
    exact ex_lreturn
  · refine (ex_lload_n (x := y1) rfl).trans ?_
    refine (ex_iconst).trans ?_
    refine (ex_iload (x := x9) rfl).trans ?_
    refine (ex_imul).trans ?_
    refine (ex_lshr).trans ?_
    refine (ex_ldc2_w).trans ?_
    refine (ex_land).trans ?_
    refine (ex_lstore (L2 := [.ref 0, .long y1, .null, .long y3, .null, .long y5, .null, .long y7, .null, .int x9, .long ((y1 >>> ((((5 : Int32) * x9)).toInt64 &&& 63)) &&& (31 : Int64)), .null]) rfl).trans ?_
    refine (ex_lload (x := y7) rfl).trans ?_
    refine (ex_lload (x := ((y1 >>> ((((5 : Int32) * x9)).toInt64 &&& 63)) &&& (31 : Int64))) rfl).trans ?_
    refine (ex_ldc2_w).trans ?_
    refine (ex_lcmp).trans ?_
    refine (ex_if_ne (p := 72) (q := rp_14_r3) rfl).trans (ex_ite ?_ ?_)
    · refine (ex_lload (x := y5) rfl).trans ?_
      refine (ex_goto (p := 74) (q := rp_14_r4) rfl).trans ?_
      refine (ex_iconst).trans ?_
      refine (ex_iload (x := x9) rfl).trans ?_
      refine (ex_imul).trans ?_
      refine (ex_lshl).trans ?_
      refine (ex_ladd).trans ?_
      refine (ex_lstore (L2 := [.ref 0, .long y1, .null, .long y3, .null, .long y5, .null, .long (y7 + (y5 <<< ((((5 : Int32) * x9)).toInt64 &&& 63))), .null, .int x9, .long ((y1 >>> ((((5 : Int32) * x9)).toInt64 &&& 63)) &&& (31 : Int64)), .null]) rfl).trans ?_
      refine (ex_iinc (L2 := [.ref 0, .long y1, .null, .long y3, .null, .long y5, .null, .long (y7 + (y5 <<< ((((5 : Int32) * x9)).toInt64 &&& 63))), .null, .int (x9 + (1 : Int32)), .long ((y1 >>> ((((5 : Int32) * x9)).toInt64 &&& 63)) &&& (31 : Int64)), .null]) rfl rfl).trans ?_
      refine (ex_goto (p := 38) (q := rp_14_r2) rfl).trans ?_
      exact rfl
    · refine (ex_lload (x := ((y1 >>> ((((5 : Int32) * x9)).toInt64 &&& 63)) &&& (31 : Int64))) rfl).trans ?_
      refine (ex_iconst).trans ?_
      refine (ex_iload (x := x9) rfl).trans ?_
      refine (ex_imul).trans ?_
      refine (ex_lshl).trans ?_
      refine (ex_ladd).trans ?_
      refine (ex_lstore (L2 := [.ref 0, .long y1, .null, .long y3, .null, .long y5, .null, .long (y7 + (((y1 >>> ((((5 : Int32) * x9)).toInt64 &&& 63)) &&& (31 : Int64)) <<< ((((5 : Int32) * x9)).toInt64 &&& 63))), .null, .int x9, .long ((y1 >>> ((((5 : Int32) * x9)).toInt64 &&& 63)) &&& (31 : Int64)), .null]) rfl).trans ?_
      refine (ex_iinc (L2 := [.ref 0, .long y1, .null, .long y3, .null, .long y5, .null, .long (y7 + (((y1 >>> ((((5 : Int32) * x9)).toInt64 &&& 63)) &&& (31 : Int64)) <<< ((((5 : Int32) * x9)).toInt64 &&& 63))), .null, .int (x9 + (1 : Int32)), .long ((y1 >>> ((((5 : Int32) * x9)).toInt64 &&& 63)) &&& (31 : Int64)), .null]) rfl rfl).trans ?_
      refine (ex_goto (p := 38) (q := rp_14_r2) rfl).trans ?_
      exact rfl
-- 15: WiringContainerModel.climb(J)V
set_option maxRecDepth 100000 in
set_option maxHeartbeats 4000000 in
theorem rp_15_g (d : Nat) (σ : mm_S) (y1 : Int64) : rG (d + 1) 15 [.ref 0, .long y1] σ = ((rG d 13 [.ref 0, .long y1] ((mm_w σ.1 0 20 (0 : Int32)), σ.2)).bind fun u1 => ((rG d 13 [.ref 0, .long (1 : Int64)] u1.2.2).bind fun u2 => (mm_ex sr (rG d) 0 rp_15_l (99999989 + 0) rp_15_r1 [.ref 0, .long y1, .null, .int (0 : Int32), .null, .null, .null, .null, .null] [] u2.2.2))) := by
  refine (mm_entry 99999989 11 (maxL := 9) (labs := rp_15_l) (rows := rp_15_r0) (L := [.ref 0, .long y1, .null, .null, .null, .null, .null, .null, .null]) (rk := 0) rfl rfl rfl rfl rfl rfl).trans ?_
  refine (ex_aload_n (x := 0) rfl).trans ?_
  refine (ex_iconst).trans ?_
  refine (ex_put (u := ()) rfl).trans ?_
  refine (ex_aload_n (x := 0) rfl).trans ?_
  refine (ex_lload_n (x := y1) rfl).trans ?_
  refine (ex_inv_v (As := [.ref 0, .long y1]) (rest := []) rfl rfl).trans (ex_bnd fun u1 => ?_)
  refine (ex_aload_n (x := 0) rfl).trans ?_
  refine (ex_lconst).trans ?_
  refine (ex_inv_v (As := [.ref 0, .long (1 : Int64)]) (rest := []) rfl rfl).trans (ex_bnd fun u2 => ?_)
  refine (ex_iconst).trans ?_
  refine (ex_istore_n (L2 := [.ref 0, .long y1, .null, .int (0 : Int32), .null, .null, .null, .null, .null]) rfl).trans ?_
  exact rfl
set_option maxRecDepth 100000 in
set_option maxHeartbeats 4000000 in
theorem rp_15_h1 (d n : Nat) (σ : mm_S) (y1 : Int64) (x3 : Int32) : mm_ex sr (rG d) 0 rp_15_l (n + 14) rp_15_r1 [.ref 0, .long y1, .null, .int x3, .null, .null, .null, .null, .null] [] σ = (if (σ.1 0 20) ≤ x3 then (some (0, 0, σ)) else (if mm_in x3 16 then (mm_ex sr (rG d) 0 rp_15_l (n + 0) rp_15_r2 [.ref 0, .long y1, .null, .int x3, .int (((σ.2 17 (x3).toNatClampNeg) &&& (31 : Int64))).toInt32, .int (0 : Int32), .null, .null, .null] [] σ) else none)) := by
  refine (ex_iload_n (x := x3) rfl).trans ?_
  refine (ex_aload_n (x := 0) rfl).trans ?_
  refine (ex_get (u := .int (σ.1 0 20)) rfl).trans ?_
  refine (ex_ic_ge (p := 99) (q := rp_15_r5) rfl).trans (ex_ite ?_ ?_)
  · exact ex_return
  · refine (ex_aload_n (x := 0) rfl).trans ?_
    refine (ex_get (u := .ref 17) rfl).trans ?_
    refine (ex_iload_n (x := x3) rfl).trans ?_
    refine (ex_laload (z := 16) rfl).trans (ex_ite ?_ rfl)
    refine (ex_ldc2_w).trans ?_
    refine (ex_land).trans ?_
    refine (ex_l2i).trans ?_
    refine (ex_istore (L2 := [.ref 0, .long y1, .null, .int x3, .int (((σ.2 17 (x3).toNatClampNeg) &&& (31 : Int64))).toInt32, .null, .null, .null, .null]) rfl).trans ?_
    refine (ex_iconst).trans ?_
    refine (ex_istore (L2 := [.ref 0, .long y1, .null, .int x3, .int (((σ.2 17 (x3).toNatClampNeg) &&& (31 : Int64))).toInt32, .int (0 : Int32), .null, .null, .null]) rfl).trans ?_
    exact rfl
set_option maxRecDepth 100000 in
set_option maxHeartbeats 4000000 in
theorem rp_15_h2 (d n : Nat) (σ : mm_S) (y1 : Int64) (x3 : Int32) (x4 : Int32) (x5 : Int32) : mm_ex sr (rG d) 0 rp_15_l (n + 28) rp_15_r2 [.ref 0, .long y1, .null, .int x3, .int x4, .int x5, .null, .null, .null] [] σ = (if (2 : Int32) ≤ x5 then (mm_ex sr (rG d) 0 rp_15_l (n + 23) rp_15_r1 [.ref 0, .long y1, .null, .int (x3 + (1 : Int32)), .int x4, .int x5, .null, .null, .null] [] σ) else (if mm_in (((2 : Int32) * x4) + x5) 64 then (if (σ.1 4 ((((2 : Int32) * x4) + x5)).toNatClampNeg) = 0 then (mm_ex sr (rG d) 0 rp_15_l (n + 12) rp_15_r2 [.ref 0, .long y1, .null, .int x3, .int x4, .int (x5 + (1 : Int32)), .int (σ.1 4 ((((2 : Int32) * x4) + x5)).toNatClampNeg), .null, .null] [] σ) else (if mm_in x3 16 then ((rG d 14 [.ref 0, .long ((σ.1 4 ((((2 : Int32) * x4) + x5)).toNatClampNeg)).toInt64, .long (σ.2 17 (x3).toNatClampNeg)] σ).bind fun u1 => ((rG d 13 [.ref 0, .long u1.2.1] u1.2.2).bind fun u2 => (mm_ex sr (rG d) 0 rp_15_l (n + 0) rp_15_r2 [.ref 0, .long y1, .null, .int x3, .int x4, .int (x5 + (1 : Int32)), .int (σ.1 4 ((((2 : Int32) * x4) + x5)).toNatClampNeg), .long u1.2.1, .null] [] u2.2.2))) else none)) else none)) := by
  refine (ex_iload (x := x5) rfl).trans ?_
  refine (ex_iconst).trans ?_
  refine (ex_ic_ge (p := 93) (q := rp_15_r4) rfl).trans (ex_ite ?_ ?_)
  · refine (ex_iinc (L2 := [.ref 0, .long y1, .null, .int (x3 + (1 : Int32)), .int x4, .int x5, .null, .null, .null]) rfl rfl).trans ?_
    refine (ex_goto (p := 17) (q := rp_15_r1) rfl).trans ?_
    exact rfl
  · refine (ex_aload_n (x := 0) rfl).trans ?_
    refine (ex_get (u := .ref 4) rfl).trans ?_
    refine (ex_iconst).trans ?_
    refine (ex_iload (x := x4) rfl).trans ?_
    refine (ex_imul).trans ?_
    refine (ex_iload (x := x5) rfl).trans ?_
    refine (ex_iadd).trans ?_
    refine (ex_iaload (z := 64) rfl).trans (ex_ite ?_ rfl)
    refine (ex_istore (L2 := [.ref 0, .long y1, .null, .int x3, .int x4, .int x5, .int (σ.1 4 ((((2 : Int32) * x4) + x5)).toNatClampNeg), .null, .null]) rfl).trans ?_
    refine (ex_iload (x := (σ.1 4 ((((2 : Int32) * x4) + x5)).toNatClampNeg)) rfl).trans ?_
    refine (ex_if_eq (p := 87) (q := rp_15_r3) rfl).trans (ex_ite ?_ ?_)
    · refine (ex_iinc (L2 := [.ref 0, .long y1, .null, .int x3, .int x4, .int (x5 + (1 : Int32)), .int (σ.1 4 ((((2 : Int32) * x4) + x5)).toNatClampNeg), .null, .null]) rfl rfl).trans ?_
      refine (ex_goto (p := 41) (q := rp_15_r2) rfl).trans ?_
      exact rfl
    · refine (ex_aload_n (x := 0) rfl).trans ?_
      refine (ex_iload (x := (σ.1 4 ((((2 : Int32) * x4) + x5)).toNatClampNeg)) rfl).trans ?_
      refine (ex_i2l).trans ?_
      refine (ex_aload_n (x := 0) rfl).trans ?_
      refine (ex_get (u := .ref 17) rfl).trans ?_
      refine (ex_iload_n (x := x3) rfl).trans ?_
      refine (ex_laload (z := 16) rfl).trans (ex_ite ?_ rfl)
      refine (ex_inv_l (As := [.ref 0, .long ((σ.1 4 ((((2 : Int32) * x4) + x5)).toNatClampNeg)).toInt64, .long (σ.2 17 (x3).toNatClampNeg)]) (rest := []) rfl rfl).trans (ex_bnd fun u1 => ?_)
      refine (ex_lstore (L2 := [.ref 0, .long y1, .null, .int x3, .int x4, .int x5, .int (σ.1 4 ((((2 : Int32) * x4) + x5)).toNatClampNeg), .long u1.2.1, .null]) rfl).trans ?_
      refine (ex_aload_n (x := 0) rfl).trans ?_
      refine (ex_lload (x := u1.2.1) rfl).trans ?_
      refine (ex_inv_v (As := [.ref 0, .long u1.2.1]) (rest := []) rfl rfl).trans (ex_bnd fun u2 => ?_)
      refine (ex_iinc (L2 := [.ref 0, .long y1, .null, .int x3, .int x4, .int (x5 + (1 : Int32)), .int (σ.1 4 ((((2 : Int32) * x4) + x5)).toNatClampNeg), .long u1.2.1, .null]) rfl rfl).trans ?_
      refine (ex_goto (p := 41) (q := rp_15_r2) rfl).trans ?_
      exact rfl
-- 16: WiringContainerModel.ask(JJ)V
set_option maxRecDepth 100000 in
set_option maxHeartbeats 4000000 in
theorem rp_16_g (d : Nat) (σ : mm_S) (y1 : Int64) (y3 : Int64) : rG (d + 1) 16 [.ref 0, .long y1, .long y3] σ = (if mm_in (σ.1 0 23) 64 then (if mm_in (σ.1 0 23) 64 then (some (0, 0, ((mm_w σ.1 0 23 ((σ.1 0 23) + (1 : Int32))), (mm_w (mm_w σ.2 18 ((σ.1 0 23)).toNatClampNeg y1) 19 ((σ.1 0 23)).toNatClampNeg y3)))) else none) else none) := by
  refine (mm_entry 99999981 19 (maxL := 5) (labs := rp_16_l) (rows := rp_16_r0) (L := [.ref 0, .long y1, .null, .long y3, .null]) (rk := 0) rfl rfl rfl rfl rfl rfl).trans ?_
  refine (ex_aload_n (x := 0) rfl).trans ?_
  refine (ex_get (u := .ref 18) rfl).trans ?_
  refine (ex_aload_n (x := 0) rfl).trans ?_
  refine (ex_get (u := .int (σ.1 0 23)) rfl).trans ?_
  refine (ex_lload_n (x := y1) rfl).trans ?_
  refine (ex_lastore (z := 64) rfl).trans (ex_ite ?_ rfl)
  refine (ex_aload_n (x := 0) rfl).trans ?_
  refine (ex_get (u := .ref 19) rfl).trans ?_
  refine (ex_aload_n (x := 0) rfl).trans ?_
  refine (ex_get (u := .int (σ.1 0 23)) rfl).trans ?_
  refine (ex_lload_n (x := y3) rfl).trans ?_
  refine (ex_lastore (z := 64) rfl).trans (ex_ite ?_ rfl)
  refine (ex_aload_n (x := 0) rfl).trans ?_
  refine (ex_dup).trans ?_
  refine (ex_get (u := .int (σ.1 0 23)) rfl).trans ?_
  refine (ex_iconst).trans ?_
  refine (ex_iadd).trans ?_
  refine (ex_put (u := ()) rfl).trans ?_
  exact ex_return
-- 17: WiringContainerModel.met(JJ)Z
set_option maxRecDepth 100000 in
set_option maxHeartbeats 4000000 in
theorem rp_17_g (d : Nat) (σ : mm_S) (y1 : Int64) (y3 : Int64) : rG (d + 1) 17 [.ref 0, .long y1, .long y3] σ = ((rG d 15 [.ref 0, .long y3] ((mm_w σ.1 0 23 (0 : Int32)), σ.2)).bind fun u1 => (mm_ex sr (rG d) 3 rp_17_l (99999992 + 0) rp_17_r1 [.ref 0, .long y1, .null, .long y3, .null, .int (0 : Int32), .null, .null, .null, .null, .null, .null, .null, .null] [] u1.2.2)) := by
  refine (mm_entry 99999992 8 (maxL := 14) (labs := rp_17_l) (rows := rp_17_r0) (L := [.ref 0, .long y1, .null, .long y3, .null, .null, .null, .null, .null, .null, .null, .null, .null, .null]) (rk := 3) rfl rfl rfl rfl rfl rfl).trans ?_
  refine (ex_aload_n (x := 0) rfl).trans ?_
  refine (ex_iconst).trans ?_
  refine (ex_put (u := ()) rfl).trans ?_
  refine (ex_aload_n (x := 0) rfl).trans ?_
  refine (ex_lload_n (x := y3) rfl).trans ?_
  refine (ex_inv_v (As := [.ref 0, .long y3]) (rest := []) rfl rfl).trans (ex_bnd fun u1 => ?_)
  refine (ex_iconst).trans ?_
  refine (ex_istore (L2 := [.ref 0, .long y1, .null, .long y3, .null, .int (0 : Int32), .null, .null, .null, .null, .null, .null, .null, .null]) rfl).trans ?_
  exact rfl
set_option maxRecDepth 100000 in
set_option maxHeartbeats 4000000 in
theorem rp_17_h1 (d n : Nat) (σ : mm_S) (y1 : Int64) (y3 : Int64) (x5 : Int32) : mm_ex sr (rG d) 3 rp_17_l (n + 13) rp_17_r1 [.ref 0, .long y1, .null, .long y3, .null, .int x5, .null, .null, .null, .null, .null, .null, .null, .null] [] σ = (if (σ.1 0 20) ≤ x5 then (mm_ex sr (rG d) 3 rp_17_l (n + 7) rp_17_r3 [.ref 0, .long y1, .null, .long y3, .null, .int (0 : Int32), .null, .null, .null, .null, .null, .null, .null, .null] [] σ) else (if mm_in x5 16 then ((rG d 16 [.ref 0, .long y1, .long (σ.2 17 (x5).toNatClampNeg)] σ).bind fun u1 => (mm_ex sr (rG d) 3 rp_17_l (n + 0) rp_17_r1 [.ref 0, .long y1, .null, .long y3, .null, .int (x5 + (1 : Int32)), .null, .null, .null, .null, .null, .null, .null, .null] [] u1.2.2)) else none)) := by
  refine (ex_iload (x := x5) rfl).trans ?_
  refine (ex_aload_n (x := 0) rfl).trans ?_
  refine (ex_get (u := .int (σ.1 0 20)) rfl).trans ?_
  refine (ex_ic_ge (p := 40) (q := rp_17_r2) rfl).trans (ex_ite ?_ ?_)
  · refine (ex_iconst).trans ?_
    refine (ex_istore (L2 := [.ref 0, .long y1, .null, .long y3, .null, .int (0 : Int32), .null, .null, .null, .null, .null, .null, .null, .null]) rfl).trans ?_
    exact rfl
  · refine (ex_aload_n (x := 0) rfl).trans ?_
    refine (ex_lload_n (x := y1) rfl).trans ?_
    refine (ex_aload_n (x := 0) rfl).trans ?_
    refine (ex_get (u := .ref 17) rfl).trans ?_
    refine (ex_iload (x := x5) rfl).trans ?_
    refine (ex_laload (z := 16) rfl).trans (ex_ite ?_ rfl)
    refine (ex_inv_v (As := [.ref 0, .long y1, .long (σ.2 17 (x5).toNatClampNeg)]) (rest := []) rfl rfl).trans (ex_bnd fun u1 => ?_)
    refine (ex_iinc (L2 := [.ref 0, .long y1, .null, .long y3, .null, .int (x5 + (1 : Int32)), .null, .null, .null, .null, .null, .null, .null, .null]) rfl rfl).trans ?_
    refine (ex_goto (p := 13) (q := rp_17_r1) rfl).trans ?_
    exact rfl
set_option maxRecDepth 100000 in
set_option maxHeartbeats 4000000 in
theorem rp_17_h3 (d n : Nat) (σ : mm_S) (y1 : Int64) (y3 : Int64) (x5 : Int32) : mm_ex sr (rG d) 3 rp_17_l (n + 46) rp_17_r3 [.ref 0, .long y1, .null, .long y3, .null, .int x5, .null, .null, .null, .null, .null, .null, .null, .null] [] σ = (if (1000000 : Int32) ≤ x5 then (some ((0 : Int32), 0, σ)) else (if (σ.1 0 23) ≤ 0 then (some ((0 : Int32), 0, σ)) else (if mm_in ((mm_w σ.1 0 23 ((σ.1 0 23) - (1 : Int32))) 0 23) 64 then (if mm_in ((mm_w σ.1 0 23 ((σ.1 0 23) - (1 : Int32))) 0 23) 64 then (if mm_in ((mm_w σ.1 0 23 ((σ.1 0 23) - (1 : Int32))) 0 23) 64 then (if mm_in ((mm_w σ.1 0 23 ((σ.1 0 23) - (1 : Int32))) 0 23) 64 then (if (lg_cmp ((σ.2 18 (((mm_w σ.1 0 23 ((σ.1 0 23) - (1 : Int32))) 0 23)).toNatClampNeg) &&& (31 : Int64)) ((σ.2 19 (((mm_w σ.1 0 23 ((σ.1 0 23) - (1 : Int32))) 0 23)).toNatClampNeg) &&& (31 : Int64))) = 0 then (mm_ex sr (rG d) 3 rp_17_l (n + 0) rp_17_r5 [.ref 0, .long y1, .null, .long y3, .null, .int x5, .long ((σ.2 18 (((mm_w σ.1 0 23 ((σ.1 0 23) - (1 : Int32))) 0 23)).toNatClampNeg) >>> (((5 : Int32)).toInt64 &&& 63)), .null, .long ((σ.2 19 (((mm_w σ.1 0 23 ((σ.1 0 23) - (1 : Int32))) 0 23)).toNatClampNeg) >>> (((5 : Int32)).toInt64 &&& 63)), .null, .null, .null, .null, .null] [.int (1 : Int32)] ((mm_w σ.1 0 23 ((σ.1 0 23) - (1 : Int32))), σ.2)) else (mm_ex sr (rG d) 3 rp_17_l (n + 1) rp_17_r5 [.ref 0, .long y1, .null, .long y3, .null, .int x5, .long ((σ.2 18 (((mm_w σ.1 0 23 ((σ.1 0 23) - (1 : Int32))) 0 23)).toNatClampNeg) >>> (((5 : Int32)).toInt64 &&& 63)), .null, .long ((σ.2 19 (((mm_w σ.1 0 23 ((σ.1 0 23) - (1 : Int32))) 0 23)).toNatClampNeg) >>> (((5 : Int32)).toInt64 &&& 63)), .null, .null, .null, .null, .null] [.int (0 : Int32)] ((mm_w σ.1 0 23 ((σ.1 0 23) - (1 : Int32))), σ.2))) else none) else none) else none) else none))) := by
  refine (ex_iload (x := x5) rfl).trans ?_
  refine (ex_ldc).trans ?_
  refine (ex_ic_ge (p := 316) (q := rp_17_r18) rfl).trans (ex_ite ?_ ?_)
  · refine (ex_iconst).trans ?_
    exact ex_zreturn0
  · refine (ex_aload_n (x := 0) rfl).trans ?_
    refine (ex_get (u := .int (σ.1 0 23)) rfl).trans ?_
    refine (ex_if_le (p := 316) (q := rp_17_r18) rfl).trans (ex_ite ?_ ?_)
    · refine (ex_iconst).trans ?_
      exact ex_zreturn0
    · refine (ex_aload_n (x := 0) rfl).trans ?_
      refine (ex_dup).trans ?_
      refine (ex_get (u := .int (σ.1 0 23)) rfl).trans ?_
      refine (ex_iconst).trans ?_
      refine (ex_isub).trans ?_
      refine (ex_put (u := ()) rfl).trans ?_
      refine (ex_aload_n (x := 0) rfl).trans ?_
      refine (ex_get (u := .ref 18) rfl).trans ?_
      refine (ex_aload_n (x := 0) rfl).trans ?_
      refine (ex_get (u := .int ((mm_w σ.1 0 23 ((σ.1 0 23) - (1 : Int32))) 0 23)) rfl).trans ?_
      refine (ex_laload (z := 64) rfl).trans (ex_ite ?_ rfl)
      refine (ex_iconst).trans ?_
      refine (ex_lshr).trans ?_
      refine (ex_lstore (L2 := [.ref 0, .long y1, .null, .long y3, .null, .int x5, .long ((σ.2 18 (((mm_w σ.1 0 23 ((σ.1 0 23) - (1 : Int32))) 0 23)).toNatClampNeg) >>> (((5 : Int32)).toInt64 &&& 63)), .null, .null, .null, .null, .null, .null, .null]) rfl).trans ?_
      refine (ex_aload_n (x := 0) rfl).trans ?_
      refine (ex_get (u := .ref 19) rfl).trans ?_
      refine (ex_aload_n (x := 0) rfl).trans ?_
      refine (ex_get (u := .int ((mm_w σ.1 0 23 ((σ.1 0 23) - (1 : Int32))) 0 23)) rfl).trans ?_
      refine (ex_laload (z := 64) rfl).trans (ex_ite ?_ rfl)
      refine (ex_iconst).trans ?_
      refine (ex_lshr).trans ?_
      refine (ex_lstore (L2 := [.ref 0, .long y1, .null, .long y3, .null, .int x5, .long ((σ.2 18 (((mm_w σ.1 0 23 ((σ.1 0 23) - (1 : Int32))) 0 23)).toNatClampNeg) >>> (((5 : Int32)).toInt64 &&& 63)), .null, .long ((σ.2 19 (((mm_w σ.1 0 23 ((σ.1 0 23) - (1 : Int32))) 0 23)).toNatClampNeg) >>> (((5 : Int32)).toInt64 &&& 63)), .null, .null, .null, .null, .null]) rfl).trans ?_
      refine (ex_aload_n (x := 0) rfl).trans ?_
      refine (ex_get (u := .ref 18) rfl).trans ?_
      refine (ex_aload_n (x := 0) rfl).trans ?_
      refine (ex_get (u := .int ((mm_w σ.1 0 23 ((σ.1 0 23) - (1 : Int32))) 0 23)) rfl).trans ?_
      refine (ex_laload (z := 64) rfl).trans (ex_ite ?_ rfl)
      refine (ex_ldc2_w).trans ?_
      refine (ex_land).trans ?_
      refine (ex_aload_n (x := 0) rfl).trans ?_
      refine (ex_get (u := .ref 19) rfl).trans ?_
      refine (ex_aload_n (x := 0) rfl).trans ?_
      refine (ex_get (u := .int ((mm_w σ.1 0 23 ((σ.1 0 23) - (1 : Int32))) 0 23)) rfl).trans ?_
      refine (ex_laload (z := 64) rfl).trans (ex_ite ?_ rfl)
      refine (ex_ldc2_w).trans ?_
      refine (ex_land).trans ?_
      refine (ex_lcmp).trans ?_
      refine (ex_if_ne (p := 127) (q := rp_17_r4) rfl).trans (ex_ite ?_ ?_)
      · refine (ex_iconst).trans ?_
        refine (ex_goto (p := 128) (q := rp_17_r5) rfl).trans ?_
        exact rfl
      · refine (ex_iconst).trans ?_
        exact rfl
set_option maxRecDepth 100000 in
set_option maxHeartbeats 4000000 in
theorem rp_17_h5 (d n : Nat) (σ : mm_S) (y1 : Int64) (y3 : Int64) (x5 : Int32) (y6 : Int64) (y8 : Int64) (xs0 : Int32) : mm_ex sr (rG d) 3 rp_17_l (n + 38) rp_17_r5 [.ref 0, .long y1, .null, .long y3, .null, .int x5, .long y6, .null, .long y8, .null, .null, .null, .null, .null] [.int xs0] σ = (if (lg_cmp y6 (0 : Int64)) = 0 then (if (lg_cmp y8 (0 : Int64)) = 0 then (if (lg_cmp y6 (0 : Int64)) = 0 then (mm_ex sr (rG d) 3 rp_17_l (n + 22) rp_17_r10 [.ref 0, .long y1, .null, .long y3, .null, .int x5, .long y6, .null, .long y8, .null, .int xs0, .int (1 : Int32), .null, .null] [] σ) else (if (lg_cmp y8 (0 : Int64)) = 0 then (mm_ex sr (rG d) 3 rp_17_l (n + 18) rp_17_r10 [.ref 0, .long y1, .null, .long y3, .null, .int x5, .long y6, .null, .long y8, .null, .int xs0, .int (1 : Int32), .null, .null] [] σ) else (mm_ex sr (rG d) 3 rp_17_l (n + 16) rp_17_r11 [.ref 0, .long y1, .null, .long y3, .null, .int x5, .long y6, .null, .long y8, .null, .int xs0, .int (1 : Int32), .null, .null] [.int (1 : Int32)] σ))) else (if (lg_cmp y8 (1 : Int64)) = 0 then (if (lg_cmp y6 (0 : Int64)) = 0 then (mm_ex sr (rG d) 3 rp_17_l (n + 18) rp_17_r10 [.ref 0, .long y1, .null, .long y3, .null, .int x5, .long y6, .null, .long y8, .null, .int xs0, .int (1 : Int32), .null, .null] [] σ) else (if (lg_cmp y8 (0 : Int64)) = 0 then (mm_ex sr (rG d) 3 rp_17_l (n + 14) rp_17_r10 [.ref 0, .long y1, .null, .long y3, .null, .int x5, .long y6, .null, .long y8, .null, .int xs0, .int (1 : Int32), .null, .null] [] σ) else (mm_ex sr (rG d) 3 rp_17_l (n + 12) rp_17_r11 [.ref 0, .long y1, .null, .long y3, .null, .int x5, .long y6, .null, .long y8, .null, .int xs0, .int (1 : Int32), .null, .null] [.int (1 : Int32)] σ))) else (if (lg_cmp y8 (31 : Int64)) = 0 then (if (lg_cmp y6 (0 : Int64)) = 0 then (mm_ex sr (rG d) 3 rp_17_l (n + 14) rp_17_r10 [.ref 0, .long y1, .null, .long y3, .null, .int x5, .long y6, .null, .long y8, .null, .int xs0, .int (1 : Int32), .null, .null] [] σ) else (if (lg_cmp y8 (0 : Int64)) = 0 then (mm_ex sr (rG d) 3 rp_17_l (n + 10) rp_17_r10 [.ref 0, .long y1, .null, .long y3, .null, .int x5, .long y6, .null, .long y8, .null, .int xs0, .int (1 : Int32), .null, .null] [] σ) else (mm_ex sr (rG d) 3 rp_17_l (n + 8) rp_17_r11 [.ref 0, .long y1, .null, .long y3, .null, .int x5, .long y6, .null, .long y8, .null, .int xs0, .int (1 : Int32), .null, .null] [.int (1 : Int32)] σ))) else (if (lg_cmp y8 (0 : Int64)) = 0 then (if (lg_cmp y6 (1 : Int64)) = 0 then (if (lg_cmp y6 (0 : Int64)) = 0 then (mm_ex sr (rG d) 3 rp_17_l (n + 6) rp_17_r10 [.ref 0, .long y1, .null, .long y3, .null, .int x5, .long y6, .null, .long y8, .null, .int xs0, .int (1 : Int32), .null, .null] [] σ) else (if (lg_cmp y8 (0 : Int64)) = 0 then (mm_ex sr (rG d) 3 rp_17_l (n + 2) rp_17_r10 [.ref 0, .long y1, .null, .long y3, .null, .int x5, .long y6, .null, .long y8, .null, .int xs0, .int (1 : Int32), .null, .null] [] σ) else (mm_ex sr (rG d) 3 rp_17_l (n + 0) rp_17_r11 [.ref 0, .long y1, .null, .long y3, .null, .int x5, .long y6, .null, .long y8, .null, .int xs0, .int (1 : Int32), .null, .null] [.int (1 : Int32)] σ))) else (if (lg_cmp y6 (0 : Int64)) = 0 then (mm_ex sr (rG d) 3 rp_17_l (n + 7) rp_17_r10 [.ref 0, .long y1, .null, .long y3, .null, .int x5, .long y6, .null, .long y8, .null, .int xs0, .int (0 : Int32), .null, .null] [] σ) else (if (lg_cmp y8 (0 : Int64)) = 0 then (mm_ex sr (rG d) 3 rp_17_l (n + 3) rp_17_r10 [.ref 0, .long y1, .null, .long y3, .null, .int x5, .long y6, .null, .long y8, .null, .int xs0, .int (0 : Int32), .null, .null] [] σ) else (mm_ex sr (rG d) 3 rp_17_l (n + 1) rp_17_r11 [.ref 0, .long y1, .null, .long y3, .null, .int x5, .long y6, .null, .long y8, .null, .int xs0, .int (0 : Int32), .null, .null] [.int (1 : Int32)] σ)))) else (if (lg_cmp y6 (0 : Int64)) = 0 then (mm_ex sr (rG d) 3 rp_17_l (n + 11) rp_17_r10 [.ref 0, .long y1, .null, .long y3, .null, .int x5, .long y6, .null, .long y8, .null, .int xs0, .int (0 : Int32), .null, .null] [] σ) else (if (lg_cmp y8 (0 : Int64)) = 0 then (mm_ex sr (rG d) 3 rp_17_l (n + 7) rp_17_r10 [.ref 0, .long y1, .null, .long y3, .null, .int x5, .long y6, .null, .long y8, .null, .int xs0, .int (0 : Int32), .null, .null] [] σ) else (mm_ex sr (rG d) 3 rp_17_l (n + 5) rp_17_r11 [.ref 0, .long y1, .null, .long y3, .null, .int x5, .long y6, .null, .long y8, .null, .int xs0, .int (0 : Int32), .null, .null] [.int (1 : Int32)] σ))))))) else (if (lg_cmp y8 (0 : Int64)) = 0 then (if (lg_cmp y6 (1 : Int64)) = 0 then (if (lg_cmp y6 (0 : Int64)) = 0 then (mm_ex sr (rG d) 3 rp_17_l (n + 18) rp_17_r10 [.ref 0, .long y1, .null, .long y3, .null, .int x5, .long y6, .null, .long y8, .null, .int xs0, .int (1 : Int32), .null, .null] [] σ) else (if (lg_cmp y8 (0 : Int64)) = 0 then (mm_ex sr (rG d) 3 rp_17_l (n + 14) rp_17_r10 [.ref 0, .long y1, .null, .long y3, .null, .int x5, .long y6, .null, .long y8, .null, .int xs0, .int (1 : Int32), .null, .null] [] σ) else (mm_ex sr (rG d) 3 rp_17_l (n + 12) rp_17_r11 [.ref 0, .long y1, .null, .long y3, .null, .int x5, .long y6, .null, .long y8, .null, .int xs0, .int (1 : Int32), .null, .null] [.int (1 : Int32)] σ))) else (if (lg_cmp y6 (0 : Int64)) = 0 then (mm_ex sr (rG d) 3 rp_17_l (n + 19) rp_17_r10 [.ref 0, .long y1, .null, .long y3, .null, .int x5, .long y6, .null, .long y8, .null, .int xs0, .int (0 : Int32), .null, .null] [] σ) else (if (lg_cmp y8 (0 : Int64)) = 0 then (mm_ex sr (rG d) 3 rp_17_l (n + 15) rp_17_r10 [.ref 0, .long y1, .null, .long y3, .null, .int x5, .long y6, .null, .long y8, .null, .int xs0, .int (0 : Int32), .null, .null] [] σ) else (mm_ex sr (rG d) 3 rp_17_l (n + 13) rp_17_r11 [.ref 0, .long y1, .null, .long y3, .null, .int x5, .long y6, .null, .long y8, .null, .int xs0, .int (0 : Int32), .null, .null] [.int (1 : Int32)] σ)))) else (if (lg_cmp y6 (0 : Int64)) = 0 then (mm_ex sr (rG d) 3 rp_17_l (n + 23) rp_17_r10 [.ref 0, .long y1, .null, .long y3, .null, .int x5, .long y6, .null, .long y8, .null, .int xs0, .int (0 : Int32), .null, .null] [] σ) else (if (lg_cmp y8 (0 : Int64)) = 0 then (mm_ex sr (rG d) 3 rp_17_l (n + 19) rp_17_r10 [.ref 0, .long y1, .null, .long y3, .null, .int x5, .long y6, .null, .long y8, .null, .int xs0, .int (0 : Int32), .null, .null] [] σ) else (mm_ex sr (rG d) 3 rp_17_l (n + 17) rp_17_r11 [.ref 0, .long y1, .null, .long y3, .null, .int x5, .long y6, .null, .long y8, .null, .int xs0, .int (0 : Int32), .null, .null] [.int (1 : Int32)] σ))))) := by
  refine (ex_istore (L2 := [.ref 0, .long y1, .null, .long y3, .null, .int x5, .long y6, .null, .long y8, .null, .int xs0, .null, .null, .null]) rfl).trans ?_
  refine (ex_lload (x := y6) rfl).trans ?_
  refine (ex_lconst).trans ?_
  refine (ex_lcmp).trans ?_
  refine (ex_if_ne (p := 160) (q := rp_17_r6) rfl).trans (ex_ite ?_ ?_)
  · refine (ex_lload (x := y8) rfl).trans ?_
    refine (ex_lconst).trans ?_
    refine (ex_lcmp).trans ?_
    refine (ex_if_eq (p := 174) (q := rp_17_r7) rfl).trans (ex_ite ?_ ?_)
    · refine (ex_iconst).trans ?_
      refine (ex_goto (p := 179) (q := rp_17_r9) rfl).trans ?_
      refine (ex_istore (L2 := [.ref 0, .long y1, .null, .long y3, .null, .int x5, .long y6, .null, .long y8, .null, .int xs0, .int (1 : Int32), .null, .null]) rfl).trans ?_
      refine (ex_lload (x := y6) rfl).trans ?_
      refine (ex_lconst).trans ?_
      refine (ex_lcmp).trans ?_
      refine (ex_if_eq (p := 199) (q := rp_17_r10) rfl).trans (ex_ite ?_ ?_)
      · exact rfl
      · refine (ex_lload (x := y8) rfl).trans ?_
        refine (ex_lconst).trans ?_
        refine (ex_lcmp).trans ?_
        refine (ex_if_eq (p := 199) (q := rp_17_r10) rfl).trans (ex_ite ?_ ?_)
        · exact rfl
        · refine (ex_iconst).trans ?_
          refine (ex_goto (p := 200) (q := rp_17_r11) rfl).trans ?_
          exact rfl
    · refine (ex_lload (x := y8) rfl).trans ?_
      refine (ex_lconst).trans ?_
      refine (ex_lcmp).trans ?_
      refine (ex_if_eq (p := 174) (q := rp_17_r7) rfl).trans (ex_ite ?_ ?_)
      · refine (ex_iconst).trans ?_
        refine (ex_goto (p := 179) (q := rp_17_r9) rfl).trans ?_
        refine (ex_istore (L2 := [.ref 0, .long y1, .null, .long y3, .null, .int x5, .long y6, .null, .long y8, .null, .int xs0, .int (1 : Int32), .null, .null]) rfl).trans ?_
        refine (ex_lload (x := y6) rfl).trans ?_
        refine (ex_lconst).trans ?_
        refine (ex_lcmp).trans ?_
        refine (ex_if_eq (p := 199) (q := rp_17_r10) rfl).trans (ex_ite ?_ ?_)
        · exact rfl
        · refine (ex_lload (x := y8) rfl).trans ?_
          refine (ex_lconst).trans ?_
          refine (ex_lcmp).trans ?_
          refine (ex_if_eq (p := 199) (q := rp_17_r10) rfl).trans (ex_ite ?_ ?_)
          · exact rfl
          · refine (ex_iconst).trans ?_
            refine (ex_goto (p := 200) (q := rp_17_r11) rfl).trans ?_
            exact rfl
      · refine (ex_lload (x := y8) rfl).trans ?_
        refine (ex_ldc2_w).trans ?_
        refine (ex_lcmp).trans ?_
        refine (ex_if_eq (p := 174) (q := rp_17_r7) rfl).trans (ex_ite ?_ ?_)
        · refine (ex_iconst).trans ?_
          refine (ex_goto (p := 179) (q := rp_17_r9) rfl).trans ?_
          refine (ex_istore (L2 := [.ref 0, .long y1, .null, .long y3, .null, .int x5, .long y6, .null, .long y8, .null, .int xs0, .int (1 : Int32), .null, .null]) rfl).trans ?_
          refine (ex_lload (x := y6) rfl).trans ?_
          refine (ex_lconst).trans ?_
          refine (ex_lcmp).trans ?_
          refine (ex_if_eq (p := 199) (q := rp_17_r10) rfl).trans (ex_ite ?_ ?_)
          · exact rfl
          · refine (ex_lload (x := y8) rfl).trans ?_
            refine (ex_lconst).trans ?_
            refine (ex_lcmp).trans ?_
            refine (ex_if_eq (p := 199) (q := rp_17_r10) rfl).trans (ex_ite ?_ ?_)
            · exact rfl
            · refine (ex_iconst).trans ?_
              refine (ex_goto (p := 200) (q := rp_17_r11) rfl).trans ?_
              exact rfl
        · refine (ex_lload (x := y8) rfl).trans ?_
          refine (ex_lconst).trans ?_
          refine (ex_lcmp).trans ?_
          refine (ex_if_ne (p := 178) (q := rp_17_r8) rfl).trans (ex_ite ?_ ?_)
          · refine (ex_lload (x := y6) rfl).trans ?_
            refine (ex_lconst).trans ?_
            refine (ex_lcmp).trans ?_
            refine (ex_if_ne (p := 178) (q := rp_17_r8) rfl).trans (ex_ite ?_ ?_)
            · refine (ex_iconst).trans ?_
              refine (ex_goto (p := 179) (q := rp_17_r9) rfl).trans ?_
              refine (ex_istore (L2 := [.ref 0, .long y1, .null, .long y3, .null, .int x5, .long y6, .null, .long y8, .null, .int xs0, .int (1 : Int32), .null, .null]) rfl).trans ?_
              refine (ex_lload (x := y6) rfl).trans ?_
              refine (ex_lconst).trans ?_
              refine (ex_lcmp).trans ?_
              refine (ex_if_eq (p := 199) (q := rp_17_r10) rfl).trans (ex_ite ?_ ?_)
              · exact rfl
              · refine (ex_lload (x := y8) rfl).trans ?_
                refine (ex_lconst).trans ?_
                refine (ex_lcmp).trans ?_
                refine (ex_if_eq (p := 199) (q := rp_17_r10) rfl).trans (ex_ite ?_ ?_)
                · exact rfl
                · refine (ex_iconst).trans ?_
                  refine (ex_goto (p := 200) (q := rp_17_r11) rfl).trans ?_
                  exact rfl
            · refine (ex_iconst).trans ?_
              refine (ex_istore (L2 := [.ref 0, .long y1, .null, .long y3, .null, .int x5, .long y6, .null, .long y8, .null, .int xs0, .int (0 : Int32), .null, .null]) rfl).trans ?_
              refine (ex_lload (x := y6) rfl).trans ?_
              refine (ex_lconst).trans ?_
              refine (ex_lcmp).trans ?_
              refine (ex_if_eq (p := 199) (q := rp_17_r10) rfl).trans (ex_ite ?_ ?_)
              · exact rfl
              · refine (ex_lload (x := y8) rfl).trans ?_
                refine (ex_lconst).trans ?_
                refine (ex_lcmp).trans ?_
                refine (ex_if_eq (p := 199) (q := rp_17_r10) rfl).trans (ex_ite ?_ ?_)
                · exact rfl
                · refine (ex_iconst).trans ?_
                  refine (ex_goto (p := 200) (q := rp_17_r11) rfl).trans ?_
                  exact rfl
          · refine (ex_iconst).trans ?_
            refine (ex_istore (L2 := [.ref 0, .long y1, .null, .long y3, .null, .int x5, .long y6, .null, .long y8, .null, .int xs0, .int (0 : Int32), .null, .null]) rfl).trans ?_
            refine (ex_lload (x := y6) rfl).trans ?_
            refine (ex_lconst).trans ?_
            refine (ex_lcmp).trans ?_
            refine (ex_if_eq (p := 199) (q := rp_17_r10) rfl).trans (ex_ite ?_ ?_)
            · exact rfl
            · refine (ex_lload (x := y8) rfl).trans ?_
              refine (ex_lconst).trans ?_
              refine (ex_lcmp).trans ?_
              refine (ex_if_eq (p := 199) (q := rp_17_r10) rfl).trans (ex_ite ?_ ?_)
              · exact rfl
              · refine (ex_iconst).trans ?_
                refine (ex_goto (p := 200) (q := rp_17_r11) rfl).trans ?_
                exact rfl
  · refine (ex_lload (x := y8) rfl).trans ?_
    refine (ex_lconst).trans ?_
    refine (ex_lcmp).trans ?_
    refine (ex_if_ne (p := 178) (q := rp_17_r8) rfl).trans (ex_ite ?_ ?_)
    · refine (ex_lload (x := y6) rfl).trans ?_
      refine (ex_lconst).trans ?_
      refine (ex_lcmp).trans ?_
      refine (ex_if_ne (p := 178) (q := rp_17_r8) rfl).trans (ex_ite ?_ ?_)
      · refine (ex_iconst).trans ?_
        refine (ex_goto (p := 179) (q := rp_17_r9) rfl).trans ?_
        refine (ex_istore (L2 := [.ref 0, .long y1, .null, .long y3, .null, .int x5, .long y6, .null, .long y8, .null, .int xs0, .int (1 : Int32), .null, .null]) rfl).trans ?_
        refine (ex_lload (x := y6) rfl).trans ?_
        refine (ex_lconst).trans ?_
        refine (ex_lcmp).trans ?_
        refine (ex_if_eq (p := 199) (q := rp_17_r10) rfl).trans (ex_ite ?_ ?_)
        · exact rfl
        · refine (ex_lload (x := y8) rfl).trans ?_
          refine (ex_lconst).trans ?_
          refine (ex_lcmp).trans ?_
          refine (ex_if_eq (p := 199) (q := rp_17_r10) rfl).trans (ex_ite ?_ ?_)
          · exact rfl
          · refine (ex_iconst).trans ?_
            refine (ex_goto (p := 200) (q := rp_17_r11) rfl).trans ?_
            exact rfl
      · refine (ex_iconst).trans ?_
        refine (ex_istore (L2 := [.ref 0, .long y1, .null, .long y3, .null, .int x5, .long y6, .null, .long y8, .null, .int xs0, .int (0 : Int32), .null, .null]) rfl).trans ?_
        refine (ex_lload (x := y6) rfl).trans ?_
        refine (ex_lconst).trans ?_
        refine (ex_lcmp).trans ?_
        refine (ex_if_eq (p := 199) (q := rp_17_r10) rfl).trans (ex_ite ?_ ?_)
        · exact rfl
        · refine (ex_lload (x := y8) rfl).trans ?_
          refine (ex_lconst).trans ?_
          refine (ex_lcmp).trans ?_
          refine (ex_if_eq (p := 199) (q := rp_17_r10) rfl).trans (ex_ite ?_ ?_)
          · exact rfl
          · refine (ex_iconst).trans ?_
            refine (ex_goto (p := 200) (q := rp_17_r11) rfl).trans ?_
            exact rfl
    · refine (ex_iconst).trans ?_
      refine (ex_istore (L2 := [.ref 0, .long y1, .null, .long y3, .null, .int x5, .long y6, .null, .long y8, .null, .int xs0, .int (0 : Int32), .null, .null]) rfl).trans ?_
      refine (ex_lload (x := y6) rfl).trans ?_
      refine (ex_lconst).trans ?_
      refine (ex_lcmp).trans ?_
      refine (ex_if_eq (p := 199) (q := rp_17_r10) rfl).trans (ex_ite ?_ ?_)
      · exact rfl
      · refine (ex_lload (x := y8) rfl).trans ?_
        refine (ex_lconst).trans ?_
        refine (ex_lcmp).trans ?_
        refine (ex_if_eq (p := 199) (q := rp_17_r10) rfl).trans (ex_ite ?_ ?_)
        · exact rfl
        · refine (ex_iconst).trans ?_
          refine (ex_goto (p := 200) (q := rp_17_r11) rfl).trans ?_
          exact rfl
set_option maxRecDepth 100000 in
set_option maxHeartbeats 4000000 in
theorem rp_17_h10 (d n : Nat) (σ : mm_S) (y1 : Int64) (y3 : Int64) (x5 : Int32) (y6 : Int64) (y8 : Int64) (x10 : Int32) (x11 : Int32) : mm_ex sr (rG d) 3 rp_17_l (n + 1) rp_17_r10 [.ref 0, .long y1, .null, .long y3, .null, .int x5, .long y6, .null, .long y8, .null, .int x10, .int x11, .null, .null] [] σ = (mm_ex sr (rG d) 3 rp_17_l (n + 0) rp_17_r11 [.ref 0, .long y1, .null, .long y3, .null, .int x5, .long y6, .null, .long y8, .null, .int x10, .int x11, .null, .null] [.int (0 : Int32)] σ) := by
  refine (ex_iconst).trans ?_
  exact rfl
set_option maxRecDepth 100000 in
set_option maxHeartbeats 4000000 in
theorem rp_17_h11 (d n : Nat) (σ : mm_S) (y1 : Int64) (y3 : Int64) (x5 : Int32) (y6 : Int64) (y8 : Int64) (x10 : Int32) (x11 : Int32) (xs0 : Int32) : mm_ex sr (rG d) 3 rp_17_l (n + 17) rp_17_r11 [.ref 0, .long y1, .null, .long y3, .null, .int x5, .long y6, .null, .long y8, .null, .int x10, .int x11, .null, .null] [.int xs0] σ = (if x10 = 0 then (mm_ex sr (rG d) 3 rp_17_l (n + 14) rp_17_r13 [.ref 0, .long y1, .null, .long y3, .null, .int x5, .long y6, .null, .long y8, .null, .int x10, .int x11, .int xs0, .null] [] σ) else (if x11 = 0 then (if xs0 = 0 then (mm_ex sr (rG d) 3 rp_17_l (n + 10) rp_17_r13 [.ref 0, .long y1, .null, .long y3, .null, .int x5, .long y6, .null, .long y8, .null, .int x10, .int x11, .int xs0, .null] [] σ) else (if (lg_cmp y8 (31 : Int64)) = 0 then (some ((1 : Int32), 0, σ)) else (if (lg_cmp y6 (30 : Int64)) = 0 then (some ((1 : Int32), 0, σ)) else (mm_ex sr (rG d) 3 rp_17_l (n + 2) rp_17_r13 [.ref 0, .long y1, .null, .long y3, .null, .int x5, .long y6, .null, .long y8, .null, .int x10, .int x11, .int xs0, .null] [] σ)))) else (some ((1 : Int32), 0, σ)))) := by
  refine (ex_istore (L2 := [.ref 0, .long y1, .null, .long y3, .null, .int x5, .long y6, .null, .long y8, .null, .int x10, .int x11, .int xs0, .null]) rfl).trans ?_
  refine (ex_iload (x := x10) rfl).trans ?_
  refine (ex_if_eq (p := 237) (q := rp_17_r13) rfl).trans (ex_ite ?_ ?_)
  · exact rfl
  · refine (ex_iload (x := x11) rfl).trans ?_
    refine (ex_if_ne (p := 235) (q := rp_17_r12) rfl).trans (ex_ite ?_ ?_)
    · refine (ex_iload (x := xs0) rfl).trans ?_
      refine (ex_if_eq (p := 237) (q := rp_17_r13) rfl).trans (ex_ite ?_ ?_)
      · exact rfl
      · refine (ex_lload (x := y8) rfl).trans ?_
        refine (ex_ldc2_w).trans ?_
        refine (ex_lcmp).trans ?_
        refine (ex_if_eq (p := 235) (q := rp_17_r12) rfl).trans (ex_ite ?_ ?_)
        · refine (ex_iconst).trans ?_
          exact ex_zreturn1
        · refine (ex_lload (x := y6) rfl).trans ?_
          refine (ex_ldc2_w).trans ?_
          refine (ex_lcmp).trans ?_
          refine (ex_if_ne (p := 237) (q := rp_17_r13) rfl).trans (ex_ite ?_ ?_)
          · refine (ex_iconst).trans ?_
            exact ex_zreturn1
          · exact rfl
    · refine (ex_iconst).trans ?_
      exact ex_zreturn1
set_option maxRecDepth 100000 in
set_option maxHeartbeats 4000000 in
theorem rp_17_h13 (d n : Nat) (σ : mm_S) (y1 : Int64) (y3 : Int64) (x5 : Int32) (y6 : Int64) (y8 : Int64) (x10 : Int32) (x11 : Int32) (x12 : Int32) : mm_ex sr (rG d) 3 rp_17_l (n + 16) rp_17_r13 [.ref 0, .long y1, .null, .long y3, .null, .int x5, .long y6, .null, .long y8, .null, .int x10, .int x11, .int x12, .null] [] σ = (if x10 = 0 then (mm_ex sr (rG d) 3 rp_17_l (n + 12) rp_17_r3 [.ref 0, .long y1, .null, .long y3, .null, .int (x5 + (1 : Int32)), .long y6, .null, .long y8, .null, .int x10, .int x11, .int x12, .null] [] σ) else (if x12 = 0 then (mm_ex sr (rG d) 3 rp_17_l (n + 10) rp_17_r3 [.ref 0, .long y1, .null, .long y3, .null, .int (x5 + (1 : Int32)), .long y6, .null, .long y8, .null, .int x10, .int x11, .int x12, .null] [] σ) else (if (lg_cmp (y6 &&& (31 : Int64)) (29 : Int64)) = 0 then ((rG d 15 [.ref 0, .long y8] σ).bind fun u2 => (mm_ex sr (rG d) 3 rp_17_l (n + 1) rp_17_r14 [.ref 0, .long y1, .null, .long y3, .null, .int x5, .long y6, .null, .long y8, .null, .int x10, .int x11, .int x12, .int (0 : Int32)] [] u2.2.2)) else ((rG d 16 [.ref 0, .long y6, .long y8] σ).bind fun u1 => (mm_ex sr (rG d) 3 rp_17_l (n + 0) rp_17_r3 [.ref 0, .long y1, .null, .long y3, .null, .int (x5 + (1 : Int32)), .long y6, .null, .long y8, .null, .int x10, .int x11, .int x12, .null] [] u1.2.2))))) := by
  refine (ex_iload (x := x10) rfl).trans ?_
  refine (ex_if_eq (p := 310) (q := rp_17_r17) rfl).trans (ex_ite ?_ ?_)
  · refine (ex_iinc (L2 := [.ref 0, .long y1, .null, .long y3, .null, .int (x5 + (1 : Int32)), .long y6, .null, .long y8, .null, .int x10, .int x11, .int x12, .null]) rfl rfl).trans ?_
    refine (ex_goto (p := 43) (q := rp_17_r3) rfl).trans ?_
    exact rfl
  · refine (ex_iload (x := x12) rfl).trans ?_
    refine (ex_if_eq (p := 310) (q := rp_17_r17) rfl).trans (ex_ite ?_ ?_)
    · refine (ex_iinc (L2 := [.ref 0, .long y1, .null, .long y3, .null, .int (x5 + (1 : Int32)), .long y6, .null, .long y8, .null, .int x10, .int x11, .int x12, .null]) rfl rfl).trans ?_
      refine (ex_goto (p := 43) (q := rp_17_r3) rfl).trans ?_
      exact rfl
    · refine (ex_lload (x := y6) rfl).trans ?_
      refine (ex_ldc2_w).trans ?_
      refine (ex_land).trans ?_
      refine (ex_ldc2_w).trans ?_
      refine (ex_lcmp).trans ?_
      refine (ex_if_ne (p := 302) (q := rp_17_r16) rfl).trans (ex_ite ?_ ?_)
      · refine (ex_aload_n (x := 0) rfl).trans ?_
        refine (ex_lload (x := y8) rfl).trans ?_
        refine (ex_inv_v (As := [.ref 0, .long y8]) (rest := []) rfl rfl).trans (ex_bnd fun u2 => ?_)
        refine (ex_iconst).trans ?_
        refine (ex_istore (L2 := [.ref 0, .long y1, .null, .long y3, .null, .int x5, .long y6, .null, .long y8, .null, .int x10, .int x11, .int x12, .int (0 : Int32)]) rfl).trans ?_
        exact rfl
      · refine (ex_aload_n (x := 0) rfl).trans ?_
        refine (ex_lload (x := y6) rfl).trans ?_
        refine (ex_lload (x := y8) rfl).trans ?_
        refine (ex_inv_v (As := [.ref 0, .long y6, .long y8]) (rest := []) rfl rfl).trans (ex_bnd fun u1 => ?_)
        refine (ex_iinc (L2 := [.ref 0, .long y1, .null, .long y3, .null, .int (x5 + (1 : Int32)), .long y6, .null, .long y8, .null, .int x10, .int x11, .int x12, .null]) rfl rfl).trans ?_
        refine (ex_goto (p := 43) (q := rp_17_r3) rfl).trans ?_
        exact rfl
set_option maxRecDepth 100000 in
set_option maxHeartbeats 4000000 in
theorem rp_17_h14 (d n : Nat) (σ : mm_S) (y1 : Int64) (y3 : Int64) (x5 : Int32) (y6 : Int64) (y8 : Int64) (x10 : Int32) (x11 : Int32) (x12 : Int32) (x13 : Int32) : mm_ex sr (rG d) 3 rp_17_l (n + 15) rp_17_r14 [.ref 0, .long y1, .null, .long y3, .null, .int x5, .long y6, .null, .long y8, .null, .int x10, .int x11, .int x12, .int x13] [] σ = (if (σ.1 0 20) ≤ x13 then (mm_ex sr (rG d) 3 rp_17_l (n + 8) rp_17_r3 [.ref 0, .long y1, .null, .long y3, .null, .int (x5 + (1 : Int32)), .long y6, .null, .long y8, .null, .int x10, .int x11, .int x12, .int x13] [] σ) else (if mm_in x13 16 then ((rG d 16 [.ref 0, .long (y6 >>> (((5 : Int32)).toInt64 &&& 63)), .long (σ.2 17 (x13).toNatClampNeg)] σ).bind fun u1 => (mm_ex sr (rG d) 3 rp_17_l (n + 0) rp_17_r14 [.ref 0, .long y1, .null, .long y3, .null, .int x5, .long y6, .null, .long y8, .null, .int x10, .int x11, .int x12, .int (x13 + (1 : Int32))] [] u1.2.2)) else none)) := by
  refine (ex_iload (x := x13) rfl).trans ?_
  refine (ex_aload_n (x := 0) rfl).trans ?_
  refine (ex_get (u := .int (σ.1 0 20)) rfl).trans ?_
  refine (ex_ic_ge (p := 299) (q := rp_17_r15) rfl).trans (ex_ite ?_ ?_)
  · refine (ex_goto (p := 310) (q := rp_17_r17) rfl).trans ?_
    refine (ex_iinc (L2 := [.ref 0, .long y1, .null, .long y3, .null, .int (x5 + (1 : Int32)), .long y6, .null, .long y8, .null, .int x10, .int x11, .int x12, .int x13]) rfl rfl).trans ?_
    refine (ex_goto (p := 43) (q := rp_17_r3) rfl).trans ?_
    exact rfl
  · refine (ex_aload_n (x := 0) rfl).trans ?_
    refine (ex_lload (x := y6) rfl).trans ?_
    refine (ex_iconst).trans ?_
    refine (ex_lshr).trans ?_
    refine (ex_aload_n (x := 0) rfl).trans ?_
    refine (ex_get (u := .ref 17) rfl).trans ?_
    refine (ex_iload (x := x13) rfl).trans ?_
    refine (ex_laload (z := 16) rfl).trans (ex_ite ?_ rfl)
    refine (ex_inv_v (As := [.ref 0, .long (y6 >>> (((5 : Int32)).toInt64 &&& 63)), .long (σ.2 17 (x13).toNatClampNeg)]) (rest := []) rfl rfl).trans (ex_bnd fun u1 => ?_)
    refine (ex_iinc (L2 := [.ref 0, .long y1, .null, .long y3, .null, .int x5, .long y6, .null, .long y8, .null, .int x10, .int x11, .int x12, .int (x13 + (1 : Int32))]) rfl rfl).trans ?_
    refine (ex_goto (p := 269) (q := rp_17_r14) rfl).trans ?_
    exact rfl
-- 18: WiringContainerModel.carries(II)Z
set_option maxRecDepth 100000 in
set_option maxHeartbeats 4000000 in
theorem rp_18_g (d : Nat) (σ : mm_S) (x1 : Int32) (x2 : Int32) : rG (d + 1) 18 [.ref 0, .int x1, .int x2] σ = (if x2 = 0 then (mm_ex sr (rG d) 3 rp_18_l (99999990 + 0) rp_18_r4 [.ref 0, .int x1, .int x2, .int (8 : Int32), .int (0 : Int32), .null, .null] [] σ) else (if x2 = (-1 : Int32) then (some ((1 : Int32), 0, σ)) else (mm_ex sr (rG d) 3 rp_18_l (99999990 + 1) rp_18_r4 [.ref 0, .int x1, .int x2, .int x2, .int (0 : Int32), .null, .null] [] σ))) := by
  refine (mm_entry 99999990 10 (maxL := 7) (labs := rp_18_l) (rows := rp_18_r0) (L := [.ref 0, .int x1, .int x2, .null, .null, .null, .null]) (rk := 3) rfl rfl rfl rfl rfl rfl).trans ?_
  refine (ex_iload_n (x := x2) rfl).trans ?_
  refine (ex_if_ne (p := 9) (q := rp_18_r1) rfl).trans (ex_ite ?_ ?_)
  · refine (ex_bipush).trans ?_
    refine (ex_goto (p := 10) (q := rp_18_r2) rfl).trans ?_
    refine (ex_istore_n (L2 := [.ref 0, .int x1, .int x2, .int (8 : Int32), .null, .null, .null]) rfl).trans ?_
    refine (ex_iload_n (x := (8 : Int32)) rfl).trans ?_
    refine (ex_iconst).trans ?_
    refine (ex_ic_ne (p := 18) (q := rp_18_r3) rfl).trans (ex_f (by decide) ?_)
    refine (ex_iconst).trans ?_
    refine (ex_istore (L2 := [.ref 0, .int x1, .int x2, .int (8 : Int32), .int (0 : Int32), .null, .null]) rfl).trans ?_
    exact rfl
  · refine (ex_iload_n (x := x2) rfl).trans ?_
    refine (ex_istore_n (L2 := [.ref 0, .int x1, .int x2, .int x2, .null, .null, .null]) rfl).trans ?_
    refine (ex_iload_n (x := x2) rfl).trans ?_
    refine (ex_iconst).trans ?_
    refine (ex_ic_ne (p := 18) (q := rp_18_r3) rfl).trans (ex_ite ?_ ?_)
    · refine (ex_iconst).trans ?_
      exact ex_zreturn1
    · refine (ex_iconst).trans ?_
      refine (ex_istore (L2 := [.ref 0, .int x1, .int x2, .int x2, .int (0 : Int32), .null, .null]) rfl).trans ?_
      exact rfl
set_option maxRecDepth 100000 in
set_option maxHeartbeats 4000000 in
theorem rp_18_h4 (d n : Nat) (σ : mm_S) (x1 : Int32) (x2 : Int32) (x3 : Int32) (x4 : Int32) : mm_ex sr (rG d) 3 rp_18_l (n + 34) rp_18_r4 [.ref 0, .int x1, .int x2, .int x3, .int x4, .null, .null] [] σ = (if (5 : Int32) ≤ x4 then (some ((1 : Int32), 0, σ)) else (if mm_in x1 16 then (if ((x3 >>> (((3 : Int32) * x4) &&& 31)) &&& (7 : Int32)) = 0 then (mm_ex sr (rG d) 3 rp_18_l (n + 8) rp_18_r4 [.ref 0, .int x1, .int x2, .int x3, .int (x4 + (1 : Int32)), .int ((x3 >>> (((3 : Int32) * x4) &&& 31)) &&& (7 : Int32)), .int (((σ.1 6 (x1).toNatClampNeg) >>> (((3 : Int32) * x4) &&& 31)) &&& (7 : Int32))] [] σ) else (if (((σ.1 6 (x1).toNatClampNeg) >>> (((3 : Int32) * x4) &&& 31)) &&& (7 : Int32)) = 0 then (some ((0 : Int32), 0, σ)) else (if x4 = (4 : Int32) then (mm_ex sr (rG d) 3 rp_18_l (n + 3) rp_18_r4 [.ref 0, .int x1, .int x2, .int x3, .int (x4 + (1 : Int32)), .int ((x3 >>> (((3 : Int32) * x4) &&& 31)) &&& (7 : Int32)), .int (((σ.1 6 (x1).toNatClampNeg) >>> (((3 : Int32) * x4) &&& 31)) &&& (7 : Int32))] [] σ) else (if (((σ.1 6 (x1).toNatClampNeg) >>> (((3 : Int32) * x4) &&& 31)) &&& (7 : Int32)) = ((x3 >>> (((3 : Int32) * x4) &&& 31)) &&& (7 : Int32)) then (mm_ex sr (rG d) 3 rp_18_l (n + 0) rp_18_r4 [.ref 0, .int x1, .int x2, .int x3, .int (x4 + (1 : Int32)), .int ((x3 >>> (((3 : Int32) * x4) &&& 31)) &&& (7 : Int32)), .int (((σ.1 6 (x1).toNatClampNeg) >>> (((3 : Int32) * x4) &&& 31)) &&& (7 : Int32))] [] σ) else (some ((0 : Int32), 0, σ)))))) else none)) := by
  refine (ex_iload (x := x4) rfl).trans ?_
  refine (ex_iconst).trans ?_
  refine (ex_ic_ge (p := 85) (q := rp_18_r7) rfl).trans (ex_ite ?_ ?_)
  · refine (ex_iconst).trans ?_
    exact ex_zreturn1
  · refine (ex_iload_n (x := x3) rfl).trans ?_
    refine (ex_iconst).trans ?_
    refine (ex_iload (x := x4) rfl).trans ?_
    refine (ex_imul).trans ?_
    refine (ex_ishr).trans ?_
    refine (ex_bipush).trans ?_
    refine (ex_iand).trans ?_
    refine (ex_istore (L2 := [.ref 0, .int x1, .int x2, .int x3, .int x4, .int ((x3 >>> (((3 : Int32) * x4) &&& 31)) &&& (7 : Int32)), .null]) rfl).trans ?_
    refine (ex_aload_n (x := 0) rfl).trans ?_
    refine (ex_get (u := .ref 6) rfl).trans ?_
    refine (ex_iload_n (x := x1) rfl).trans ?_
    refine (ex_iaload (z := 16) rfl).trans (ex_ite ?_ rfl)
    refine (ex_iconst).trans ?_
    refine (ex_iload (x := x4) rfl).trans ?_
    refine (ex_imul).trans ?_
    refine (ex_ishr).trans ?_
    refine (ex_bipush).trans ?_
    refine (ex_iand).trans ?_
    refine (ex_istore (L2 := [.ref 0, .int x1, .int x2, .int x3, .int x4, .int ((x3 >>> (((3 : Int32) * x4) &&& 31)) &&& (7 : Int32)), .int (((σ.1 6 (x1).toNatClampNeg) >>> (((3 : Int32) * x4) &&& 31)) &&& (7 : Int32))]) rfl).trans ?_
    refine (ex_iload (x := ((x3 >>> (((3 : Int32) * x4) &&& 31)) &&& (7 : Int32))) rfl).trans ?_
    refine (ex_if_eq (p := 79) (q := rp_18_r6) rfl).trans (ex_ite ?_ ?_)
    · refine (ex_iinc (L2 := [.ref 0, .int x1, .int x2, .int x3, .int (x4 + (1 : Int32)), .int ((x3 >>> (((3 : Int32) * x4) &&& 31)) &&& (7 : Int32)), .int (((σ.1 6 (x1).toNatClampNeg) >>> (((3 : Int32) * x4) &&& 31)) &&& (7 : Int32))]) rfl rfl).trans ?_
      refine (ex_goto (p := 21) (q := rp_18_r4) rfl).trans ?_
      exact rfl
    · refine (ex_iload (x := (((σ.1 6 (x1).toNatClampNeg) >>> (((3 : Int32) * x4) &&& 31)) &&& (7 : Int32))) rfl).trans ?_
      refine (ex_if_eq (p := 77) (q := rp_18_r5) rfl).trans (ex_ite ?_ ?_)
      · refine (ex_iconst).trans ?_
        exact ex_zreturn0
      · refine (ex_iload (x := x4) rfl).trans ?_
        refine (ex_iconst).trans ?_
        refine (ex_ic_eq (p := 79) (q := rp_18_r6) rfl).trans (ex_ite ?_ ?_)
        · refine (ex_iinc (L2 := [.ref 0, .int x1, .int x2, .int x3, .int (x4 + (1 : Int32)), .int ((x3 >>> (((3 : Int32) * x4) &&& 31)) &&& (7 : Int32)), .int (((σ.1 6 (x1).toNatClampNeg) >>> (((3 : Int32) * x4) &&& 31)) &&& (7 : Int32))]) rfl rfl).trans ?_
          refine (ex_goto (p := 21) (q := rp_18_r4) rfl).trans ?_
          exact rfl
        · refine (ex_iload (x := (((σ.1 6 (x1).toNatClampNeg) >>> (((3 : Int32) * x4) &&& 31)) &&& (7 : Int32))) rfl).trans ?_
          refine (ex_iload (x := ((x3 >>> (((3 : Int32) * x4) &&& 31)) &&& (7 : Int32))) rfl).trans ?_
          refine (ex_ic_eq (p := 79) (q := rp_18_r6) rfl).trans (ex_ite ?_ ?_)
          · refine (ex_iinc (L2 := [.ref 0, .int x1, .int x2, .int x3, .int (x4 + (1 : Int32)), .int ((x3 >>> (((3 : Int32) * x4) &&& 31)) &&& (7 : Int32)), .int (((σ.1 6 (x1).toNatClampNeg) >>> (((3 : Int32) * x4) &&& 31)) &&& (7 : Int32))]) rfl rfl).trans ?_
            refine (ex_goto (p := 21) (q := rp_18_r4) rfl).trans ?_
            exact rfl
          · refine (ex_iconst).trans ?_
            exact ex_zreturn0
-- 19: WiringContainerModel.seek(II)I
set_option maxRecDepth 100000 in
set_option maxHeartbeats 4000000 in
theorem rp_19_g (d : Nat) (σ : mm_S) (x1 : Int32) (x2 : Int32) : rG (d + 1) 19 [.ref 0, .int x1, .int x2] σ = (mm_ex sr (rG d) 1 rp_19_l (99999996 + 0) rp_19_r1 [.ref 0, .int x1, .int x2, .int (0 : Int32), .int (0 : Int32)] [] σ) := by
  refine (mm_entry 99999996 4 (maxL := 5) (labs := rp_19_l) (rows := rp_19_r0) (L := [.ref 0, .int x1, .int x2, .null, .null]) (rk := 1) rfl rfl rfl rfl rfl rfl).trans ?_
  refine (ex_iconst).trans ?_
  refine (ex_istore_n (L2 := [.ref 0, .int x1, .int x2, .int (0 : Int32), .null]) rfl).trans ?_
  refine (ex_iconst).trans ?_
  refine (ex_istore (L2 := [.ref 0, .int x1, .int x2, .int (0 : Int32), .int (0 : Int32)]) rfl).trans ?_
  exact rfl
set_option maxRecDepth 100000 in
set_option maxHeartbeats 4000000 in
theorem rp_19_h1 (d n : Nat) (σ : mm_S) (x1 : Int32) (x2 : Int32) (x3 : Int32) (x4 : Int32) : mm_ex sr (rG d) 1 rp_19_l (n + 31) rp_19_r1 [.ref 0, .int x1, .int x2, .int x3, .int x4] [] σ = (if (σ.1 0 5) ≤ x4 then (some (x3, 0, σ)) else ((rG d 11 [.ref 0, .int x4] σ).bind fun u1 => (if u1.1 = 0 then (mm_ex sr (rG d) 1 rp_19_l (n + 21) rp_19_r1 [.ref 0, .int x1, .int x2, .int x3, .int (x4 + (1 : Int32))] [] u1.2.2) else ((rG d 18 [.ref 0, .int x4, .int x2] u1.2.2).bind fun u2 => (if u2.1 = 0 then (mm_ex sr (rG d) 1 rp_19_l (n + 16) rp_19_r1 [.ref 0, .int x1, .int x2, .int x3, .int (x4 + (1 : Int32))] [] u2.2.2) else (if mm_in x4 16 then ((rG d 17 [.ref 0, .long (x1).toInt64, .long ((u2.2.2.1 5 (x4).toNatClampNeg)).toInt64] u2.2.2).bind fun u3 => (if u3.1 = 0 then (mm_ex sr (rG d) 1 rp_19_l (n + 6) rp_19_r1 [.ref 0, .int x1, .int x2, .int x3, .int (x4 + (1 : Int32))] [] u3.2.2) else (mm_ex sr (rG d) 1 rp_19_l (n + 0) rp_19_r1 [.ref 0, .int x1, .int x2, .int (x3 ||| ((1 : Int32) <<< (x4 &&& 31))), .int (x4 + (1 : Int32))] [] u3.2.2))) else none)))))) := by
  refine (ex_iload (x := x4) rfl).trans ?_
  refine (ex_aload_n (x := 0) rfl).trans ?_
  refine (ex_get (u := .int (σ.1 0 5)) rfl).trans ?_
  refine (ex_ic_ge (p := 63) (q := rp_19_r3) rfl).trans (ex_ite ?_ ?_)
  · refine (ex_iload_n (x := x3) rfl).trans ?_
    exact ex_ireturn
  · refine (ex_aload_n (x := 0) rfl).trans ?_
    refine (ex_iload (x := x4) rfl).trans ?_
    refine (ex_inv_z (As := [.ref 0, .int x4]) (rest := []) rfl rfl).trans (ex_bnd fun u1 => ?_)
    refine (ex_if_eq (p := 57) (q := rp_19_r2) rfl).trans (ex_ite ?_ ?_)
    · refine (ex_iinc (L2 := [.ref 0, .int x1, .int x2, .int x3, .int (x4 + (1 : Int32))]) rfl rfl).trans ?_
      refine (ex_goto (p := 5) (q := rp_19_r1) rfl).trans ?_
      exact rfl
    · refine (ex_aload_n (x := 0) rfl).trans ?_
      refine (ex_iload (x := x4) rfl).trans ?_
      refine (ex_iload_n (x := x2) rfl).trans ?_
      refine (ex_inv_z (As := [.ref 0, .int x4, .int x2]) (rest := []) rfl rfl).trans (ex_bnd fun u2 => ?_)
      refine (ex_if_eq (p := 57) (q := rp_19_r2) rfl).trans (ex_ite ?_ ?_)
      · refine (ex_iinc (L2 := [.ref 0, .int x1, .int x2, .int x3, .int (x4 + (1 : Int32))]) rfl rfl).trans ?_
        refine (ex_goto (p := 5) (q := rp_19_r1) rfl).trans ?_
        exact rfl
      · refine (ex_aload_n (x := 0) rfl).trans ?_
        refine (ex_iload_n (x := x1) rfl).trans ?_
        refine (ex_i2l).trans ?_
        refine (ex_aload_n (x := 0) rfl).trans ?_
        refine (ex_get (u := .ref 5) rfl).trans ?_
        refine (ex_iload (x := x4) rfl).trans ?_
        refine (ex_iaload (z := 16) rfl).trans (ex_ite ?_ rfl)
        refine (ex_i2l).trans ?_
        refine (ex_inv_z (As := [.ref 0, .long (x1).toInt64, .long ((u2.2.2.1 5 (x4).toNatClampNeg)).toInt64]) (rest := []) rfl rfl).trans (ex_bnd fun u3 => ?_)
        refine (ex_if_eq (p := 57) (q := rp_19_r2) rfl).trans (ex_ite ?_ ?_)
        · refine (ex_iinc (L2 := [.ref 0, .int x1, .int x2, .int x3, .int (x4 + (1 : Int32))]) rfl rfl).trans ?_
          refine (ex_goto (p := 5) (q := rp_19_r1) rfl).trans ?_
          exact rfl
        · refine (ex_iload_n (x := x3) rfl).trans ?_
          refine (ex_iconst).trans ?_
          refine (ex_iload (x := x4) rfl).trans ?_
          refine (ex_ishl).trans ?_
          refine (ex_ior).trans ?_
          refine (ex_istore_n (L2 := [.ref 0, .int x1, .int x2, .int (x3 ||| ((1 : Int32) <<< (x4 &&& 31))), .int x4]) rfl).trans ?_
          refine (ex_iinc (L2 := [.ref 0, .int x1, .int x2, .int (x3 ||| ((1 : Int32) <<< (x4 &&& 31))), .int (x4 + (1 : Int32))]) rfl rfl).trans ?_
          refine (ex_goto (p := 5) (q := rp_19_r1) rfl).trans ?_
          exact rfl
-- 20: WiringContainerModel.count(I)I
set_option maxRecDepth 100000 in
set_option maxHeartbeats 4000000 in
theorem rp_20_g (d : Nat) (σ : mm_S) (x0 : Int32) : rG (d + 1) 20 [.int x0] σ = (mm_ex sr (rG d) 1 rp_20_l (99999996 + 0) rp_20_r1 [.int x0, .int (0 : Int32), .int (0 : Int32)] [] σ) := by
  refine (mm_entry 99999996 4 (maxL := 3) (labs := rp_20_l) (rows := rp_20_r0) (L := [.int x0, .null, .null]) (rk := 1) rfl rfl rfl rfl rfl rfl).trans ?_
  refine (ex_iconst).trans ?_
  refine (ex_istore_n (L2 := [.int x0, .int (0 : Int32), .null]) rfl).trans ?_
  refine (ex_iconst).trans ?_
  refine (ex_istore_n (L2 := [.int x0, .int (0 : Int32), .int (0 : Int32)]) rfl).trans ?_
  exact rfl
set_option maxRecDepth 100000 in
set_option maxHeartbeats 4000000 in
theorem rp_20_h1 (d n : Nat) (σ : mm_S) (x0 : Int32) (x1 : Int32) (x2 : Int32) : mm_ex sr (rG d) 1 rp_20_l (n + 13) rp_20_r1 [.int x0, .int x1, .int x2] [] σ = (if (16 : Int32) ≤ x2 then (some (x1, 0, σ)) else (mm_ex sr (rG d) 1 rp_20_l (n + 0) rp_20_r1 [.int x0, .int (x1 + ((x0 >>> (x2 &&& 31)) &&& (1 : Int32))), .int (x2 + (1 : Int32))] [] σ)) := by
  refine (ex_iload_n (x := x2) rfl).trans ?_
  refine (ex_bipush).trans ?_
  refine (ex_ic_ge (p := 24) (q := rp_20_r2) rfl).trans (ex_ite ?_ ?_)
  · refine (ex_iload_n (x := x1) rfl).trans ?_
    exact ex_ireturn
  · refine (ex_iload_n (x := x1) rfl).trans ?_
    refine (ex_iload_n (x := x0) rfl).trans ?_
    refine (ex_iload_n (x := x2) rfl).trans ?_
    refine (ex_ishr).trans ?_
    refine (ex_iconst).trans ?_
    refine (ex_iand).trans ?_
    refine (ex_iadd).trans ?_
    refine (ex_istore_n (L2 := [.int x0, .int (x1 + ((x0 >>> (x2 &&& 31)) &&& (1 : Int32))), .int x2]) rfl).trans ?_
    refine (ex_iinc (L2 := [.int x0, .int (x1 + ((x0 >>> (x2 &&& 31)) &&& (1 : Int32))), .int (x2 + (1 : Int32))]) rfl rfl).trans ?_
    refine (ex_goto (p := 4) (q := rp_20_r1) rfl).trans ?_
    exact rfl
-- 21: WiringContainerModel.narrow(I)I
set_option maxRecDepth 100000 in
set_option maxHeartbeats 4000000 in
theorem rp_21_g (d : Nat) (σ : mm_S) (x1 : Int32) : rG (d + 1) 21 [.ref 0, .int x1] σ = (mm_ex sr (rG d) 1 rp_21_l (99999996 + 0) rp_21_r1 [.ref 0, .int x1, .int (0 : Int32), .int (0 : Int32), .null] [] σ) := by
  refine (mm_entry 99999996 4 (maxL := 5) (labs := rp_21_l) (rows := rp_21_r0) (L := [.ref 0, .int x1, .null, .null, .null]) (rk := 1) rfl rfl rfl rfl rfl rfl).trans ?_
  refine (ex_iconst).trans ?_
  refine (ex_istore_n (L2 := [.ref 0, .int x1, .int (0 : Int32), .null, .null]) rfl).trans ?_
  refine (ex_iconst).trans ?_
  refine (ex_istore_n (L2 := [.ref 0, .int x1, .int (0 : Int32), .int (0 : Int32), .null]) rfl).trans ?_
  exact rfl
set_option maxRecDepth 100000 in
set_option maxHeartbeats 4000000 in
theorem rp_21_h1 (d n : Nat) (σ : mm_S) (x1 : Int32) (x2 : Int32) (x3 : Int32) : mm_ex sr (rG d) 1 rp_21_l (n + 22) rp_21_r1 [.ref 0, .int x1, .int x2, .int x3, .null] [] σ = (if (σ.1 0 5) ≤ x3 then (mm_ex sr (rG d) 1 rp_21_l (n + 14) rp_21_r4 [.ref 0, .int x1, .int x2, .int x1, .int (0 : Int32)] [] σ) else (if ((x1 >>> (x3 &&& 31)) &&& (1 : Int32)) = (1 : Int32) then ((rG d 12 [.ref 0, .int x3] σ).bind fun u1 => (if u1.1 ≤ x2 then (mm_ex sr (rG d) 1 rp_21_l (n + 4) rp_21_r1 [.ref 0, .int x1, .int x2, .int (x3 + (1 : Int32)), .null] [] u1.2.2) else ((rG d 12 [.ref 0, .int x3] u1.2.2).bind fun u2 => (mm_ex sr (rG d) 1 rp_21_l (n + 0) rp_21_r1 [.ref 0, .int x1, .int u2.1, .int (x3 + (1 : Int32)), .null] [] u2.2.2)))) else (mm_ex sr (rG d) 1 rp_21_l (n + 9) rp_21_r1 [.ref 0, .int x1, .int x2, .int (x3 + (1 : Int32)), .null] [] σ))) := by
  refine (ex_iload_n (x := x3) rfl).trans ?_
  refine (ex_aload_n (x := 0) rfl).trans ?_
  refine (ex_get (u := .int (σ.1 0 5)) rfl).trans ?_
  refine (ex_ic_ge (p := 42) (q := rp_21_r3) rfl).trans (ex_ite ?_ ?_)
  · refine (ex_iload_n (x := x1) rfl).trans ?_
    refine (ex_istore_n (L2 := [.ref 0, .int x1, .int x2, .int x1, .null]) rfl).trans ?_
    refine (ex_iconst).trans ?_
    refine (ex_istore (L2 := [.ref 0, .int x1, .int x2, .int x1, .int (0 : Int32)]) rfl).trans ?_
    exact rfl
  · refine (ex_iload_n (x := x1) rfl).trans ?_
    refine (ex_iload_n (x := x3) rfl).trans ?_
    refine (ex_ishr).trans ?_
    refine (ex_iconst).trans ?_
    refine (ex_iand).trans ?_
    refine (ex_iconst).trans ?_
    refine (ex_ic_ne (p := 36) (q := rp_21_r2) rfl).trans (ex_ite ?_ ?_)
    · refine (ex_aload_n (x := 0) rfl).trans ?_
      refine (ex_iload_n (x := x3) rfl).trans ?_
      refine (ex_inv_i (As := [.ref 0, .int x3]) (rest := []) rfl rfl).trans (ex_bnd fun u1 => ?_)
      refine (ex_iload_n (x := x2) rfl).trans ?_
      refine (ex_ic_le (p := 36) (q := rp_21_r2) rfl).trans (ex_ite ?_ ?_)
      · refine (ex_iinc (L2 := [.ref 0, .int x1, .int x2, .int (x3 + (1 : Int32)), .null]) rfl rfl).trans ?_
        refine (ex_goto (p := 4) (q := rp_21_r1) rfl).trans ?_
        exact rfl
      · refine (ex_aload_n (x := 0) rfl).trans ?_
        refine (ex_iload_n (x := x3) rfl).trans ?_
        refine (ex_inv_i (As := [.ref 0, .int x3]) (rest := []) rfl rfl).trans (ex_bnd fun u2 => ?_)
        refine (ex_istore_n (L2 := [.ref 0, .int x1, .int u2.1, .int x3, .null]) rfl).trans ?_
        refine (ex_iinc (L2 := [.ref 0, .int x1, .int u2.1, .int (x3 + (1 : Int32)), .null]) rfl rfl).trans ?_
        refine (ex_goto (p := 4) (q := rp_21_r1) rfl).trans ?_
        exact rfl
    · refine (ex_iinc (L2 := [.ref 0, .int x1, .int x2, .int (x3 + (1 : Int32)), .null]) rfl rfl).trans ?_
      refine (ex_goto (p := 4) (q := rp_21_r1) rfl).trans ?_
      exact rfl
set_option maxRecDepth 100000 in
set_option maxHeartbeats 4000000 in
theorem rp_21_h4 (d n : Nat) (σ : mm_S) (x1 : Int32) (x2 : Int32) (x3 : Int32) (x4 : Int32) : mm_ex sr (rG d) 1 rp_21_l (n + 19) rp_21_r4 [.ref 0, .int x1, .int x2, .int x3, .int x4] [] σ = (if (σ.1 0 5) ≤ x4 then (some (x3, 0, σ)) else ((rG d 12 [.ref 0, .int x4] σ).bind fun u1 => (if x2 ≤ u1.1 then (mm_ex sr (rG d) 1 rp_21_l (n + 8) rp_21_r4 [.ref 0, .int x1, .int x2, .int x3, .int (x4 + (1 : Int32))] [] u1.2.2) else (mm_ex sr (rG d) 1 rp_21_l (n + 0) rp_21_r4 [.ref 0, .int x1, .int x2, .int (x3 &&& (((1 : Int32) <<< (x4 &&& 31)) ^^^ (-1 : Int32))), .int (x4 + (1 : Int32))] [] u1.2.2)))) := by
  refine (ex_iload (x := x4) rfl).trans ?_
  refine (ex_aload_n (x := 0) rfl).trans ?_
  refine (ex_get (u := .int (σ.1 0 5)) rfl).trans ?_
  refine (ex_ic_ge (p := 81) (q := rp_21_r6) rfl).trans (ex_ite ?_ ?_)
  · refine (ex_iload_n (x := x3) rfl).trans ?_
    exact ex_ireturn
  · refine (ex_aload_n (x := 0) rfl).trans ?_
    refine (ex_iload (x := x4) rfl).trans ?_
    refine (ex_inv_i (As := [.ref 0, .int x4]) (rest := []) rfl rfl).trans (ex_bnd fun u1 => ?_)
    refine (ex_iload_n (x := x2) rfl).trans ?_
    refine (ex_ic_ge (p := 75) (q := rp_21_r5) rfl).trans (ex_ite ?_ ?_)
    · refine (ex_iinc (L2 := [.ref 0, .int x1, .int x2, .int x3, .int (x4 + (1 : Int32))]) rfl rfl).trans ?_
      refine (ex_goto (p := 47) (q := rp_21_r4) rfl).trans ?_
      exact rfl
    · refine (ex_iload_n (x := x3) rfl).trans ?_
      refine (ex_iconst).trans ?_
      refine (ex_iload (x := x4) rfl).trans ?_
      refine (ex_ishl).trans ?_
      refine (ex_iconst).trans ?_
      refine (ex_ixor).trans ?_
      refine (ex_iand).trans ?_
      refine (ex_istore_n (L2 := [.ref 0, .int x1, .int x2, .int (x3 &&& (((1 : Int32) <<< (x4 &&& 31)) ^^^ (-1 : Int32))), .int x4]) rfl).trans ?_
      refine (ex_iinc (L2 := [.ref 0, .int x1, .int x2, .int (x3 &&& (((1 : Int32) <<< (x4 &&& 31)) ^^^ (-1 : Int32))), .int (x4 + (1 : Int32))]) rfl rfl).trans ?_
      refine (ex_goto (p := 47) (q := rp_21_r4) rfl).trans ?_
      exact rfl
-- 22: WiringContainerModel.pick(II)I
set_option maxRecDepth 100000 in
set_option maxHeartbeats 4000000 in
theorem rp_22_g (d : Nat) (σ : mm_S) (x1 : Int32) (x2 : Int32) : rG (d + 1) 22 [.ref 0, .int x1, .int x2] σ = ((rG d 19 [.ref 0, .int x1, .int x2] σ).bind fun u1 => ((rG d 21 [.ref 0, .int u1.1] u1.2.2).bind fun u2 => (if u1.1 = 0 then (some ((-4 : Int32), 0, u2.2.2)) else (mm_ex sr (rG d) 1 rp_22_l (99999987 + 0) rp_22_r2 [.ref 0, .int x1, .int x2, .int u1.1, .int u2.1, .int (0 : Int32)] [] u2.2.2)))) := by
  refine (mm_entry 99999987 13 (maxL := 6) (labs := rp_22_l) (rows := rp_22_r0) (L := [.ref 0, .int x1, .int x2, .null, .null, .null]) (rk := 1) rfl rfl rfl rfl rfl rfl).trans ?_
  refine (ex_aload_n (x := 0) rfl).trans ?_
  refine (ex_iload_n (x := x1) rfl).trans ?_
  refine (ex_iload_n (x := x2) rfl).trans ?_
  refine (ex_inv_i (As := [.ref 0, .int x1, .int x2]) (rest := []) rfl rfl).trans (ex_bnd fun u1 => ?_)
  refine (ex_istore_n (L2 := [.ref 0, .int x1, .int x2, .int u1.1, .null, .null]) rfl).trans ?_
  refine (ex_aload_n (x := 0) rfl).trans ?_
  refine (ex_iload_n (x := u1.1) rfl).trans ?_
  refine (ex_inv_i (As := [.ref 0, .int u1.1]) (rest := []) rfl rfl).trans (ex_bnd fun u2 => ?_)
  refine (ex_istore (L2 := [.ref 0, .int x1, .int x2, .int u1.1, .int u2.1, .null]) rfl).trans ?_
  refine (ex_iload_n (x := u1.1) rfl).trans ?_
  refine (ex_if_ne (p := 21) (q := rp_22_r1) rfl).trans (ex_ite ?_ ?_)
  · refine (ex_bipush).trans ?_
    exact ex_ireturn
  · refine (ex_iconst).trans ?_
    refine (ex_istore (L2 := [.ref 0, .int x1, .int x2, .int u1.1, .int u2.1, .int (0 : Int32)]) rfl).trans ?_
    exact rfl
set_option maxRecDepth 100000 in
set_option maxHeartbeats 4000000 in
theorem rp_22_h2 (d n : Nat) (σ : mm_S) (x1 : Int32) (x2 : Int32) (x3 : Int32) (x4 : Int32) (x5 : Int32) : mm_ex sr (rG d) 1 rp_22_l (n + 11) rp_22_r2 [.ref 0, .int x1, .int x2, .int x3, .int x4, .int x5] [] σ = (if (σ.1 0 5) ≤ x5 then (some ((-5 : Int32), 0, σ)) else (if x4 = ((1 : Int32) <<< (x5 &&& 31)) then (some (x5, 0, σ)) else (mm_ex sr (rG d) 1 rp_22_l (n + 0) rp_22_r2 [.ref 0, .int x1, .int x2, .int x3, .int x4, .int (x5 + (1 : Int32))] [] σ))) := by
  refine (ex_iload (x := x5) rfl).trans ?_
  refine (ex_aload_n (x := 0) rfl).trans ?_
  refine (ex_get (u := .int (σ.1 0 5)) rfl).trans ?_
  refine (ex_ic_ge (p := 51) (q := rp_22_r4) rfl).trans (ex_ite ?_ ?_)
  · refine (ex_bipush).trans ?_
    exact ex_ireturn
  · refine (ex_iload (x := x4) rfl).trans ?_
    refine (ex_iconst).trans ?_
    refine (ex_iload (x := x5) rfl).trans ?_
    refine (ex_ishl).trans ?_
    refine (ex_ic_ne (p := 45) (q := rp_22_r3) rfl).trans (ex_ite ?_ ?_)
    · refine (ex_iload (x := x5) rfl).trans ?_
      exact ex_ireturn
    · refine (ex_iinc (L2 := [.ref 0, .int x1, .int x2, .int x3, .int x4, .int (x5 + (1 : Int32))]) rfl rfl).trans ?_
      refine (ex_goto (p := 24) (q := rp_22_r2) rfl).trans ?_
      exact rfl
-- 23: WiringContainerModel.types(I)I
set_option maxRecDepth 100000 in
set_option maxHeartbeats 4000000 in
theorem rp_23_g (d : Nat) (σ : mm_S) (x1 : Int32) : rG (d + 1) 23 [.ref 0, .int x1] σ = ((rG d 9 [.ref 0, .int x1] σ).bind fun u1 => (if u1.1 = 0 then (some ((-1 : Int32), 0, u1.2.2)) else (if mm_in x1 16 then ((rG d 15 [.ref 0, .long ((u1.2.2.1 5 (x1).toNatClampNeg)).toInt64] u1.2.2).bind fun u2 => (some ((u2.2.2.1 0 20), 0, u2.2.2))) else none))) := by
  refine (mm_entry 99999986 14 (maxL := 2) (labs := rp_23_l) (rows := rp_23_r0) (L := [.ref 0, .int x1]) (rk := 1) rfl rfl rfl rfl rfl rfl).trans ?_
  refine (ex_aload_n (x := 0) rfl).trans ?_
  refine (ex_iload_n (x := x1) rfl).trans ?_
  refine (ex_inv_z (As := [.ref 0, .int x1]) (rest := []) rfl rfl).trans (ex_bnd fun u1 => ?_)
  refine (ex_if_ne (p := 10) (q := rp_23_r1) rfl).trans (ex_ite ?_ ?_)
  · refine (ex_iconst).trans ?_
    exact ex_ireturn
  · refine (ex_aload_n (x := 0) rfl).trans ?_
    refine (ex_aload_n (x := 0) rfl).trans ?_
    refine (ex_get (u := .ref 5) rfl).trans ?_
    refine (ex_iload_n (x := x1) rfl).trans ?_
    refine (ex_iaload (z := 16) rfl).trans (ex_ite ?_ rfl)
    refine (ex_i2l).trans ?_
    refine (ex_inv_v (As := [.ref 0, .long ((u1.2.2.1 5 (x1).toNatClampNeg)).toInt64]) (rest := []) rfl rfl).trans (ex_bnd fun u2 => ?_)
    refine (ex_aload_n (x := 0) rfl).trans ?_
    refine (ex_get (u := .int (u2.2.2.1 0 20)) rfl).trans ?_
    exact ex_ireturn
-- 24: WiringContainerModel.fits(II)I
set_option maxRecDepth 100000 in
set_option maxHeartbeats 4000000 in
theorem rp_24_g (d : Nat) (σ : mm_S) (x1 : Int32) (x2 : Int32) : rG (d + 1) 24 [.ref 0, .int x1, .int x2] σ = ((rG d 9 [.ref 0, .int x2] σ).bind fun u1 => (if u1.1 = 0 then (some ((-1 : Int32), 0, u1.2.2)) else ((rG d 1 [.ref 0, .int x1] u1.2.2).bind fun u2 => (if u2.1 = 0 then (some ((-1 : Int32), 0, u2.2.2)) else (if mm_in x2 16 then ((rG d 17 [.ref 0, .long (x1).toInt64, .long ((u2.2.2.1 5 (x2).toNatClampNeg)).toInt64] u2.2.2).bind fun u3 => (if u3.1 = 0 then (some ((0 : Int32), 0, u3.2.2)) else (some ((1 : Int32), 0, u3.2.2)))) else none))))) := by
  refine (mm_entry 99999979 21 (maxL := 3) (labs := rp_24_l) (rows := rp_24_r0) (L := [.ref 0, .int x1, .int x2]) (rk := 1) rfl rfl rfl rfl rfl rfl).trans ?_
  refine (ex_aload_n (x := 0) rfl).trans ?_
  refine (ex_iload_n (x := x2) rfl).trans ?_
  refine (ex_inv_z (As := [.ref 0, .int x2]) (rest := []) rfl rfl).trans (ex_bnd fun u1 => ?_)
  refine (ex_if_eq (p := 16) (q := rp_24_r1) rfl).trans (ex_ite ?_ ?_)
  · refine (ex_iconst).trans ?_
    exact ex_ireturn
  · refine (ex_aload_n (x := 0) rfl).trans ?_
    refine (ex_iload_n (x := x1) rfl).trans ?_
    refine (ex_inv_z (As := [.ref 0, .int x1]) (rest := []) rfl rfl).trans (ex_bnd fun u2 => ?_)
    refine (ex_if_ne (p := 18) (q := rp_24_r2) rfl).trans (ex_ite ?_ ?_)
    · refine (ex_iconst).trans ?_
      exact ex_ireturn
    · refine (ex_aload_n (x := 0) rfl).trans ?_
      refine (ex_iload_n (x := x1) rfl).trans ?_
      refine (ex_i2l).trans ?_
      refine (ex_aload_n (x := 0) rfl).trans ?_
      refine (ex_get (u := .ref 5) rfl).trans ?_
      refine (ex_iload_n (x := x2) rfl).trans ?_
      refine (ex_iaload (z := 16) rfl).trans (ex_ite ?_ rfl)
      refine (ex_i2l).trans ?_
      refine (ex_inv_z (As := [.ref 0, .long (x1).toInt64, .long ((u2.2.2.1 5 (x2).toNatClampNeg)).toInt64]) (rest := []) rfl rfl).trans (ex_bnd fun u3 => ?_)
      refine (ex_if_eq (p := 38) (q := rp_24_r3) rfl).trans (ex_ite ?_ ?_)
      · refine (ex_iconst).trans ?_
        exact ex_ireturn
      · refine (ex_iconst).trans ?_
        refine (ex_goto (p := 39) (q := rp_24_r4) rfl).trans ?_
        exact ex_ireturn
