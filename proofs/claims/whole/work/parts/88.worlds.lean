/-! the two worlds that the constructors leave, in the order of the cells -/
theorem k_map (a : Nat → Nat) (l : List Nat) : (fun i : Nat => (l[i]?).map a) = fun i : Nat => (l.map a)[i]? := funext fun i => by rw [List.getElem?_map]
theorem k_c11 : c0.1 11 = upd (fun _ => 0) ((1 : Int32).toNatClampNeg) 2 := by
  funext j
  unfold c0 upd
  by_cases h : j = 1
  · subst h; rfl
  · have h2 : ¬ j = (1 : Int32).toNatClampNeg := h
    simp only
    rw [if_neg (fun q => absurd q.1 (by decide)), if_neg (fun q => h q.2), if_neg h2]
theorem kce_i {ca : Nat → ClassId} {a : Nat → Nat} {σ : mm_S} {k kd n : Nat} {f : Nat → Int32} (h2 : ¬ kd = 2) (h3 : ¬ kd = 3) (hf : σ.1 k = f) : mm_ce ca a σ k (.inr (kd, n, [])) = .inl (ca kd, n, .inl f) := by
  simp only [mm_ce, if_neg h2, if_neg h3, hf]
theorem kce_l {ca : Nat → ClassId} {a : Nat → Nat} {σ : mm_S} {k n : Nat} (hf : σ.2 k = fun _ => 0) : mm_ce ca a σ k (.inr (2, n, [])) = .inl (ca 2, n, .inr (.inl fun _ => 0)) := by
  simp only [mm_ce, if_true, hf]
theorem kce_r {ca : Nat → ClassId} {a : Nat → Nat} {σ : mm_S} {k n : Nat} (l : List Nat) : mm_ce ca a σ k (.inr (3, n, l)) = .inl (ca 3, n, .inr (.inr (.inr (.inr (fun i => (l.map a)[i]?))))) := by
  rw [← k_map]
  rfl
set_option maxRecDepth 100000 in
theorem ksc_o0 (ca : Nat → ClassId) (a : Nat → Nat) : mm_ce ca a c0 0 (.inl (5, [(2, 1), (2, 2), (2, 3), (2, 4), (2, 5), (1, 0)])) = .inr (5, [.ref (a 1), .ref (a 2), .ref (a 3), .ref (a 4), .ref (a 5), .int 0]) := by
  simp [mm_ce, mm_fv, c0, List.mapIdx_cons]
set_option maxRecDepth 100000 in
theorem ksc_o1 (ca : Nat → ClassId) (a : Nat → Nat) : mm_ce ca a c0 1 (.inl (1, [(0, 0), (2, 6), (2, 7), (2, 8), (2, 9), (2, 10), (2, 11), (2, 12), (0, 0)])) = .inr (1, [.int 1, .ref (a 6), .ref (a 7), .ref (a 8), .ref (a 9), .ref (a 10), .ref (a 11), .ref (a 12), .int 0]) := by
  simp [mm_ce, mm_fv, c0, List.mapIdx_cons]
set_option maxRecDepth 100000 in
theorem ksc_o2 (ca : Nat → ClassId) (a : Nat → Nat) : mm_ce ca a c0 2 (.inl (0, [(2, 1), (0, 0), (2, 13), (2, 14), (2, 15), (2, 16), (2, 17), (2, 18), (2, 19), (2, 20), (2, 24)])) = .inr (0, [.ref (a 1), .int 0, .ref (a 13), .ref (a 14), .ref (a 15), .ref (a 16), .ref (a 17), .ref (a 18), .ref (a 19), .ref (a 20), .ref (a 24)]) := by
  simp [mm_ce, mm_fv, c0, List.mapIdx_cons]
set_option maxRecDepth 100000 in
theorem ksc_o3 (ca : Nat → ClassId) (a : Nat → Nat) : mm_ce ca a c0 3 (.inl (4, [(2, 1), (2, 2), (2, 28), (2, 32), (2, 33)])) = .inr (4, [.ref (a 1), .ref (a 2), .ref (a 28), .ref (a 32), .ref (a 33)]) := by
  simp [mm_ce, mm_fv, c0, List.mapIdx_cons]
set_option maxRecDepth 100000 in
theorem ksc_o4 (ca : Nat → ClassId) (a : Nat → Nat) : mm_ce ca a c0 4 (.inl (3, [(0, 0), (0, 0), (0, 0), (2, 34), (2, 35), (2, 36), (2, 37), (2, 41)])) = .inr (3, [.int 0, .int 0, .int 0, .ref (a 34), .ref (a 35), .ref (a 36), .ref (a 37), .ref (a 41)]) := by
  simp [mm_ce, mm_fv, c0, List.mapIdx_cons]
set_option maxRecDepth 100000 in
theorem ksc_o5 (ca : Nat → ClassId) (a : Nat → Nat) : mm_ce ca a c0 5 (.inl (2, [(2, 42), (2, 43)])) = .inr (2, [.ref (a 42), .ref (a 43)]) := by
  simp [mm_ce, mm_fv, c0, List.mapIdx_cons]
set_option maxRecDepth 100000 in
theorem kWc (ca : Nat → ClassId) (a : Nat → Nat) : mm_wo sc ca a c0 = [(a 0, .inr (5, [.ref (a 1), .ref (a 2), .ref (a 3), .ref (a 4), .ref (a 5), .int 0])), (a 1, .inr (1, [.int 1, .ref (a 6), .ref (a 7), .ref (a 8), .ref (a 9), .ref (a 10), .ref (a 11), .ref (a 12), .int 0])), (a 2, .inr (0, [.ref (a 1), .int 0, .ref (a 13), .ref (a 14), .ref (a 15), .ref (a 16), .ref (a 17), .ref (a 18), .ref (a 19), .ref (a 20), .ref (a 24)])), (a 3, .inr (4, [.ref (a 1), .ref (a 2), .ref (a 28), .ref (a 32), .ref (a 33)])), (a 4, .inr (3, [.int 0, .int 0, .int 0, .ref (a 34), .ref (a 35), .ref (a 36), .ref (a 37), .ref (a 41)])), (a 5, .inr (2, [.ref (a 42), .ref (a 43)])), (a 6, .inl (ca 1, 32, .inl fun _ => 0)), (a 7, .inl (ca 1, 32, .inl fun _ => 0)), (a 8, .inl (ca 0, 32, .inl fun _ => 0)), (a 9, .inl (ca 0, 32, .inl fun _ => 0)), (a 10, .inl (ca 0, 32, .inl fun _ => 0)), (a 11, .inl (ca 0, 32, .inl (upd (fun _ => 0) ((1 : Int32).toNatClampNeg) 2))), (a 12, .inl (ca 2, 16, .inr (.inl fun _ => 0))), (a 13, .inl (ca 0, 16, .inl fun _ => 0)), (a 14, .inl (ca 0, 16, .inl fun _ => 0)), (a 15, .inl (ca 0, 16, .inl fun _ => 0)), (a 16, .inl (ca 0, 16, .inl fun _ => 0)), (a 17, .inl (ca 0, 16, .inl fun _ => 0)), (a 18, .inl (ca 1, 16, .inl fun _ => 0)), (a 19, .inl (ca 0, 16, .inl fun _ => 0)), (a 20, .inl (ca 3, 3, .inr (.inr (.inr (.inr (fun i => [a 21, a 22, a 23][i]?)))))), (a 21, .inl (ca 0, 16, .inl fun _ => 0)), (a 22, .inl (ca 0, 16, .inl fun _ => 0)), (a 23, .inl (ca 0, 16, .inl fun _ => 0)), (a 24, .inl (ca 3, 3, .inr (.inr (.inr (.inr (fun i => [a 25, a 26, a 27][i]?)))))), (a 25, .inl (ca 0, 16, .inl fun _ => 0)), (a 26, .inl (ca 0, 16, .inl fun _ => 0)), (a 27, .inl (ca 0, 16, .inl fun _ => 0)), (a 28, .inl (ca 3, 3, .inr (.inr (.inr (.inr (fun i => [a 29, a 30, a 31][i]?)))))), (a 29, .inl (ca 0, 16, .inl fun _ => 0)), (a 30, .inl (ca 0, 16, .inl fun _ => 0)), (a 31, .inl (ca 0, 16, .inl fun _ => 0)), (a 32, .inl (ca 0, 16, .inl fun _ => 0)), (a 33, .inl (ca 0, 16, .inl fun _ => 0)), (a 34, .inl (ca 0, 201, .inl fun _ => 0)), (a 35, .inl (ca 0, 201, .inl fun _ => 0)), (a 36, .inl (ca 1, 201, .inl fun _ => 0)), (a 37, .inl (ca 3, 3, .inr (.inr (.inr (.inr (fun i => [a 38, a 39, a 40][i]?)))))), (a 38, .inl (ca 0, 201, .inl fun _ => 0)), (a 39, .inl (ca 0, 201, .inl fun _ => 0)), (a 40, .inl (ca 0, 201, .inl fun _ => 0)), (a 41, .inl (ca 0, 200, .inl fun _ => 0)), (a 42, .inl (ca 1, 4, .inl fun _ => 0)), (a 43, .inl (ca 3, 4, .inr (.inr (.inr (.inr (fun i => [a 44, a 45, a 46, a 47][i]?)))))), (a 44, .inl (ca 0, 16, .inl fun _ => 0)), (a 45, .inl (ca 0, 16, .inl fun _ => 0)), (a 46, .inl (ca 0, 16, .inl fun _ => 0)), (a 47, .inl (ca 0, 16, .inl fun _ => 0))] := by
  apply List.ext_getElem?
  intro i
  match i with
  | 0 => exact (mm_wo_at (sh := sc) (ca := ca) (a := a) (σ := c0) (k := 0) rfl).trans (congrArg (fun z => some (a 0, z)) (ksc_o0 ca a))
  | 1 => exact (mm_wo_at (sh := sc) (ca := ca) (a := a) (σ := c0) (k := 1) rfl).trans (congrArg (fun z => some (a 1, z)) (ksc_o1 ca a))
  | 2 => exact (mm_wo_at (sh := sc) (ca := ca) (a := a) (σ := c0) (k := 2) rfl).trans (congrArg (fun z => some (a 2, z)) (ksc_o2 ca a))
  | 3 => exact (mm_wo_at (sh := sc) (ca := ca) (a := a) (σ := c0) (k := 3) rfl).trans (congrArg (fun z => some (a 3, z)) (ksc_o3 ca a))
  | 4 => exact (mm_wo_at (sh := sc) (ca := ca) (a := a) (σ := c0) (k := 4) rfl).trans (congrArg (fun z => some (a 4, z)) (ksc_o4 ca a))
  | 5 => exact (mm_wo_at (sh := sc) (ca := ca) (a := a) (σ := c0) (k := 5) rfl).trans (congrArg (fun z => some (a 5, z)) (ksc_o5 ca a))
  | 6 => exact (mm_wo_at (sh := sc) (ca := ca) (a := a) (σ := c0) (k := 6) rfl).trans (congrArg (fun z => some (a 6, z)) (kce_i (by decide) (by decide) (c0_f (by decide) (by decide))))
  | 7 => exact (mm_wo_at (sh := sc) (ca := ca) (a := a) (σ := c0) (k := 7) rfl).trans (congrArg (fun z => some (a 7, z)) (kce_i (by decide) (by decide) (c0_f (by decide) (by decide))))
  | 8 => exact (mm_wo_at (sh := sc) (ca := ca) (a := a) (σ := c0) (k := 8) rfl).trans (congrArg (fun z => some (a 8, z)) (kce_i (by decide) (by decide) (c0_f (by decide) (by decide))))
  | 9 => exact (mm_wo_at (sh := sc) (ca := ca) (a := a) (σ := c0) (k := 9) rfl).trans (congrArg (fun z => some (a 9, z)) (kce_i (by decide) (by decide) (c0_f (by decide) (by decide))))
  | 10 => exact (mm_wo_at (sh := sc) (ca := ca) (a := a) (σ := c0) (k := 10) rfl).trans (congrArg (fun z => some (a 10, z)) (kce_i (by decide) (by decide) (c0_f (by decide) (by decide))))
  | 11 => exact (mm_wo_at (sh := sc) (ca := ca) (a := a) (σ := c0) (k := 11) rfl).trans (congrArg (fun z => some (a 11, z)) (kce_i (by decide) (by decide) k_c11))
  | 12 => exact (mm_wo_at (sh := sc) (ca := ca) (a := a) (σ := c0) (k := 12) rfl).trans (congrArg (fun z => some (a 12, z)) (kce_l rfl))
  | 13 => exact (mm_wo_at (sh := sc) (ca := ca) (a := a) (σ := c0) (k := 13) rfl).trans (congrArg (fun z => some (a 13, z)) (kce_i (by decide) (by decide) (c0_f (by decide) (by decide))))
  | 14 => exact (mm_wo_at (sh := sc) (ca := ca) (a := a) (σ := c0) (k := 14) rfl).trans (congrArg (fun z => some (a 14, z)) (kce_i (by decide) (by decide) (c0_f (by decide) (by decide))))
  | 15 => exact (mm_wo_at (sh := sc) (ca := ca) (a := a) (σ := c0) (k := 15) rfl).trans (congrArg (fun z => some (a 15, z)) (kce_i (by decide) (by decide) (c0_f (by decide) (by decide))))
  | 16 => exact (mm_wo_at (sh := sc) (ca := ca) (a := a) (σ := c0) (k := 16) rfl).trans (congrArg (fun z => some (a 16, z)) (kce_i (by decide) (by decide) (c0_f (by decide) (by decide))))
  | 17 => exact (mm_wo_at (sh := sc) (ca := ca) (a := a) (σ := c0) (k := 17) rfl).trans (congrArg (fun z => some (a 17, z)) (kce_i (by decide) (by decide) (c0_f (by decide) (by decide))))
  | 18 => exact (mm_wo_at (sh := sc) (ca := ca) (a := a) (σ := c0) (k := 18) rfl).trans (congrArg (fun z => some (a 18, z)) (kce_i (by decide) (by decide) (c0_f (by decide) (by decide))))
  | 19 => exact (mm_wo_at (sh := sc) (ca := ca) (a := a) (σ := c0) (k := 19) rfl).trans (congrArg (fun z => some (a 19, z)) (kce_i (by decide) (by decide) (c0_f (by decide) (by decide))))
  | 20 => exact (mm_wo_at (sh := sc) (ca := ca) (a := a) (σ := c0) (k := 20) rfl).trans (congrArg (fun z => some (a 20, z)) (kce_r _))
  | 21 => exact (mm_wo_at (sh := sc) (ca := ca) (a := a) (σ := c0) (k := 21) rfl).trans (congrArg (fun z => some (a 21, z)) (kce_i (by decide) (by decide) (c0_f (by decide) (by decide))))
  | 22 => exact (mm_wo_at (sh := sc) (ca := ca) (a := a) (σ := c0) (k := 22) rfl).trans (congrArg (fun z => some (a 22, z)) (kce_i (by decide) (by decide) (c0_f (by decide) (by decide))))
  | 23 => exact (mm_wo_at (sh := sc) (ca := ca) (a := a) (σ := c0) (k := 23) rfl).trans (congrArg (fun z => some (a 23, z)) (kce_i (by decide) (by decide) (c0_f (by decide) (by decide))))
  | 24 => exact (mm_wo_at (sh := sc) (ca := ca) (a := a) (σ := c0) (k := 24) rfl).trans (congrArg (fun z => some (a 24, z)) (kce_r _))
  | 25 => exact (mm_wo_at (sh := sc) (ca := ca) (a := a) (σ := c0) (k := 25) rfl).trans (congrArg (fun z => some (a 25, z)) (kce_i (by decide) (by decide) (c0_f (by decide) (by decide))))
  | 26 => exact (mm_wo_at (sh := sc) (ca := ca) (a := a) (σ := c0) (k := 26) rfl).trans (congrArg (fun z => some (a 26, z)) (kce_i (by decide) (by decide) (c0_f (by decide) (by decide))))
  | 27 => exact (mm_wo_at (sh := sc) (ca := ca) (a := a) (σ := c0) (k := 27) rfl).trans (congrArg (fun z => some (a 27, z)) (kce_i (by decide) (by decide) (c0_f (by decide) (by decide))))
  | 28 => exact (mm_wo_at (sh := sc) (ca := ca) (a := a) (σ := c0) (k := 28) rfl).trans (congrArg (fun z => some (a 28, z)) (kce_r _))
  | 29 => exact (mm_wo_at (sh := sc) (ca := ca) (a := a) (σ := c0) (k := 29) rfl).trans (congrArg (fun z => some (a 29, z)) (kce_i (by decide) (by decide) (c0_f (by decide) (by decide))))
  | 30 => exact (mm_wo_at (sh := sc) (ca := ca) (a := a) (σ := c0) (k := 30) rfl).trans (congrArg (fun z => some (a 30, z)) (kce_i (by decide) (by decide) (c0_f (by decide) (by decide))))
  | 31 => exact (mm_wo_at (sh := sc) (ca := ca) (a := a) (σ := c0) (k := 31) rfl).trans (congrArg (fun z => some (a 31, z)) (kce_i (by decide) (by decide) (c0_f (by decide) (by decide))))
  | 32 => exact (mm_wo_at (sh := sc) (ca := ca) (a := a) (σ := c0) (k := 32) rfl).trans (congrArg (fun z => some (a 32, z)) (kce_i (by decide) (by decide) (c0_f (by decide) (by decide))))
  | 33 => exact (mm_wo_at (sh := sc) (ca := ca) (a := a) (σ := c0) (k := 33) rfl).trans (congrArg (fun z => some (a 33, z)) (kce_i (by decide) (by decide) (c0_f (by decide) (by decide))))
  | 34 => exact (mm_wo_at (sh := sc) (ca := ca) (a := a) (σ := c0) (k := 34) rfl).trans (congrArg (fun z => some (a 34, z)) (kce_i (by decide) (by decide) (c0_f (by decide) (by decide))))
  | 35 => exact (mm_wo_at (sh := sc) (ca := ca) (a := a) (σ := c0) (k := 35) rfl).trans (congrArg (fun z => some (a 35, z)) (kce_i (by decide) (by decide) (c0_f (by decide) (by decide))))
  | 36 => exact (mm_wo_at (sh := sc) (ca := ca) (a := a) (σ := c0) (k := 36) rfl).trans (congrArg (fun z => some (a 36, z)) (kce_i (by decide) (by decide) (c0_f (by decide) (by decide))))
  | 37 => exact (mm_wo_at (sh := sc) (ca := ca) (a := a) (σ := c0) (k := 37) rfl).trans (congrArg (fun z => some (a 37, z)) (kce_r _))
  | 38 => exact (mm_wo_at (sh := sc) (ca := ca) (a := a) (σ := c0) (k := 38) rfl).trans (congrArg (fun z => some (a 38, z)) (kce_i (by decide) (by decide) (c0_f (by decide) (by decide))))
  | 39 => exact (mm_wo_at (sh := sc) (ca := ca) (a := a) (σ := c0) (k := 39) rfl).trans (congrArg (fun z => some (a 39, z)) (kce_i (by decide) (by decide) (c0_f (by decide) (by decide))))
  | 40 => exact (mm_wo_at (sh := sc) (ca := ca) (a := a) (σ := c0) (k := 40) rfl).trans (congrArg (fun z => some (a 40, z)) (kce_i (by decide) (by decide) (c0_f (by decide) (by decide))))
  | 41 => exact (mm_wo_at (sh := sc) (ca := ca) (a := a) (σ := c0) (k := 41) rfl).trans (congrArg (fun z => some (a 41, z)) (kce_i (by decide) (by decide) (c0_f (by decide) (by decide))))
  | 42 => exact (mm_wo_at (sh := sc) (ca := ca) (a := a) (σ := c0) (k := 42) rfl).trans (congrArg (fun z => some (a 42, z)) (kce_i (by decide) (by decide) (c0_f (by decide) (by decide))))
  | 43 => exact (mm_wo_at (sh := sc) (ca := ca) (a := a) (σ := c0) (k := 43) rfl).trans (congrArg (fun z => some (a 43, z)) (kce_r _))
  | 44 => exact (mm_wo_at (sh := sc) (ca := ca) (a := a) (σ := c0) (k := 44) rfl).trans (congrArg (fun z => some (a 44, z)) (kce_i (by decide) (by decide) (c0_f (by decide) (by decide))))
  | 45 => exact (mm_wo_at (sh := sc) (ca := ca) (a := a) (σ := c0) (k := 45) rfl).trans (congrArg (fun z => some (a 45, z)) (kce_i (by decide) (by decide) (c0_f (by decide) (by decide))))
  | 46 => exact (mm_wo_at (sh := sc) (ca := ca) (a := a) (σ := c0) (k := 46) rfl).trans (congrArg (fun z => some (a 46, z)) (kce_i (by decide) (by decide) (c0_f (by decide) (by decide))))
  | 47 => exact (mm_wo_at (sh := sc) (ca := ca) (a := a) (σ := c0) (k := 47) rfl).trans (congrArg (fun z => some (a 47, z)) (kce_i (by decide) (by decide) (c0_f (by decide) (by decide))))
  | i + 48 => rw [List.getElem?_eq_none (by rw [lq_wolen]; exact Nat.le_add_left _ _)]; exact (List.getElem?_eq_none (Nat.le_add_left _ _)).symm
set_option maxRecDepth 100000 in
theorem ksr_o0 (ca : Nat → ClassId) (a2 : Nat → Nat) : mm_ce ca a2 r0 0 (.inl (6, [(0, 0), (2, 1), (2, 2), (2, 3), (2, 4), (0, 0), (2, 5), (2, 6), (2, 7), (2, 8), (2, 9), (2, 10), (2, 11), (2, 12), (2, 13), (1, 0), (2, 14), (2, 15), (2, 16), (2, 17), (0, 0), (2, 18), (2, 19), (0, 0), (0, 0), (2, 20), (2, 21), (2, 22), (2, 23), (2, 24), (2, 25), (0, 0), (2, 26), (2, 27), (2, 28), (2, 29), (2, 30), (0, 0), (2, 31), (2, 32), (2, 33)])) = .inr (6, [.int 1, .ref (a2 1), .ref (a2 2), .ref (a2 3), .ref (a2 4), .int 0, .ref (a2 5), .ref (a2 6), .ref (a2 7), .ref (a2 8), .ref (a2 9), .ref (a2 10), .ref (a2 11), .ref (a2 12), .ref (a2 13), .int 0, .ref (a2 14), .ref (a2 15), .ref (a2 16), .ref (a2 17), .int 0, .ref (a2 18), .ref (a2 19), .int 0, .int 0, .ref (a2 20), .ref (a2 21), .ref (a2 22), .ref (a2 23), .ref (a2 24), .ref (a2 25), .int 0, .ref (a2 26), .ref (a2 27), .ref (a2 28), .ref (a2 29), .ref (a2 30), .int 0, .ref (a2 31), .ref (a2 32), .ref (a2 33)]) := by
  simp [mm_ce, mm_fv, r0, List.mapIdx_cons]
set_option maxRecDepth 100000 in
theorem kWr (ca : Nat → ClassId) (a2 : Nat → Nat) : mm_wo sr ca a2 r0 = [(a2 0, .inr (6, [.int 1, .ref (a2 1), .ref (a2 2), .ref (a2 3), .ref (a2 4), .int 0, .ref (a2 5), .ref (a2 6), .ref (a2 7), .ref (a2 8), .ref (a2 9), .ref (a2 10), .ref (a2 11), .ref (a2 12), .ref (a2 13), .int 0, .ref (a2 14), .ref (a2 15), .ref (a2 16), .ref (a2 17), .int 0, .ref (a2 18), .ref (a2 19), .int 0, .int 0, .ref (a2 20), .ref (a2 21), .ref (a2 22), .ref (a2 23), .ref (a2 24), .ref (a2 25), .int 0, .ref (a2 26), .ref (a2 27), .ref (a2 28), .ref (a2 29), .ref (a2 30), .int 0, .ref (a2 31), .ref (a2 32), .ref (a2 33)])), (a2 1, .inl (ca 1, 32, .inl fun _ => 0)), (a2 2, .inl (ca 1, 32, .inl fun _ => 0)), (a2 3, .inl (ca 0, 32, .inl fun _ => 0)), (a2 4, .inl (ca 0, 64, .inl fun _ => 0)), (a2 5, .inl (ca 0, 16, .inl fun _ => 0)), (a2 6, .inl (ca 0, 16, .inl fun _ => 0)), (a2 7, .inl (ca 0, 16, .inl fun _ => 0)), (a2 8, .inl (ca 0, 16, .inl fun _ => 0)), (a2 9, .inl (ca 0, 16, .inl fun _ => 0)), (a2 10, .inl (ca 1, 16, .inl fun _ => 0)), (a2 11, .inl (ca 0, 16, .inl fun _ => 0)), (a2 12, .inl (ca 0, 48, .inl fun _ => 0)), (a2 13, .inl (ca 0, 48, .inl fun _ => 0)), (a2 14, .inl (ca 0, 48, .inl fun _ => 0)), (a2 15, .inl (ca 0, 16, .inl fun _ => 0)), (a2 16, .inl (ca 0, 16, .inl fun _ => 0)), (a2 17, .inl (ca 2, 16, .inr (.inl fun _ => 0))), (a2 18, .inl (ca 2, 64, .inr (.inl fun _ => 0))), (a2 19, .inl (ca 2, 64, .inr (.inl fun _ => 0))), (a2 20, .inl (ca 0, 201, .inl fun _ => 0)), (a2 21, .inl (ca 0, 201, .inl fun _ => 0)), (a2 22, .inl (ca 0, 201, .inl fun _ => 0)), (a2 23, .inl (ca 1, 201, .inl fun _ => 0)), (a2 24, .inl (ca 1, 201, .inl fun _ => 0)), (a2 25, .inl (ca 0, 201, .inl fun _ => 0)), (a2 26, .inl (ca 0, 16, .inl fun _ => 0)), (a2 27, .inl (ca 0, 16, .inl fun _ => 0)), (a2 28, .inl (ca 0, 16, .inl fun _ => 0)), (a2 29, .inl (ca 0, 16, .inl fun _ => 0)), (a2 30, .inl (ca 1, 16, .inl fun _ => 0)), (a2 31, .inl (ca 0, 16, .inl fun _ => 0)), (a2 32, .inl (ca 1, 4, .inl fun _ => 0)), (a2 33, .inl (ca 0, 64, .inl fun _ => 0))] := by
  apply List.ext_getElem?
  intro i
  match i with
  | 0 => exact (mm_wo_at (sh := sr) (ca := ca) (a := a2) (σ := r0) (k := 0) rfl).trans (congrArg (fun z => some (a2 0, z)) (ksr_o0 ca a2))
  | 1 => exact (mm_wo_at (sh := sr) (ca := ca) (a := a2) (σ := r0) (k := 1) rfl).trans (congrArg (fun z => some (a2 1, z)) (kce_i (by decide) (by decide) (r0_f (by decide))))
  | 2 => exact (mm_wo_at (sh := sr) (ca := ca) (a := a2) (σ := r0) (k := 2) rfl).trans (congrArg (fun z => some (a2 2, z)) (kce_i (by decide) (by decide) (r0_f (by decide))))
  | 3 => exact (mm_wo_at (sh := sr) (ca := ca) (a := a2) (σ := r0) (k := 3) rfl).trans (congrArg (fun z => some (a2 3, z)) (kce_i (by decide) (by decide) (r0_f (by decide))))
  | 4 => exact (mm_wo_at (sh := sr) (ca := ca) (a := a2) (σ := r0) (k := 4) rfl).trans (congrArg (fun z => some (a2 4, z)) (kce_i (by decide) (by decide) (r0_f (by decide))))
  | 5 => exact (mm_wo_at (sh := sr) (ca := ca) (a := a2) (σ := r0) (k := 5) rfl).trans (congrArg (fun z => some (a2 5, z)) (kce_i (by decide) (by decide) (r0_f (by decide))))
  | 6 => exact (mm_wo_at (sh := sr) (ca := ca) (a := a2) (σ := r0) (k := 6) rfl).trans (congrArg (fun z => some (a2 6, z)) (kce_i (by decide) (by decide) (r0_f (by decide))))
  | 7 => exact (mm_wo_at (sh := sr) (ca := ca) (a := a2) (σ := r0) (k := 7) rfl).trans (congrArg (fun z => some (a2 7, z)) (kce_i (by decide) (by decide) (r0_f (by decide))))
  | 8 => exact (mm_wo_at (sh := sr) (ca := ca) (a := a2) (σ := r0) (k := 8) rfl).trans (congrArg (fun z => some (a2 8, z)) (kce_i (by decide) (by decide) (r0_f (by decide))))
  | 9 => exact (mm_wo_at (sh := sr) (ca := ca) (a := a2) (σ := r0) (k := 9) rfl).trans (congrArg (fun z => some (a2 9, z)) (kce_i (by decide) (by decide) (r0_f (by decide))))
  | 10 => exact (mm_wo_at (sh := sr) (ca := ca) (a := a2) (σ := r0) (k := 10) rfl).trans (congrArg (fun z => some (a2 10, z)) (kce_i (by decide) (by decide) (r0_f (by decide))))
  | 11 => exact (mm_wo_at (sh := sr) (ca := ca) (a := a2) (σ := r0) (k := 11) rfl).trans (congrArg (fun z => some (a2 11, z)) (kce_i (by decide) (by decide) (r0_f (by decide))))
  | 12 => exact (mm_wo_at (sh := sr) (ca := ca) (a := a2) (σ := r0) (k := 12) rfl).trans (congrArg (fun z => some (a2 12, z)) (kce_i (by decide) (by decide) (r0_f (by decide))))
  | 13 => exact (mm_wo_at (sh := sr) (ca := ca) (a := a2) (σ := r0) (k := 13) rfl).trans (congrArg (fun z => some (a2 13, z)) (kce_i (by decide) (by decide) (r0_f (by decide))))
  | 14 => exact (mm_wo_at (sh := sr) (ca := ca) (a := a2) (σ := r0) (k := 14) rfl).trans (congrArg (fun z => some (a2 14, z)) (kce_i (by decide) (by decide) (r0_f (by decide))))
  | 15 => exact (mm_wo_at (sh := sr) (ca := ca) (a := a2) (σ := r0) (k := 15) rfl).trans (congrArg (fun z => some (a2 15, z)) (kce_i (by decide) (by decide) (r0_f (by decide))))
  | 16 => exact (mm_wo_at (sh := sr) (ca := ca) (a := a2) (σ := r0) (k := 16) rfl).trans (congrArg (fun z => some (a2 16, z)) (kce_i (by decide) (by decide) (r0_f (by decide))))
  | 17 => exact (mm_wo_at (sh := sr) (ca := ca) (a := a2) (σ := r0) (k := 17) rfl).trans (congrArg (fun z => some (a2 17, z)) (kce_l rfl))
  | 18 => exact (mm_wo_at (sh := sr) (ca := ca) (a := a2) (σ := r0) (k := 18) rfl).trans (congrArg (fun z => some (a2 18, z)) (kce_l rfl))
  | 19 => exact (mm_wo_at (sh := sr) (ca := ca) (a := a2) (σ := r0) (k := 19) rfl).trans (congrArg (fun z => some (a2 19, z)) (kce_l rfl))
  | 20 => exact (mm_wo_at (sh := sr) (ca := ca) (a := a2) (σ := r0) (k := 20) rfl).trans (congrArg (fun z => some (a2 20, z)) (kce_i (by decide) (by decide) (r0_f (by decide))))
  | 21 => exact (mm_wo_at (sh := sr) (ca := ca) (a := a2) (σ := r0) (k := 21) rfl).trans (congrArg (fun z => some (a2 21, z)) (kce_i (by decide) (by decide) (r0_f (by decide))))
  | 22 => exact (mm_wo_at (sh := sr) (ca := ca) (a := a2) (σ := r0) (k := 22) rfl).trans (congrArg (fun z => some (a2 22, z)) (kce_i (by decide) (by decide) (r0_f (by decide))))
  | 23 => exact (mm_wo_at (sh := sr) (ca := ca) (a := a2) (σ := r0) (k := 23) rfl).trans (congrArg (fun z => some (a2 23, z)) (kce_i (by decide) (by decide) (r0_f (by decide))))
  | 24 => exact (mm_wo_at (sh := sr) (ca := ca) (a := a2) (σ := r0) (k := 24) rfl).trans (congrArg (fun z => some (a2 24, z)) (kce_i (by decide) (by decide) (r0_f (by decide))))
  | 25 => exact (mm_wo_at (sh := sr) (ca := ca) (a := a2) (σ := r0) (k := 25) rfl).trans (congrArg (fun z => some (a2 25, z)) (kce_i (by decide) (by decide) (r0_f (by decide))))
  | 26 => exact (mm_wo_at (sh := sr) (ca := ca) (a := a2) (σ := r0) (k := 26) rfl).trans (congrArg (fun z => some (a2 26, z)) (kce_i (by decide) (by decide) (r0_f (by decide))))
  | 27 => exact (mm_wo_at (sh := sr) (ca := ca) (a := a2) (σ := r0) (k := 27) rfl).trans (congrArg (fun z => some (a2 27, z)) (kce_i (by decide) (by decide) (r0_f (by decide))))
  | 28 => exact (mm_wo_at (sh := sr) (ca := ca) (a := a2) (σ := r0) (k := 28) rfl).trans (congrArg (fun z => some (a2 28, z)) (kce_i (by decide) (by decide) (r0_f (by decide))))
  | 29 => exact (mm_wo_at (sh := sr) (ca := ca) (a := a2) (σ := r0) (k := 29) rfl).trans (congrArg (fun z => some (a2 29, z)) (kce_i (by decide) (by decide) (r0_f (by decide))))
  | 30 => exact (mm_wo_at (sh := sr) (ca := ca) (a := a2) (σ := r0) (k := 30) rfl).trans (congrArg (fun z => some (a2 30, z)) (kce_i (by decide) (by decide) (r0_f (by decide))))
  | 31 => exact (mm_wo_at (sh := sr) (ca := ca) (a := a2) (σ := r0) (k := 31) rfl).trans (congrArg (fun z => some (a2 31, z)) (kce_i (by decide) (by decide) (r0_f (by decide))))
  | 32 => exact (mm_wo_at (sh := sr) (ca := ca) (a := a2) (σ := r0) (k := 32) rfl).trans (congrArg (fun z => some (a2 32, z)) (kce_i (by decide) (by decide) (r0_f (by decide))))
  | 33 => exact (mm_wo_at (sh := sr) (ca := ca) (a := a2) (σ := r0) (k := 33) rfl).trans (congrArg (fun z => some (a2 33, z)) (kce_i (by decide) (by decide) (r0_f (by decide))))
  | i + 34 => rw [List.getElem?_eq_none (by rw [lq_wolen]; exact Nat.le_add_left _ _)]; exact (List.getElem?_eq_none (Nat.le_add_left _ _)).symm
theorem k_arrK {s : State} {args : Array Value} {ty : FieldType} (ho : ∀ c, s.vm.findClass ("[" ++ ty.toString) = some c → va_RA s c ty) (h : (Jvm.Cond.arrayClass ty).before args s = true) : ∃ c : ClassId, ArrOfT s c ty ∧ va_RA s c ty := by
  obtain ⟨c, k, comp, h1, h2, h3⟩ := Jvm.Cond.arrayClass_spec h
  exact ⟨c, fun N z => ⟨(fun q hq => by cases hq), k, h2, comp, h3⟩, ho c h1⟩
theorem k_arrO {s : State} (h : kAO s) : ∃ c : ClassId, ArrOfT s c (.array .int) ∧ va_RA s c (.array .int) := by
  obtain ⟨comp, c, k, h1, h2, h3, h4⟩ := Jvm.Cond.arrayOver_specA h
  exact ⟨c, fun N z => ⟨(fun q hq => by cases hq), k, h2, comp, h3⟩, h4⟩
