/-! what is left of the law: on every call the two programs answer alike, and stay coupled -/
def lq_op (R : mm_S → mm_S → Prop) (kc kr : Nat) (As : List Value) : Prop := ∀ σ τ, R σ τ → ∃ u v : mm_R, cG 100 kc (.ref 0 :: As) σ = some u ∧ rG 100 kr (.ref 0 :: As) τ = some v ∧ u.1 = v.1 ∧ R u.2.2 v.2.2
def lq_S_declare (R : mm_S → mm_S → Prop) : Prop := ∀ x1 x2 x3 x4 : Int32, (x3 = 0 ∨ x3 = 1) → (x4 = 0 ∨ x4 = 1) → lq_op R 70 5 [.int x1, .int x2, .int x3, .int x4]
def lq_S_manage (R : mm_S → mm_S → Prop) : Prop := ∀ x1 x2 x3 x4 : Int32, lq_op R 71 7 [.int x1, .int x2, .int x3, .int x4]
def lq_S_produce (R : mm_S → mm_S → Prop) : Prop := ∀ x1 x2 x3 x4 x5 : Int32, lq_op R 72 8 [.int x1, .int x2, .int x3, .int x4, .int x5]
def lq_S_inject (R : mm_S → mm_S → Prop) : Prop := ∀ x1 x2 x3 : Int32, lq_op R 73 10 [.int x1, .int x2, .int x3]
def lq_S_types (R : mm_S → mm_S → Prop) : Prop := ∀ x1 : Int32, lq_op R 74 23 [.int x1]
def lq_S_fits (R : mm_S → mm_S → Prop) : Prop := ∀ x1 x2 : Int32, lq_op R 75 24 [.int x1, .int x2]
def lq_S_candidates (R : mm_S → mm_S → Prop) : Prop := ∀ x1 x2 : Int32, lq_op R 76 25 [.int x1, .int x2]
def lq_S_resolve (R : mm_S → mm_S → Prop) : Prop := ∀ x1 x2 : Int32, lq_op R 77 26 [.int x1, .int x2]
def lq_S_deploy (R : mm_S → mm_S → Prop) : Prop := lq_op R 78 32 []
def lq_S_cost (R : mm_S → mm_S → Prop) : Prop := ∀ x1 : Int32, lq_op R 79 33 [.int x1]
def lq_S_begin (R : mm_S → mm_S → Prop) : Prop := ∀ x1 : Int32, lq_op R 80 43 [.int x1]
def lq_S_end (R : mm_S → mm_S → Prop) : Prop := ∀ x1 : Int32, lq_op R 81 44 [.int x1]
def lq_S_obtain (R : mm_S → mm_S → Prop) : Prop := ∀ x1 x2 x3 : Int32, lq_op R 82 45 [.int x1, .int x2, .int x3]
def lq_S_call (R : mm_S → mm_S → Prop) : Prop := ∀ x1 x2 x3 : Int32, lq_op R 83 46 [.int x1, .int x2, .int x3]
def lq_S_destroy (R : mm_S → mm_S → Prop) : Prop := ∀ x1 : Int32, lq_op R 84 47 [.int x1]
def lq_S_shutdown (R : mm_S → mm_S → Prop) : Prop := lq_op R 85 48 []
def lq_S_beanOf (R : mm_S → mm_S → Prop) : Prop := ∀ x1 : Int32, lq_op R 86 49 [.int x1]
def lq_S_owner (R : mm_S → mm_S → Prop) : Prop := ∀ x1 : Int32, lq_op R 87 50 [.int x1]
def lq_S_destroyed (R : mm_S → mm_S → Prop) : Prop := ∀ x1 : Int32, lq_op R 88 51 [.int x1]
def lq_S_live (R : mm_S → mm_S → Prop) : Prop := lq_op R 89 52 []
def lq_Sim (R : mm_S → mm_S → Prop) : Prop := lq_S_declare R ∧ lq_S_manage R ∧ lq_S_produce R ∧ lq_S_inject R ∧ lq_S_types R ∧ lq_S_fits R ∧ lq_S_candidates R ∧ lq_S_resolve R ∧ lq_S_deploy R ∧ lq_S_cost R ∧ lq_S_begin R ∧ lq_S_end R ∧ lq_S_obtain R ∧ lq_S_call R ∧ lq_S_destroy R ∧ lq_S_shutdown R ∧ lq_S_beanOf R ∧ lq_S_owner R ∧ lq_S_destroyed R ∧ lq_S_live R
theorem lq_in {x3 : Int32} {i L j : Nat} {k : Int32} (hk : k = nI j) (hj : j ≤ 5) (hi : i + 6 ≤ L) (hL : L ≤ 3072) (ex3 : x3 = nI i) : vp_in (x3 + k) L := by
  rw [ex3, hk, nI_add]
  exact vp_in_nI (by omega) (by omega)
theorem lq_in0 {x3 : Int32} {i L : Nat} (hi : i + 6 ≤ L) (hL : L ≤ 3072) (ex3 : x3 = nI i) : vp_in x3 L := by
  rw [ex3]
  exact vp_in_nI (by omega) (by omega)
theorem lq_more {x3 : Int32} {i L : Nat} (hL : L ≤ 3072) (hi : i ≤ L) (ex3 : x3 = nI i) (h : ¬ (Int32.ofNat L - 6 < x3)) : i + 6 ≤ L := by
  rcases Nat.lt_or_ge L (i + 6) with h1 | h1
  · exfalso
    apply h
    rw [ex3]
    have e1 : (Int32.ofNat L - 6).toInt = (L : Int) - 6 := pk_sub_toInt (a := L) (b := 6) (by omega) (by decide)
    have e2 : (nI i).toInt = (i : Int) := nI_toInt (by omega)
    rw [Int32.lt_iff_toInt_lt, e1, e2]
    omega
  · exact h1
set_option maxRecDepth 100000 in
set_option maxHeartbeats 4000000 in
theorem lq_c_declare {p : Program} {l : Launch} {e : Env} {s : State} {m : MethodId} {below : List Frame} {meth : Method} {c : Code} {b L : Nat} {xs : Nat → Int32} (hL : L ≤ 3072) (C0 : lw_At p s m meth c b L xs) {R : mm_S → mm_S → Prop} {D : va_G} {ca : Nat → ClassId} {a a2 : Nat → Nat} (hK : va_K D ww_cl (mm_tys ca) s) (hN : mm_Nk ww_nst s) {cells slots : Nat} (hcs : cells ≤ room_1.cells ∧ slots ≤ room_1.slots) {Q : State → Prop} (hSim : lq_S_declare R) {σ τ : mm_S} (hR : R σ τ) {H : Heap} {locs : List Loc} (hP : va_P D ww_cl (mm_wo sc ca a σ ++ (mm_wo sr ca a2 τ ++ [])) H) (hD : va_D (fun q : Nat => s.heap.size ≤ q) (mm_wo sc ca a σ ++ (mm_wo sr ca a2 τ ++ []))) (hS : va_S (fun q : Nat => s.heap.size ≤ q) s.heap H locs) {i : Nat} {x3 : Int32} (hi : i + 6 ≤ L) (ex3 : x3 = nI i) {ls : Array Slot} (hl : lv_has ls 4 [(0, .ref b), (1, .ref (a 0)), (2, .ref (a2 0)), (3, .int x3)]) (hk : ∀ (σ τ : mm_S) (H : Heap) (locs : List Loc), R σ τ → va_P D ww_cl (mm_wo sc ca a σ ++ (mm_wo sr ca a2 τ ++ [])) H → va_D (fun q : Nat => s.heap.size ≤ q) (mm_wo sc ca a σ ++ (mm_wo sr ca a2 τ ++ [])) → va_S (fun q : Nat => s.heap.size ≤ q) s.heap H locs → W p l e room_1 s m #[Value.ref b] below meth c H locs cells slots Q (F0 m 780 ls [])) : W p l e room_1 s m #[Value.ref b] below meth c H locs cells slots Q (F0 m 128 ls []) := by
  obtain ⟨hx, hb, hr, hml, hown, hts, hX, hbl, hlocks, hgv⟩ := C0
  have hts2 : ∀ w ∈ ww_tbl, w.before #[Value.ref b] s = true := fun w hw => hts w (List.mem_filter.mp hw).1
  have hA : ∀ q : Nat, s.heap.size ≤ q → (fun q : Nat => s.heap.size ≤ q) q := fun _ h => h
  have hbA : ¬ (fun q : Nat => s.heap.size ≤ q) b := Nat.not_le.mpr hbl
  by_cases h3 : (xs (x3 + 3).toNatClampNeg) = 0
  · by_cases h4 : (xs (x3 + 4).toNatClampNeg) = 0
    · obtain ⟨u, v, hu, hv, huv, hR2⟩ := hSim (xs (x3 + 1).toNatClampNeg) (xs (x3 + 2).toNatClampNeg) 0 0 (Or.inl rfl) (Or.inl rfl) σ τ hR
      refine lv_aload_n hx hb dl_128 rfl (lv_at hl 1 rfl) ?_
      refine lv_aload_n hx hb dl_129 rfl (lv_at hl 0 rfl) ?_
      refine lv_iload_n hx hb dl_130 rfl (lv_at hl 3 rfl) ?_
      refine lv_iconst (v := 1) hx hb dl_131 (by decide) ?_
      refine lv_iadd hx hb dl_132 ?_
      refine va_sld hx hb hX hbl hbA hS (lq_in (j := 1) rfl (by decide) hi hL ex3) dl_133 ?_
      refine lv_aload_n hx hb dl_134 rfl (lv_at hl 0 rfl) ?_
      refine lv_iload_n hx hb dl_135 rfl (lv_at hl 3 rfl) ?_
      refine lv_iconst (v := 2) hx hb dl_136 (by decide) ?_
      refine lv_iadd hx hb dl_137 ?_
      refine va_sld hx hb hX hbl hbA hS (lq_in (j := 2) rfl (by decide) hi hL ex3) dl_138 ?_
      refine lv_aload_n hx hb dl_139 rfl (lv_at hl 0 rfl) ?_
      refine lv_iload_n hx hb dl_140 rfl (lv_at hl 3 rfl) ?_
      refine lv_iconst (v := 3) hx hb dl_141 (by decide) ?_
      refine lv_iadd hx hb dl_142 ?_
      refine va_sld hx hb hX hbl hbA hS (lq_in (j := 3) rfl (by decide) hi hL ex3) dl_143 ?_
      refine lv_if_eq (tgt := 151) hx hb dl_144 (by decide) (fun _ => ?_) (fun hc => absurd h3 hc)
      refine lv_iconst (v := 0) hx hb dl_151 (by decide) ?_
      refine lv_aload_n hx hb dl_152 rfl (lv_at hl 0 rfl) ?_
      refine lv_iload_n hx hb dl_153 rfl (lv_at hl 3 rfl) ?_
      refine lv_iconst (v := 4) hx hb dl_154 (by decide) ?_
      refine lv_iadd hx hb dl_155 ?_
      refine va_sld hx hb hX hbl hbA hS (lq_in (j := 4) rfl (by decide) hi hL ex3) dl_156 ?_
      refine lv_if_eq (tgt := 164) hx hb dl_157 (by decide) (fun _ => ?_) (fun hc => absurd h4 hc)
      refine lv_iconst (v := 0) hx hb dl_164 (by decide) ?_
      refine lq_callL cp_OK (a := a) (own := R_law) (cc := code) (nL := 4) hx hb hml hown hts2 hK hN (mm_wo sr ca a2 τ ++ []) hP hD hS hA (M := cp_70) [.int (xs (x3 + 1).toNatClampNeg), .int (xs (x3 + 2).toNatClampNeg), .int 0, .int 0] hu rfl rfl rfl (ww_c1 185 rfl rfl) (ww_c1 186 rfl rfl) (ww_c1 187 rfl rfl) (show mm_par cp_70.2.1 4 by decide +kernel) ⟨by decide, by decide⟩ (rest := []) hl.1 (by simp [Value.category]) dl_165 hcs (st2 := [.int u.1]) rfl rfl (fun H locs hP hD hS => ?_)
      refine lv_aload_n hx hb dl_168 rfl (lv_at hl 2 rfl) ?_
      refine lv_aload_n hx hb dl_169 rfl (lv_at hl 0 rfl) ?_
      refine lv_iload_n hx hb dl_170 rfl (lv_at hl 3 rfl) ?_
      refine lv_iconst (v := 1) hx hb dl_171 (by decide) ?_
      refine lv_iadd hx hb dl_172 ?_
      refine va_sld hx hb hX hbl hbA hS (lq_in (j := 1) rfl (by decide) hi hL ex3) dl_173 ?_
      refine lv_aload_n hx hb dl_174 rfl (lv_at hl 0 rfl) ?_
      refine lv_iload_n hx hb dl_175 rfl (lv_at hl 3 rfl) ?_
      refine lv_iconst (v := 2) hx hb dl_176 (by decide) ?_
      refine lv_iadd hx hb dl_177 ?_
      refine va_sld hx hb hX hbl hbA hS (lq_in (j := 2) rfl (by decide) hi hL ex3) dl_178 ?_
      refine lv_aload_n hx hb dl_179 rfl (lv_at hl 0 rfl) ?_
      refine lv_iload_n hx hb dl_180 rfl (lv_at hl 3 rfl) ?_
      refine lv_iconst (v := 3) hx hb dl_181 (by decide) ?_
      refine lv_iadd hx hb dl_182 ?_
      refine va_sld hx hb hX hbl hbA hS (lq_in (j := 3) rfl (by decide) hi hL ex3) dl_183 ?_
      refine lv_if_eq (tgt := 191) hx hb dl_184 (by decide) (fun _ => ?_) (fun hc => absurd h3 hc)
      refine lv_iconst (v := 0) hx hb dl_191 (by decide) ?_
      refine lv_aload_n hx hb dl_192 rfl (lv_at hl 0 rfl) ?_
      refine lv_iload_n hx hb dl_193 rfl (lv_at hl 3 rfl) ?_
      refine lv_iconst (v := 4) hx hb dl_194 (by decide) ?_
      refine lv_iadd hx hb dl_195 ?_
      refine va_sld hx hb hX hbl hbA hS (lq_in (j := 4) rfl (by decide) hi hL ex3) dl_196 ?_
      refine lv_if_eq (tgt := 204) hx hb dl_197 (by decide) (fun _ => ?_) (fun hc => absurd h4 hc)
      refine lv_iconst (v := 0) hx hb dl_204 (by decide) ?_
      refine lq_callR rp_OK (a := a2) (own := R_law) (cc := code) (nL := 4) hx hb hml hown hts2 hK hN (mm_wo sc ca a u.2.2) [] hP hD hS hA (M := rp_5) [.int (xs (x3 + 1).toNatClampNeg), .int (xs (x3 + 2).toNatClampNeg), .int 0, .int 0] hv rfl rfl rfl (ww_c4 32 rfl rfl) (ww_c4 33 rfl rfl) (ww_c4 34 rfl rfl) (show mm_par rp_5.2.1 4 by decide +kernel) ⟨by decide, by decide⟩ (rest := [.int u.1]) hl.1 (by simp [Value.category]) dl_205 hcs (st2 := [.int v.1, .int u.1]) rfl rfl (fun H locs hP hD hS => ?_)
      refine lv_icmp_eq (tgt := 780) hx hb dl_208 (by decide) (fun _ => ?_) (fun hc => absurd huv hc)
      exact hk u.2.2 v.2.2 H locs hR2 hP hD hS
    · obtain ⟨u, v, hu, hv, huv, hR2⟩ := hSim (xs (x3 + 1).toNatClampNeg) (xs (x3 + 2).toNatClampNeg) 0 1 (Or.inl rfl) (Or.inr rfl) σ τ hR
      refine lv_aload_n hx hb dl_128 rfl (lv_at hl 1 rfl) ?_
      refine lv_aload_n hx hb dl_129 rfl (lv_at hl 0 rfl) ?_
      refine lv_iload_n hx hb dl_130 rfl (lv_at hl 3 rfl) ?_
      refine lv_iconst (v := 1) hx hb dl_131 (by decide) ?_
      refine lv_iadd hx hb dl_132 ?_
      refine va_sld hx hb hX hbl hbA hS (lq_in (j := 1) rfl (by decide) hi hL ex3) dl_133 ?_
      refine lv_aload_n hx hb dl_134 rfl (lv_at hl 0 rfl) ?_
      refine lv_iload_n hx hb dl_135 rfl (lv_at hl 3 rfl) ?_
      refine lv_iconst (v := 2) hx hb dl_136 (by decide) ?_
      refine lv_iadd hx hb dl_137 ?_
      refine va_sld hx hb hX hbl hbA hS (lq_in (j := 2) rfl (by decide) hi hL ex3) dl_138 ?_
      refine lv_aload_n hx hb dl_139 rfl (lv_at hl 0 rfl) ?_
      refine lv_iload_n hx hb dl_140 rfl (lv_at hl 3 rfl) ?_
      refine lv_iconst (v := 3) hx hb dl_141 (by decide) ?_
      refine lv_iadd hx hb dl_142 ?_
      refine va_sld hx hb hX hbl hbA hS (lq_in (j := 3) rfl (by decide) hi hL ex3) dl_143 ?_
      refine lv_if_eq (tgt := 151) hx hb dl_144 (by decide) (fun _ => ?_) (fun hc => absurd h3 hc)
      refine lv_iconst (v := 0) hx hb dl_151 (by decide) ?_
      refine lv_aload_n hx hb dl_152 rfl (lv_at hl 0 rfl) ?_
      refine lv_iload_n hx hb dl_153 rfl (lv_at hl 3 rfl) ?_
      refine lv_iconst (v := 4) hx hb dl_154 (by decide) ?_
      refine lv_iadd hx hb dl_155 ?_
      refine va_sld hx hb hX hbl hbA hS (lq_in (j := 4) rfl (by decide) hi hL ex3) dl_156 ?_
      refine lv_if_eq (tgt := 164) hx hb dl_157 (by decide) (fun hc => absurd hc h4) (fun _ => ?_)
      refine lv_iconst (v := 1) hx hb dl_160 (by decide) ?_
      refine lv_goto (tgt := 165) hx hb dl_161 (by decide) ?_
      refine lq_callL cp_OK (a := a) (own := R_law) (cc := code) (nL := 4) hx hb hml hown hts2 hK hN (mm_wo sr ca a2 τ ++ []) hP hD hS hA (M := cp_70) [.int (xs (x3 + 1).toNatClampNeg), .int (xs (x3 + 2).toNatClampNeg), .int 0, .int 1] hu rfl rfl rfl (ww_c1 185 rfl rfl) (ww_c1 186 rfl rfl) (ww_c1 187 rfl rfl) (show mm_par cp_70.2.1 4 by decide +kernel) ⟨by decide, by decide⟩ (rest := []) hl.1 (by simp [Value.category]) dl_165 hcs (st2 := [.int u.1]) rfl rfl (fun H locs hP hD hS => ?_)
      refine lv_aload_n hx hb dl_168 rfl (lv_at hl 2 rfl) ?_
      refine lv_aload_n hx hb dl_169 rfl (lv_at hl 0 rfl) ?_
      refine lv_iload_n hx hb dl_170 rfl (lv_at hl 3 rfl) ?_
      refine lv_iconst (v := 1) hx hb dl_171 (by decide) ?_
      refine lv_iadd hx hb dl_172 ?_
      refine va_sld hx hb hX hbl hbA hS (lq_in (j := 1) rfl (by decide) hi hL ex3) dl_173 ?_
      refine lv_aload_n hx hb dl_174 rfl (lv_at hl 0 rfl) ?_
      refine lv_iload_n hx hb dl_175 rfl (lv_at hl 3 rfl) ?_
      refine lv_iconst (v := 2) hx hb dl_176 (by decide) ?_
      refine lv_iadd hx hb dl_177 ?_
      refine va_sld hx hb hX hbl hbA hS (lq_in (j := 2) rfl (by decide) hi hL ex3) dl_178 ?_
      refine lv_aload_n hx hb dl_179 rfl (lv_at hl 0 rfl) ?_
      refine lv_iload_n hx hb dl_180 rfl (lv_at hl 3 rfl) ?_
      refine lv_iconst (v := 3) hx hb dl_181 (by decide) ?_
      refine lv_iadd hx hb dl_182 ?_
      refine va_sld hx hb hX hbl hbA hS (lq_in (j := 3) rfl (by decide) hi hL ex3) dl_183 ?_
      refine lv_if_eq (tgt := 191) hx hb dl_184 (by decide) (fun _ => ?_) (fun hc => absurd h3 hc)
      refine lv_iconst (v := 0) hx hb dl_191 (by decide) ?_
      refine lv_aload_n hx hb dl_192 rfl (lv_at hl 0 rfl) ?_
      refine lv_iload_n hx hb dl_193 rfl (lv_at hl 3 rfl) ?_
      refine lv_iconst (v := 4) hx hb dl_194 (by decide) ?_
      refine lv_iadd hx hb dl_195 ?_
      refine va_sld hx hb hX hbl hbA hS (lq_in (j := 4) rfl (by decide) hi hL ex3) dl_196 ?_
      refine lv_if_eq (tgt := 204) hx hb dl_197 (by decide) (fun hc => absurd hc h4) (fun _ => ?_)
      refine lv_iconst (v := 1) hx hb dl_200 (by decide) ?_
      refine lv_goto (tgt := 205) hx hb dl_201 (by decide) ?_
      refine lq_callR rp_OK (a := a2) (own := R_law) (cc := code) (nL := 4) hx hb hml hown hts2 hK hN (mm_wo sc ca a u.2.2) [] hP hD hS hA (M := rp_5) [.int (xs (x3 + 1).toNatClampNeg), .int (xs (x3 + 2).toNatClampNeg), .int 0, .int 1] hv rfl rfl rfl (ww_c4 32 rfl rfl) (ww_c4 33 rfl rfl) (ww_c4 34 rfl rfl) (show mm_par rp_5.2.1 4 by decide +kernel) ⟨by decide, by decide⟩ (rest := [.int u.1]) hl.1 (by simp [Value.category]) dl_205 hcs (st2 := [.int v.1, .int u.1]) rfl rfl (fun H locs hP hD hS => ?_)
      refine lv_icmp_eq (tgt := 780) hx hb dl_208 (by decide) (fun _ => ?_) (fun hc => absurd huv hc)
      exact hk u.2.2 v.2.2 H locs hR2 hP hD hS
  · by_cases h4 : (xs (x3 + 4).toNatClampNeg) = 0
    · obtain ⟨u, v, hu, hv, huv, hR2⟩ := hSim (xs (x3 + 1).toNatClampNeg) (xs (x3 + 2).toNatClampNeg) 1 0 (Or.inr rfl) (Or.inl rfl) σ τ hR
      refine lv_aload_n hx hb dl_128 rfl (lv_at hl 1 rfl) ?_
      refine lv_aload_n hx hb dl_129 rfl (lv_at hl 0 rfl) ?_
      refine lv_iload_n hx hb dl_130 rfl (lv_at hl 3 rfl) ?_
      refine lv_iconst (v := 1) hx hb dl_131 (by decide) ?_
      refine lv_iadd hx hb dl_132 ?_
      refine va_sld hx hb hX hbl hbA hS (lq_in (j := 1) rfl (by decide) hi hL ex3) dl_133 ?_
      refine lv_aload_n hx hb dl_134 rfl (lv_at hl 0 rfl) ?_
      refine lv_iload_n hx hb dl_135 rfl (lv_at hl 3 rfl) ?_
      refine lv_iconst (v := 2) hx hb dl_136 (by decide) ?_
      refine lv_iadd hx hb dl_137 ?_
      refine va_sld hx hb hX hbl hbA hS (lq_in (j := 2) rfl (by decide) hi hL ex3) dl_138 ?_
      refine lv_aload_n hx hb dl_139 rfl (lv_at hl 0 rfl) ?_
      refine lv_iload_n hx hb dl_140 rfl (lv_at hl 3 rfl) ?_
      refine lv_iconst (v := 3) hx hb dl_141 (by decide) ?_
      refine lv_iadd hx hb dl_142 ?_
      refine va_sld hx hb hX hbl hbA hS (lq_in (j := 3) rfl (by decide) hi hL ex3) dl_143 ?_
      refine lv_if_eq (tgt := 151) hx hb dl_144 (by decide) (fun hc => absurd hc h3) (fun _ => ?_)
      refine lv_iconst (v := 1) hx hb dl_147 (by decide) ?_
      refine lv_goto (tgt := 152) hx hb dl_148 (by decide) ?_
      refine lv_aload_n hx hb dl_152 rfl (lv_at hl 0 rfl) ?_
      refine lv_iload_n hx hb dl_153 rfl (lv_at hl 3 rfl) ?_
      refine lv_iconst (v := 4) hx hb dl_154 (by decide) ?_
      refine lv_iadd hx hb dl_155 ?_
      refine va_sld hx hb hX hbl hbA hS (lq_in (j := 4) rfl (by decide) hi hL ex3) dl_156 ?_
      refine lv_if_eq (tgt := 164) hx hb dl_157 (by decide) (fun _ => ?_) (fun hc => absurd h4 hc)
      refine lv_iconst (v := 0) hx hb dl_164 (by decide) ?_
      refine lq_callL cp_OK (a := a) (own := R_law) (cc := code) (nL := 4) hx hb hml hown hts2 hK hN (mm_wo sr ca a2 τ ++ []) hP hD hS hA (M := cp_70) [.int (xs (x3 + 1).toNatClampNeg), .int (xs (x3 + 2).toNatClampNeg), .int 1, .int 0] hu rfl rfl rfl (ww_c1 185 rfl rfl) (ww_c1 186 rfl rfl) (ww_c1 187 rfl rfl) (show mm_par cp_70.2.1 4 by decide +kernel) ⟨by decide, by decide⟩ (rest := []) hl.1 (by simp [Value.category]) dl_165 hcs (st2 := [.int u.1]) rfl rfl (fun H locs hP hD hS => ?_)
      refine lv_aload_n hx hb dl_168 rfl (lv_at hl 2 rfl) ?_
      refine lv_aload_n hx hb dl_169 rfl (lv_at hl 0 rfl) ?_
      refine lv_iload_n hx hb dl_170 rfl (lv_at hl 3 rfl) ?_
      refine lv_iconst (v := 1) hx hb dl_171 (by decide) ?_
      refine lv_iadd hx hb dl_172 ?_
      refine va_sld hx hb hX hbl hbA hS (lq_in (j := 1) rfl (by decide) hi hL ex3) dl_173 ?_
      refine lv_aload_n hx hb dl_174 rfl (lv_at hl 0 rfl) ?_
      refine lv_iload_n hx hb dl_175 rfl (lv_at hl 3 rfl) ?_
      refine lv_iconst (v := 2) hx hb dl_176 (by decide) ?_
      refine lv_iadd hx hb dl_177 ?_
      refine va_sld hx hb hX hbl hbA hS (lq_in (j := 2) rfl (by decide) hi hL ex3) dl_178 ?_
      refine lv_aload_n hx hb dl_179 rfl (lv_at hl 0 rfl) ?_
      refine lv_iload_n hx hb dl_180 rfl (lv_at hl 3 rfl) ?_
      refine lv_iconst (v := 3) hx hb dl_181 (by decide) ?_
      refine lv_iadd hx hb dl_182 ?_
      refine va_sld hx hb hX hbl hbA hS (lq_in (j := 3) rfl (by decide) hi hL ex3) dl_183 ?_
      refine lv_if_eq (tgt := 191) hx hb dl_184 (by decide) (fun hc => absurd hc h3) (fun _ => ?_)
      refine lv_iconst (v := 1) hx hb dl_187 (by decide) ?_
      refine lv_goto (tgt := 192) hx hb dl_188 (by decide) ?_
      refine lv_aload_n hx hb dl_192 rfl (lv_at hl 0 rfl) ?_
      refine lv_iload_n hx hb dl_193 rfl (lv_at hl 3 rfl) ?_
      refine lv_iconst (v := 4) hx hb dl_194 (by decide) ?_
      refine lv_iadd hx hb dl_195 ?_
      refine va_sld hx hb hX hbl hbA hS (lq_in (j := 4) rfl (by decide) hi hL ex3) dl_196 ?_
      refine lv_if_eq (tgt := 204) hx hb dl_197 (by decide) (fun _ => ?_) (fun hc => absurd h4 hc)
      refine lv_iconst (v := 0) hx hb dl_204 (by decide) ?_
      refine lq_callR rp_OK (a := a2) (own := R_law) (cc := code) (nL := 4) hx hb hml hown hts2 hK hN (mm_wo sc ca a u.2.2) [] hP hD hS hA (M := rp_5) [.int (xs (x3 + 1).toNatClampNeg), .int (xs (x3 + 2).toNatClampNeg), .int 1, .int 0] hv rfl rfl rfl (ww_c4 32 rfl rfl) (ww_c4 33 rfl rfl) (ww_c4 34 rfl rfl) (show mm_par rp_5.2.1 4 by decide +kernel) ⟨by decide, by decide⟩ (rest := [.int u.1]) hl.1 (by simp [Value.category]) dl_205 hcs (st2 := [.int v.1, .int u.1]) rfl rfl (fun H locs hP hD hS => ?_)
      refine lv_icmp_eq (tgt := 780) hx hb dl_208 (by decide) (fun _ => ?_) (fun hc => absurd huv hc)
      exact hk u.2.2 v.2.2 H locs hR2 hP hD hS
    · obtain ⟨u, v, hu, hv, huv, hR2⟩ := hSim (xs (x3 + 1).toNatClampNeg) (xs (x3 + 2).toNatClampNeg) 1 1 (Or.inr rfl) (Or.inr rfl) σ τ hR
      refine lv_aload_n hx hb dl_128 rfl (lv_at hl 1 rfl) ?_
      refine lv_aload_n hx hb dl_129 rfl (lv_at hl 0 rfl) ?_
      refine lv_iload_n hx hb dl_130 rfl (lv_at hl 3 rfl) ?_
      refine lv_iconst (v := 1) hx hb dl_131 (by decide) ?_
      refine lv_iadd hx hb dl_132 ?_
      refine va_sld hx hb hX hbl hbA hS (lq_in (j := 1) rfl (by decide) hi hL ex3) dl_133 ?_
      refine lv_aload_n hx hb dl_134 rfl (lv_at hl 0 rfl) ?_
      refine lv_iload_n hx hb dl_135 rfl (lv_at hl 3 rfl) ?_
      refine lv_iconst (v := 2) hx hb dl_136 (by decide) ?_
      refine lv_iadd hx hb dl_137 ?_
      refine va_sld hx hb hX hbl hbA hS (lq_in (j := 2) rfl (by decide) hi hL ex3) dl_138 ?_
      refine lv_aload_n hx hb dl_139 rfl (lv_at hl 0 rfl) ?_
      refine lv_iload_n hx hb dl_140 rfl (lv_at hl 3 rfl) ?_
      refine lv_iconst (v := 3) hx hb dl_141 (by decide) ?_
      refine lv_iadd hx hb dl_142 ?_
      refine va_sld hx hb hX hbl hbA hS (lq_in (j := 3) rfl (by decide) hi hL ex3) dl_143 ?_
      refine lv_if_eq (tgt := 151) hx hb dl_144 (by decide) (fun hc => absurd hc h3) (fun _ => ?_)
      refine lv_iconst (v := 1) hx hb dl_147 (by decide) ?_
      refine lv_goto (tgt := 152) hx hb dl_148 (by decide) ?_
      refine lv_aload_n hx hb dl_152 rfl (lv_at hl 0 rfl) ?_
      refine lv_iload_n hx hb dl_153 rfl (lv_at hl 3 rfl) ?_
      refine lv_iconst (v := 4) hx hb dl_154 (by decide) ?_
      refine lv_iadd hx hb dl_155 ?_
      refine va_sld hx hb hX hbl hbA hS (lq_in (j := 4) rfl (by decide) hi hL ex3) dl_156 ?_
      refine lv_if_eq (tgt := 164) hx hb dl_157 (by decide) (fun hc => absurd hc h4) (fun _ => ?_)
      refine lv_iconst (v := 1) hx hb dl_160 (by decide) ?_
      refine lv_goto (tgt := 165) hx hb dl_161 (by decide) ?_
      refine lq_callL cp_OK (a := a) (own := R_law) (cc := code) (nL := 4) hx hb hml hown hts2 hK hN (mm_wo sr ca a2 τ ++ []) hP hD hS hA (M := cp_70) [.int (xs (x3 + 1).toNatClampNeg), .int (xs (x3 + 2).toNatClampNeg), .int 1, .int 1] hu rfl rfl rfl (ww_c1 185 rfl rfl) (ww_c1 186 rfl rfl) (ww_c1 187 rfl rfl) (show mm_par cp_70.2.1 4 by decide +kernel) ⟨by decide, by decide⟩ (rest := []) hl.1 (by simp [Value.category]) dl_165 hcs (st2 := [.int u.1]) rfl rfl (fun H locs hP hD hS => ?_)
      refine lv_aload_n hx hb dl_168 rfl (lv_at hl 2 rfl) ?_
      refine lv_aload_n hx hb dl_169 rfl (lv_at hl 0 rfl) ?_
      refine lv_iload_n hx hb dl_170 rfl (lv_at hl 3 rfl) ?_
      refine lv_iconst (v := 1) hx hb dl_171 (by decide) ?_
      refine lv_iadd hx hb dl_172 ?_
      refine va_sld hx hb hX hbl hbA hS (lq_in (j := 1) rfl (by decide) hi hL ex3) dl_173 ?_
      refine lv_aload_n hx hb dl_174 rfl (lv_at hl 0 rfl) ?_
      refine lv_iload_n hx hb dl_175 rfl (lv_at hl 3 rfl) ?_
      refine lv_iconst (v := 2) hx hb dl_176 (by decide) ?_
      refine lv_iadd hx hb dl_177 ?_
      refine va_sld hx hb hX hbl hbA hS (lq_in (j := 2) rfl (by decide) hi hL ex3) dl_178 ?_
      refine lv_aload_n hx hb dl_179 rfl (lv_at hl 0 rfl) ?_
      refine lv_iload_n hx hb dl_180 rfl (lv_at hl 3 rfl) ?_
      refine lv_iconst (v := 3) hx hb dl_181 (by decide) ?_
      refine lv_iadd hx hb dl_182 ?_
      refine va_sld hx hb hX hbl hbA hS (lq_in (j := 3) rfl (by decide) hi hL ex3) dl_183 ?_
      refine lv_if_eq (tgt := 191) hx hb dl_184 (by decide) (fun hc => absurd hc h3) (fun _ => ?_)
      refine lv_iconst (v := 1) hx hb dl_187 (by decide) ?_
      refine lv_goto (tgt := 192) hx hb dl_188 (by decide) ?_
      refine lv_aload_n hx hb dl_192 rfl (lv_at hl 0 rfl) ?_
      refine lv_iload_n hx hb dl_193 rfl (lv_at hl 3 rfl) ?_
      refine lv_iconst (v := 4) hx hb dl_194 (by decide) ?_
      refine lv_iadd hx hb dl_195 ?_
      refine va_sld hx hb hX hbl hbA hS (lq_in (j := 4) rfl (by decide) hi hL ex3) dl_196 ?_
      refine lv_if_eq (tgt := 204) hx hb dl_197 (by decide) (fun hc => absurd hc h4) (fun _ => ?_)
      refine lv_iconst (v := 1) hx hb dl_200 (by decide) ?_
      refine lv_goto (tgt := 205) hx hb dl_201 (by decide) ?_
      refine lq_callR rp_OK (a := a2) (own := R_law) (cc := code) (nL := 4) hx hb hml hown hts2 hK hN (mm_wo sc ca a u.2.2) [] hP hD hS hA (M := rp_5) [.int (xs (x3 + 1).toNatClampNeg), .int (xs (x3 + 2).toNatClampNeg), .int 1, .int 1] hv rfl rfl rfl (ww_c4 32 rfl rfl) (ww_c4 33 rfl rfl) (ww_c4 34 rfl rfl) (show mm_par rp_5.2.1 4 by decide +kernel) ⟨by decide, by decide⟩ (rest := [.int u.1]) hl.1 (by simp [Value.category]) dl_205 hcs (st2 := [.int v.1, .int u.1]) rfl rfl (fun H locs hP hD hS => ?_)
      refine lv_icmp_eq (tgt := 780) hx hb dl_208 (by decide) (fun _ => ?_) (fun hc => absurd huv hc)
      exact hk u.2.2 v.2.2 H locs hR2 hP hD hS
set_option maxRecDepth 100000 in
set_option maxHeartbeats 4000000 in
theorem lq_c_manage {p : Program} {l : Launch} {e : Env} {s : State} {m : MethodId} {below : List Frame} {meth : Method} {c : Code} {b L : Nat} {xs : Nat → Int32} (hL : L ≤ 3072) (C0 : lw_At p s m meth c b L xs) {R : mm_S → mm_S → Prop} {D : va_G} {ca : Nat → ClassId} {a a2 : Nat → Nat} (hK : va_K D ww_cl (mm_tys ca) s) (hN : mm_Nk ww_nst s) {cells slots : Nat} (hcs : cells ≤ room_1.cells ∧ slots ≤ room_1.slots) {Q : State → Prop} (hSim : lq_S_manage R) {σ τ : mm_S} (hR : R σ τ) {H : Heap} {locs : List Loc} (hP : va_P D ww_cl (mm_wo sc ca a σ ++ (mm_wo sr ca a2 τ ++ [])) H) (hD : va_D (fun q : Nat => s.heap.size ≤ q) (mm_wo sc ca a σ ++ (mm_wo sr ca a2 τ ++ []))) (hS : va_S (fun q : Nat => s.heap.size ≤ q) s.heap H locs) {i : Nat} {x3 : Int32} (hi : i + 6 ≤ L) (ex3 : x3 = nI i) {ls : Array Slot} (hl : lv_has ls 4 [(0, .ref b), (1, .ref (a 0)), (2, .ref (a2 0)), (3, .int x3)]) (hk : ∀ (σ τ : mm_S) (H : Heap) (locs : List Loc), R σ τ → va_P D ww_cl (mm_wo sc ca a σ ++ (mm_wo sr ca a2 τ ++ [])) H → va_D (fun q : Nat => s.heap.size ≤ q) (mm_wo sc ca a σ ++ (mm_wo sr ca a2 τ ++ [])) → va_S (fun q : Nat => s.heap.size ≤ q) s.heap H locs → W p l e room_1 s m #[Value.ref b] below meth c H locs cells slots Q (F0 m 780 ls [])) : W p l e room_1 s m #[Value.ref b] below meth c H locs cells slots Q (F0 m 213 ls []) := by
  obtain ⟨hx, hb, hr, hml, hown, hts, hX, hbl, hlocks, hgv⟩ := C0
  have hts2 : ∀ w ∈ ww_tbl, w.before #[Value.ref b] s = true := fun w hw => hts w (List.mem_filter.mp hw).1
  have hA : ∀ q : Nat, s.heap.size ≤ q → (fun q : Nat => s.heap.size ≤ q) q := fun _ h => h
  have hbA : ¬ (fun q : Nat => s.heap.size ≤ q) b := Nat.not_le.mpr hbl
  obtain ⟨u, v, hu, hv, huv, hR2⟩ := hSim (xs (x3 + 1).toNatClampNeg) (xs (x3 + 2).toNatClampNeg) (xs (x3 + 3).toNatClampNeg) (xs (x3 + 4).toNatClampNeg)  σ τ hR
  refine lv_aload_n hx hb dl_213 rfl (lv_at hl 1 rfl) ?_
  refine lv_aload_n hx hb dl_214 rfl (lv_at hl 0 rfl) ?_
  refine lv_iload_n hx hb dl_215 rfl (lv_at hl 3 rfl) ?_
  refine lv_iconst (v := 1) hx hb dl_216 (by decide) ?_
  refine lv_iadd hx hb dl_217 ?_
  refine va_sld hx hb hX hbl hbA hS (lq_in (j := 1) rfl (by decide) hi hL ex3) dl_218 ?_
  refine lv_aload_n hx hb dl_219 rfl (lv_at hl 0 rfl) ?_
  refine lv_iload_n hx hb dl_220 rfl (lv_at hl 3 rfl) ?_
  refine lv_iconst (v := 2) hx hb dl_221 (by decide) ?_
  refine lv_iadd hx hb dl_222 ?_
  refine va_sld hx hb hX hbl hbA hS (lq_in (j := 2) rfl (by decide) hi hL ex3) dl_223 ?_
  refine lv_aload_n hx hb dl_224 rfl (lv_at hl 0 rfl) ?_
  refine lv_iload_n hx hb dl_225 rfl (lv_at hl 3 rfl) ?_
  refine lv_iconst (v := 3) hx hb dl_226 (by decide) ?_
  refine lv_iadd hx hb dl_227 ?_
  refine va_sld hx hb hX hbl hbA hS (lq_in (j := 3) rfl (by decide) hi hL ex3) dl_228 ?_
  refine lv_aload_n hx hb dl_229 rfl (lv_at hl 0 rfl) ?_
  refine lv_iload_n hx hb dl_230 rfl (lv_at hl 3 rfl) ?_
  refine lv_iconst (v := 4) hx hb dl_231 (by decide) ?_
  refine lv_iadd hx hb dl_232 ?_
  refine va_sld hx hb hX hbl hbA hS (lq_in (j := 4) rfl (by decide) hi hL ex3) dl_233 ?_
  refine lq_callL cp_OK (a := a) (own := R_law) (cc := code) (nL := 4) hx hb hml hown hts2 hK hN (mm_wo sr ca a2 τ ++ []) hP hD hS hA (M := cp_71) [.int (xs (x3 + 1).toNatClampNeg), .int (xs (x3 + 2).toNatClampNeg), .int (xs (x3 + 3).toNatClampNeg), .int (xs (x3 + 4).toNatClampNeg)] hu rfl rfl rfl (ww_c1 222 rfl rfl) (ww_c1 223 rfl rfl) (ww_c1 224 rfl rfl) (show mm_par cp_71.2.1 4 by decide +kernel) ⟨by decide, by decide⟩ (rest := []) hl.1 (by simp [Value.category]) dl_234 hcs (st2 := [.int u.1]) rfl rfl (fun H locs hP hD hS => ?_)
  refine lv_aload_n hx hb dl_237 rfl (lv_at hl 2 rfl) ?_
  refine lv_aload_n hx hb dl_238 rfl (lv_at hl 0 rfl) ?_
  refine lv_iload_n hx hb dl_239 rfl (lv_at hl 3 rfl) ?_
  refine lv_iconst (v := 1) hx hb dl_240 (by decide) ?_
  refine lv_iadd hx hb dl_241 ?_
  refine va_sld hx hb hX hbl hbA hS (lq_in (j := 1) rfl (by decide) hi hL ex3) dl_242 ?_
  refine lv_aload_n hx hb dl_243 rfl (lv_at hl 0 rfl) ?_
  refine lv_iload_n hx hb dl_244 rfl (lv_at hl 3 rfl) ?_
  refine lv_iconst (v := 2) hx hb dl_245 (by decide) ?_
  refine lv_iadd hx hb dl_246 ?_
  refine va_sld hx hb hX hbl hbA hS (lq_in (j := 2) rfl (by decide) hi hL ex3) dl_247 ?_
  refine lv_aload_n hx hb dl_248 rfl (lv_at hl 0 rfl) ?_
  refine lv_iload_n hx hb dl_249 rfl (lv_at hl 3 rfl) ?_
  refine lv_iconst (v := 3) hx hb dl_250 (by decide) ?_
  refine lv_iadd hx hb dl_251 ?_
  refine va_sld hx hb hX hbl hbA hS (lq_in (j := 3) rfl (by decide) hi hL ex3) dl_252 ?_
  refine lv_aload_n hx hb dl_253 rfl (lv_at hl 0 rfl) ?_
  refine lv_iload_n hx hb dl_254 rfl (lv_at hl 3 rfl) ?_
  refine lv_iconst (v := 4) hx hb dl_255 (by decide) ?_
  refine lv_iadd hx hb dl_256 ?_
  refine va_sld hx hb hX hbl hbA hS (lq_in (j := 4) rfl (by decide) hi hL ex3) dl_257 ?_
  refine lq_callR rp_OK (a := a2) (own := R_law) (cc := code) (nL := 4) hx hb hml hown hts2 hK hN (mm_wo sc ca a u.2.2) [] hP hD hS hA (M := rp_7) [.int (xs (x3 + 1).toNatClampNeg), .int (xs (x3 + 2).toNatClampNeg), .int (xs (x3 + 3).toNatClampNeg), .int (xs (x3 + 4).toNatClampNeg)] hv rfl rfl rfl (ww_c4 44 rfl rfl) (ww_c4 45 rfl rfl) (ww_c4 46 rfl rfl) (show mm_par rp_7.2.1 4 by decide +kernel) ⟨by decide, by decide⟩ (rest := [.int u.1]) hl.1 (by simp [Value.category]) dl_258 hcs (st2 := [.int v.1, .int u.1]) rfl rfl (fun H locs hP hD hS => ?_)
  refine lv_icmp_eq (tgt := 780) hx hb dl_261 (by decide) (fun _ => ?_) (fun hc => absurd huv hc)
  exact hk u.2.2 v.2.2 H locs hR2 hP hD hS
set_option maxRecDepth 100000 in
set_option maxHeartbeats 4000000 in
theorem lq_c_produce {p : Program} {l : Launch} {e : Env} {s : State} {m : MethodId} {below : List Frame} {meth : Method} {c : Code} {b L : Nat} {xs : Nat → Int32} (hL : L ≤ 3072) (C0 : lw_At p s m meth c b L xs) {R : mm_S → mm_S → Prop} {D : va_G} {ca : Nat → ClassId} {a a2 : Nat → Nat} (hK : va_K D ww_cl (mm_tys ca) s) (hN : mm_Nk ww_nst s) {cells slots : Nat} (hcs : cells ≤ room_1.cells ∧ slots ≤ room_1.slots) {Q : State → Prop} (hSim : lq_S_produce R) {σ τ : mm_S} (hR : R σ τ) {H : Heap} {locs : List Loc} (hP : va_P D ww_cl (mm_wo sc ca a σ ++ (mm_wo sr ca a2 τ ++ [])) H) (hD : va_D (fun q : Nat => s.heap.size ≤ q) (mm_wo sc ca a σ ++ (mm_wo sr ca a2 τ ++ []))) (hS : va_S (fun q : Nat => s.heap.size ≤ q) s.heap H locs) {i : Nat} {x3 : Int32} (hi : i + 6 ≤ L) (ex3 : x3 = nI i) {ls : Array Slot} (hl : lv_has ls 4 [(0, .ref b), (1, .ref (a 0)), (2, .ref (a2 0)), (3, .int x3)]) (hk : ∀ (σ τ : mm_S) (H : Heap) (locs : List Loc), R σ τ → va_P D ww_cl (mm_wo sc ca a σ ++ (mm_wo sr ca a2 τ ++ [])) H → va_D (fun q : Nat => s.heap.size ≤ q) (mm_wo sc ca a σ ++ (mm_wo sr ca a2 τ ++ [])) → va_S (fun q : Nat => s.heap.size ≤ q) s.heap H locs → W p l e room_1 s m #[Value.ref b] below meth c H locs cells slots Q (F0 m 780 ls [])) : W p l e room_1 s m #[Value.ref b] below meth c H locs cells slots Q (F0 m 266 ls []) := by
  obtain ⟨hx, hb, hr, hml, hown, hts, hX, hbl, hlocks, hgv⟩ := C0
  have hts2 : ∀ w ∈ ww_tbl, w.before #[Value.ref b] s = true := fun w hw => hts w (List.mem_filter.mp hw).1
  have hA : ∀ q : Nat, s.heap.size ≤ q → (fun q : Nat => s.heap.size ≤ q) q := fun _ h => h
  have hbA : ¬ (fun q : Nat => s.heap.size ≤ q) b := Nat.not_le.mpr hbl
  obtain ⟨u, v, hu, hv, huv, hR2⟩ := hSim (xs (x3 + 1).toNatClampNeg) (xs (x3 + 2).toNatClampNeg) (xs (x3 + 3).toNatClampNeg) (xs (x3 + 4).toNatClampNeg) (xs (x3 + 5).toNatClampNeg)  σ τ hR
  refine lv_aload_n hx hb dl_266 rfl (lv_at hl 1 rfl) ?_
  refine lv_aload_n hx hb dl_267 rfl (lv_at hl 0 rfl) ?_
  refine lv_iload_n hx hb dl_268 rfl (lv_at hl 3 rfl) ?_
  refine lv_iconst (v := 1) hx hb dl_269 (by decide) ?_
  refine lv_iadd hx hb dl_270 ?_
  refine va_sld hx hb hX hbl hbA hS (lq_in (j := 1) rfl (by decide) hi hL ex3) dl_271 ?_
  refine lv_aload_n hx hb dl_272 rfl (lv_at hl 0 rfl) ?_
  refine lv_iload_n hx hb dl_273 rfl (lv_at hl 3 rfl) ?_
  refine lv_iconst (v := 2) hx hb dl_274 (by decide) ?_
  refine lv_iadd hx hb dl_275 ?_
  refine va_sld hx hb hX hbl hbA hS (lq_in (j := 2) rfl (by decide) hi hL ex3) dl_276 ?_
  refine lv_aload_n hx hb dl_277 rfl (lv_at hl 0 rfl) ?_
  refine lv_iload_n hx hb dl_278 rfl (lv_at hl 3 rfl) ?_
  refine lv_iconst (v := 3) hx hb dl_279 (by decide) ?_
  refine lv_iadd hx hb dl_280 ?_
  refine va_sld hx hb hX hbl hbA hS (lq_in (j := 3) rfl (by decide) hi hL ex3) dl_281 ?_
  refine lv_aload_n hx hb dl_282 rfl (lv_at hl 0 rfl) ?_
  refine lv_iload_n hx hb dl_283 rfl (lv_at hl 3 rfl) ?_
  refine lv_iconst (v := 4) hx hb dl_284 (by decide) ?_
  refine lv_iadd hx hb dl_285 ?_
  refine va_sld hx hb hX hbl hbA hS (lq_in (j := 4) rfl (by decide) hi hL ex3) dl_286 ?_
  refine lv_aload_n hx hb dl_287 rfl (lv_at hl 0 rfl) ?_
  refine lv_iload_n hx hb dl_288 rfl (lv_at hl 3 rfl) ?_
  refine lv_iconst (v := 5) hx hb dl_289 (by decide) ?_
  refine lv_iadd hx hb dl_290 ?_
  refine va_sld hx hb hX hbl hbA hS (lq_in (j := 5) rfl (by decide) hi hL ex3) dl_291 ?_
  refine lq_callL cp_OK (a := a) (own := R_law) (cc := code) (nL := 4) hx hb hml hown hts2 hK hN (mm_wo sr ca a2 τ ++ []) hP hD hS hA (M := cp_72) [.int (xs (x3 + 1).toNatClampNeg), .int (xs (x3 + 2).toNatClampNeg), .int (xs (x3 + 3).toNatClampNeg), .int (xs (x3 + 4).toNatClampNeg), .int (xs (x3 + 5).toNatClampNeg)] hu rfl rfl rfl (ww_c2 17 rfl rfl) (ww_c2 18 rfl rfl) (ww_c2 19 rfl rfl) (show mm_par cp_72.2.1 5 by decide +kernel) ⟨by decide, by decide⟩ (rest := []) hl.1 (by simp [Value.category]) dl_292 hcs (st2 := [.int u.1]) rfl rfl (fun H locs hP hD hS => ?_)
  refine lv_aload_n hx hb dl_295 rfl (lv_at hl 2 rfl) ?_
  refine lv_aload_n hx hb dl_296 rfl (lv_at hl 0 rfl) ?_
  refine lv_iload_n hx hb dl_297 rfl (lv_at hl 3 rfl) ?_
  refine lv_iconst (v := 1) hx hb dl_298 (by decide) ?_
  refine lv_iadd hx hb dl_299 ?_
  refine va_sld hx hb hX hbl hbA hS (lq_in (j := 1) rfl (by decide) hi hL ex3) dl_300 ?_
  refine lv_aload_n hx hb dl_301 rfl (lv_at hl 0 rfl) ?_
  refine lv_iload_n hx hb dl_302 rfl (lv_at hl 3 rfl) ?_
  refine lv_iconst (v := 2) hx hb dl_303 (by decide) ?_
  refine lv_iadd hx hb dl_304 ?_
  refine va_sld hx hb hX hbl hbA hS (lq_in (j := 2) rfl (by decide) hi hL ex3) dl_305 ?_
  refine lv_aload_n hx hb dl_306 rfl (lv_at hl 0 rfl) ?_
  refine lv_iload_n hx hb dl_307 rfl (lv_at hl 3 rfl) ?_
  refine lv_iconst (v := 3) hx hb dl_308 (by decide) ?_
  refine lv_iadd hx hb dl_309 ?_
  refine va_sld hx hb hX hbl hbA hS (lq_in (j := 3) rfl (by decide) hi hL ex3) dl_310 ?_
  refine lv_aload_n hx hb dl_311 rfl (lv_at hl 0 rfl) ?_
  refine lv_iload_n hx hb dl_312 rfl (lv_at hl 3 rfl) ?_
  refine lv_iconst (v := 4) hx hb dl_313 (by decide) ?_
  refine lv_iadd hx hb dl_314 ?_
  refine va_sld hx hb hX hbl hbA hS (lq_in (j := 4) rfl (by decide) hi hL ex3) dl_315 ?_
  refine lv_aload_n hx hb dl_316 rfl (lv_at hl 0 rfl) ?_
  refine lv_iload_n hx hb dl_317 rfl (lv_at hl 3 rfl) ?_
  refine lv_iconst (v := 5) hx hb dl_318 (by decide) ?_
  refine lv_iadd hx hb dl_319 ?_
  refine va_sld hx hb hX hbl hbA hS (lq_in (j := 5) rfl (by decide) hi hL ex3) dl_320 ?_
  refine lq_callR rp_OK (a := a2) (own := R_law) (cc := code) (nL := 4) hx hb hml hown hts2 hK hN (mm_wo sc ca a u.2.2) [] hP hD hS hA (M := rp_8) [.int (xs (x3 + 1).toNatClampNeg), .int (xs (x3 + 2).toNatClampNeg), .int (xs (x3 + 3).toNatClampNeg), .int (xs (x3 + 4).toNatClampNeg), .int (xs (x3 + 5).toNatClampNeg)] hv rfl rfl rfl (ww_c4 55 rfl rfl) (ww_c4 56 rfl rfl) (ww_c4 57 rfl rfl) (show mm_par rp_8.2.1 5 by decide +kernel) ⟨by decide, by decide⟩ (rest := [.int u.1]) hl.1 (by simp [Value.category]) dl_321 hcs (st2 := [.int v.1, .int u.1]) rfl rfl (fun H locs hP hD hS => ?_)
  refine lv_icmp_eq (tgt := 780) hx hb dl_324 (by decide) (fun _ => ?_) (fun hc => absurd huv hc)
  exact hk u.2.2 v.2.2 H locs hR2 hP hD hS
set_option maxRecDepth 100000 in
set_option maxHeartbeats 4000000 in
theorem lq_c_inject {p : Program} {l : Launch} {e : Env} {s : State} {m : MethodId} {below : List Frame} {meth : Method} {c : Code} {b L : Nat} {xs : Nat → Int32} (hL : L ≤ 3072) (C0 : lw_At p s m meth c b L xs) {R : mm_S → mm_S → Prop} {D : va_G} {ca : Nat → ClassId} {a a2 : Nat → Nat} (hK : va_K D ww_cl (mm_tys ca) s) (hN : mm_Nk ww_nst s) {cells slots : Nat} (hcs : cells ≤ room_1.cells ∧ slots ≤ room_1.slots) {Q : State → Prop} (hSim : lq_S_inject R) {σ τ : mm_S} (hR : R σ τ) {H : Heap} {locs : List Loc} (hP : va_P D ww_cl (mm_wo sc ca a σ ++ (mm_wo sr ca a2 τ ++ [])) H) (hD : va_D (fun q : Nat => s.heap.size ≤ q) (mm_wo sc ca a σ ++ (mm_wo sr ca a2 τ ++ []))) (hS : va_S (fun q : Nat => s.heap.size ≤ q) s.heap H locs) {i : Nat} {x3 : Int32} (hi : i + 6 ≤ L) (ex3 : x3 = nI i) {ls : Array Slot} (hl : lv_has ls 4 [(0, .ref b), (1, .ref (a 0)), (2, .ref (a2 0)), (3, .int x3)]) (hk : ∀ (σ τ : mm_S) (H : Heap) (locs : List Loc), R σ τ → va_P D ww_cl (mm_wo sc ca a σ ++ (mm_wo sr ca a2 τ ++ [])) H → va_D (fun q : Nat => s.heap.size ≤ q) (mm_wo sc ca a σ ++ (mm_wo sr ca a2 τ ++ [])) → va_S (fun q : Nat => s.heap.size ≤ q) s.heap H locs → W p l e room_1 s m #[Value.ref b] below meth c H locs cells slots Q (F0 m 780 ls [])) : W p l e room_1 s m #[Value.ref b] below meth c H locs cells slots Q (F0 m 329 ls []) := by
  obtain ⟨hx, hb, hr, hml, hown, hts, hX, hbl, hlocks, hgv⟩ := C0
  have hts2 : ∀ w ∈ ww_tbl, w.before #[Value.ref b] s = true := fun w hw => hts w (List.mem_filter.mp hw).1
  have hA : ∀ q : Nat, s.heap.size ≤ q → (fun q : Nat => s.heap.size ≤ q) q := fun _ h => h
  have hbA : ¬ (fun q : Nat => s.heap.size ≤ q) b := Nat.not_le.mpr hbl
  obtain ⟨u, v, hu, hv, huv, hR2⟩ := hSim (xs (x3 + 1).toNatClampNeg) (xs (x3 + 2).toNatClampNeg) (xs (x3 + 3).toNatClampNeg)  σ τ hR
  refine lv_aload_n hx hb dl_329 rfl (lv_at hl 1 rfl) ?_
  refine lv_aload_n hx hb dl_330 rfl (lv_at hl 0 rfl) ?_
  refine lv_iload_n hx hb dl_331 rfl (lv_at hl 3 rfl) ?_
  refine lv_iconst (v := 1) hx hb dl_332 (by decide) ?_
  refine lv_iadd hx hb dl_333 ?_
  refine va_sld hx hb hX hbl hbA hS (lq_in (j := 1) rfl (by decide) hi hL ex3) dl_334 ?_
  refine lv_aload_n hx hb dl_335 rfl (lv_at hl 0 rfl) ?_
  refine lv_iload_n hx hb dl_336 rfl (lv_at hl 3 rfl) ?_
  refine lv_iconst (v := 2) hx hb dl_337 (by decide) ?_
  refine lv_iadd hx hb dl_338 ?_
  refine va_sld hx hb hX hbl hbA hS (lq_in (j := 2) rfl (by decide) hi hL ex3) dl_339 ?_
  refine lv_aload_n hx hb dl_340 rfl (lv_at hl 0 rfl) ?_
  refine lv_iload_n hx hb dl_341 rfl (lv_at hl 3 rfl) ?_
  refine lv_iconst (v := 3) hx hb dl_342 (by decide) ?_
  refine lv_iadd hx hb dl_343 ?_
  refine va_sld hx hb hX hbl hbA hS (lq_in (j := 3) rfl (by decide) hi hL ex3) dl_344 ?_
  refine lq_callL cp_OK (a := a) (own := R_law) (cc := code) (nL := 4) hx hb hml hown hts2 hK hN (mm_wo sr ca a2 τ ++ []) hP hD hS hA (M := cp_73) [.int (xs (x3 + 1).toNatClampNeg), .int (xs (x3 + 2).toNatClampNeg), .int (xs (x3 + 3).toNatClampNeg)] hu rfl rfl rfl (ww_c2 34 rfl rfl) (ww_c2 35 rfl rfl) (ww_c2 36 rfl rfl) (show mm_par cp_73.2.1 3 by decide +kernel) ⟨by decide, by decide⟩ (rest := []) hl.1 (by simp [Value.category]) dl_345 hcs (st2 := [.int u.1]) rfl rfl (fun H locs hP hD hS => ?_)
  refine lv_aload_n hx hb dl_348 rfl (lv_at hl 2 rfl) ?_
  refine lv_aload_n hx hb dl_349 rfl (lv_at hl 0 rfl) ?_
  refine lv_iload_n hx hb dl_350 rfl (lv_at hl 3 rfl) ?_
  refine lv_iconst (v := 1) hx hb dl_351 (by decide) ?_
  refine lv_iadd hx hb dl_352 ?_
  refine va_sld hx hb hX hbl hbA hS (lq_in (j := 1) rfl (by decide) hi hL ex3) dl_353 ?_
  refine lv_aload_n hx hb dl_354 rfl (lv_at hl 0 rfl) ?_
  refine lv_iload_n hx hb dl_355 rfl (lv_at hl 3 rfl) ?_
  refine lv_iconst (v := 2) hx hb dl_356 (by decide) ?_
  refine lv_iadd hx hb dl_357 ?_
  refine va_sld hx hb hX hbl hbA hS (lq_in (j := 2) rfl (by decide) hi hL ex3) dl_358 ?_
  refine lv_aload_n hx hb dl_359 rfl (lv_at hl 0 rfl) ?_
  refine lv_iload_n hx hb dl_360 rfl (lv_at hl 3 rfl) ?_
  refine lv_iconst (v := 3) hx hb dl_361 (by decide) ?_
  refine lv_iadd hx hb dl_362 ?_
  refine va_sld hx hb hX hbl hbA hS (lq_in (j := 3) rfl (by decide) hi hL ex3) dl_363 ?_
  refine lq_callR rp_OK (a := a2) (own := R_law) (cc := code) (nL := 4) hx hb hml hown hts2 hK hN (mm_wo sc ca a u.2.2) [] hP hD hS hA (M := rp_10) [.int (xs (x3 + 1).toNatClampNeg), .int (xs (x3 + 2).toNatClampNeg), .int (xs (x3 + 3).toNatClampNeg)] hv rfl rfl rfl (ww_c4 59 rfl rfl) (ww_c4 60 rfl rfl) (ww_c4 61 rfl rfl) (show mm_par rp_10.2.1 3 by decide +kernel) ⟨by decide, by decide⟩ (rest := [.int u.1]) hl.1 (by simp [Value.category]) dl_364 hcs (st2 := [.int v.1, .int u.1]) rfl rfl (fun H locs hP hD hS => ?_)
  refine lv_icmp_eq (tgt := 780) hx hb dl_367 (by decide) (fun _ => ?_) (fun hc => absurd huv hc)
  exact hk u.2.2 v.2.2 H locs hR2 hP hD hS
set_option maxRecDepth 100000 in
set_option maxHeartbeats 4000000 in
theorem lq_c_types {p : Program} {l : Launch} {e : Env} {s : State} {m : MethodId} {below : List Frame} {meth : Method} {c : Code} {b L : Nat} {xs : Nat → Int32} (hL : L ≤ 3072) (C0 : lw_At p s m meth c b L xs) {R : mm_S → mm_S → Prop} {D : va_G} {ca : Nat → ClassId} {a a2 : Nat → Nat} (hK : va_K D ww_cl (mm_tys ca) s) (hN : mm_Nk ww_nst s) {cells slots : Nat} (hcs : cells ≤ room_1.cells ∧ slots ≤ room_1.slots) {Q : State → Prop} (hSim : lq_S_types R) {σ τ : mm_S} (hR : R σ τ) {H : Heap} {locs : List Loc} (hP : va_P D ww_cl (mm_wo sc ca a σ ++ (mm_wo sr ca a2 τ ++ [])) H) (hD : va_D (fun q : Nat => s.heap.size ≤ q) (mm_wo sc ca a σ ++ (mm_wo sr ca a2 τ ++ []))) (hS : va_S (fun q : Nat => s.heap.size ≤ q) s.heap H locs) {i : Nat} {x3 : Int32} (hi : i + 6 ≤ L) (ex3 : x3 = nI i) {ls : Array Slot} (hl : lv_has ls 4 [(0, .ref b), (1, .ref (a 0)), (2, .ref (a2 0)), (3, .int x3)]) (hk : ∀ (σ τ : mm_S) (H : Heap) (locs : List Loc), R σ τ → va_P D ww_cl (mm_wo sc ca a σ ++ (mm_wo sr ca a2 τ ++ [])) H → va_D (fun q : Nat => s.heap.size ≤ q) (mm_wo sc ca a σ ++ (mm_wo sr ca a2 τ ++ [])) → va_S (fun q : Nat => s.heap.size ≤ q) s.heap H locs → W p l e room_1 s m #[Value.ref b] below meth c H locs cells slots Q (F0 m 780 ls [])) : W p l e room_1 s m #[Value.ref b] below meth c H locs cells slots Q (F0 m 372 ls []) := by
  obtain ⟨hx, hb, hr, hml, hown, hts, hX, hbl, hlocks, hgv⟩ := C0
  have hts2 : ∀ w ∈ ww_tbl, w.before #[Value.ref b] s = true := fun w hw => hts w (List.mem_filter.mp hw).1
  have hA : ∀ q : Nat, s.heap.size ≤ q → (fun q : Nat => s.heap.size ≤ q) q := fun _ h => h
  have hbA : ¬ (fun q : Nat => s.heap.size ≤ q) b := Nat.not_le.mpr hbl
  obtain ⟨u, v, hu, hv, huv, hR2⟩ := hSim (xs (x3 + 1).toNatClampNeg)  σ τ hR
  refine lv_aload_n hx hb dl_372 rfl (lv_at hl 1 rfl) ?_
  refine lv_aload_n hx hb dl_373 rfl (lv_at hl 0 rfl) ?_
  refine lv_iload_n hx hb dl_374 rfl (lv_at hl 3 rfl) ?_
  refine lv_iconst (v := 1) hx hb dl_375 (by decide) ?_
  refine lv_iadd hx hb dl_376 ?_
  refine va_sld hx hb hX hbl hbA hS (lq_in (j := 1) rfl (by decide) hi hL ex3) dl_377 ?_
  refine lq_callL cp_OK (a := a) (own := R_law) (cc := code) (nL := 4) hx hb hml hown hts2 hK hN (mm_wo sr ca a2 τ ++ []) hP hD hS hA (M := cp_74) [.int (xs (x3 + 1).toNatClampNeg)] hu rfl rfl rfl (ww_c2 55 rfl rfl) (ww_c2 56 rfl rfl) (ww_c2 57 rfl rfl) (show mm_par cp_74.2.1 1 by decide +kernel) ⟨by decide, by decide⟩ (rest := []) hl.1 (by simp [Value.category]) dl_378 hcs (st2 := [.int u.1]) rfl rfl (fun H locs hP hD hS => ?_)
  refine lv_aload_n hx hb dl_381 rfl (lv_at hl 2 rfl) ?_
  refine lv_aload_n hx hb dl_382 rfl (lv_at hl 0 rfl) ?_
  refine lv_iload_n hx hb dl_383 rfl (lv_at hl 3 rfl) ?_
  refine lv_iconst (v := 1) hx hb dl_384 (by decide) ?_
  refine lv_iadd hx hb dl_385 ?_
  refine va_sld hx hb hX hbl hbA hS (lq_in (j := 1) rfl (by decide) hi hL ex3) dl_386 ?_
  refine lq_callR rp_OK (a := a2) (own := R_law) (cc := code) (nL := 4) hx hb hml hown hts2 hK hN (mm_wo sc ca a u.2.2) [] hP hD hS hA (M := rp_23) [.int (xs (x3 + 1).toNatClampNeg)] hv rfl rfl rfl (ww_c4 74 rfl rfl) (ww_c4 75 rfl rfl) (ww_c4 76 rfl rfl) (show mm_par rp_23.2.1 1 by decide +kernel) ⟨by decide, by decide⟩ (rest := [.int u.1]) hl.1 (by simp [Value.category]) dl_387 hcs (st2 := [.int v.1, .int u.1]) rfl rfl (fun H locs hP hD hS => ?_)
  refine lv_icmp_eq (tgt := 780) hx hb dl_390 (by decide) (fun _ => ?_) (fun hc => absurd huv hc)
  exact hk u.2.2 v.2.2 H locs hR2 hP hD hS
set_option maxRecDepth 100000 in
set_option maxHeartbeats 4000000 in
theorem lq_c_fits {p : Program} {l : Launch} {e : Env} {s : State} {m : MethodId} {below : List Frame} {meth : Method} {c : Code} {b L : Nat} {xs : Nat → Int32} (hL : L ≤ 3072) (C0 : lw_At p s m meth c b L xs) {R : mm_S → mm_S → Prop} {D : va_G} {ca : Nat → ClassId} {a a2 : Nat → Nat} (hK : va_K D ww_cl (mm_tys ca) s) (hN : mm_Nk ww_nst s) {cells slots : Nat} (hcs : cells ≤ room_1.cells ∧ slots ≤ room_1.slots) {Q : State → Prop} (hSim : lq_S_fits R) {σ τ : mm_S} (hR : R σ τ) {H : Heap} {locs : List Loc} (hP : va_P D ww_cl (mm_wo sc ca a σ ++ (mm_wo sr ca a2 τ ++ [])) H) (hD : va_D (fun q : Nat => s.heap.size ≤ q) (mm_wo sc ca a σ ++ (mm_wo sr ca a2 τ ++ []))) (hS : va_S (fun q : Nat => s.heap.size ≤ q) s.heap H locs) {i : Nat} {x3 : Int32} (hi : i + 6 ≤ L) (ex3 : x3 = nI i) {ls : Array Slot} (hl : lv_has ls 4 [(0, .ref b), (1, .ref (a 0)), (2, .ref (a2 0)), (3, .int x3)]) (hk : ∀ (σ τ : mm_S) (H : Heap) (locs : List Loc), R σ τ → va_P D ww_cl (mm_wo sc ca a σ ++ (mm_wo sr ca a2 τ ++ [])) H → va_D (fun q : Nat => s.heap.size ≤ q) (mm_wo sc ca a σ ++ (mm_wo sr ca a2 τ ++ [])) → va_S (fun q : Nat => s.heap.size ≤ q) s.heap H locs → W p l e room_1 s m #[Value.ref b] below meth c H locs cells slots Q (F0 m 780 ls [])) : W p l e room_1 s m #[Value.ref b] below meth c H locs cells slots Q (F0 m 395 ls []) := by
  obtain ⟨hx, hb, hr, hml, hown, hts, hX, hbl, hlocks, hgv⟩ := C0
  have hts2 : ∀ w ∈ ww_tbl, w.before #[Value.ref b] s = true := fun w hw => hts w (List.mem_filter.mp hw).1
  have hA : ∀ q : Nat, s.heap.size ≤ q → (fun q : Nat => s.heap.size ≤ q) q := fun _ h => h
  have hbA : ¬ (fun q : Nat => s.heap.size ≤ q) b := Nat.not_le.mpr hbl
  obtain ⟨u, v, hu, hv, huv, hR2⟩ := hSim (xs (x3 + 1).toNatClampNeg) (xs (x3 + 2).toNatClampNeg)  σ τ hR
  refine lv_aload_n hx hb dl_395 rfl (lv_at hl 1 rfl) ?_
  refine lv_aload_n hx hb dl_396 rfl (lv_at hl 0 rfl) ?_
  refine lv_iload_n hx hb dl_397 rfl (lv_at hl 3 rfl) ?_
  refine lv_iconst (v := 1) hx hb dl_398 (by decide) ?_
  refine lv_iadd hx hb dl_399 ?_
  refine va_sld hx hb hX hbl hbA hS (lq_in (j := 1) rfl (by decide) hi hL ex3) dl_400 ?_
  refine lv_aload_n hx hb dl_401 rfl (lv_at hl 0 rfl) ?_
  refine lv_iload_n hx hb dl_402 rfl (lv_at hl 3 rfl) ?_
  refine lv_iconst (v := 2) hx hb dl_403 (by decide) ?_
  refine lv_iadd hx hb dl_404 ?_
  refine va_sld hx hb hX hbl hbA hS (lq_in (j := 2) rfl (by decide) hi hL ex3) dl_405 ?_
  refine lq_callL cp_OK (a := a) (own := R_law) (cc := code) (nL := 4) hx hb hml hown hts2 hK hN (mm_wo sr ca a2 τ ++ []) hP hD hS hA (M := cp_75) [.int (xs (x3 + 1).toNatClampNeg), .int (xs (x3 + 2).toNatClampNeg)] hu rfl rfl rfl (ww_c2 76 rfl rfl) (ww_c2 77 rfl rfl) (ww_c2 78 rfl rfl) (show mm_par cp_75.2.1 2 by decide +kernel) ⟨by decide, by decide⟩ (rest := []) hl.1 (by simp [Value.category]) dl_406 hcs (st2 := [.int u.1]) rfl rfl (fun H locs hP hD hS => ?_)
  refine lv_aload_n hx hb dl_409 rfl (lv_at hl 2 rfl) ?_
  refine lv_aload_n hx hb dl_410 rfl (lv_at hl 0 rfl) ?_
  refine lv_iload_n hx hb dl_411 rfl (lv_at hl 3 rfl) ?_
  refine lv_iconst (v := 1) hx hb dl_412 (by decide) ?_
  refine lv_iadd hx hb dl_413 ?_
  refine va_sld hx hb hX hbl hbA hS (lq_in (j := 1) rfl (by decide) hi hL ex3) dl_414 ?_
  refine lv_aload_n hx hb dl_415 rfl (lv_at hl 0 rfl) ?_
  refine lv_iload_n hx hb dl_416 rfl (lv_at hl 3 rfl) ?_
  refine lv_iconst (v := 2) hx hb dl_417 (by decide) ?_
  refine lv_iadd hx hb dl_418 ?_
  refine va_sld hx hb hX hbl hbA hS (lq_in (j := 2) rfl (by decide) hi hL ex3) dl_419 ?_
  refine lq_callR rp_OK (a := a2) (own := R_law) (cc := code) (nL := 4) hx hb hml hown hts2 hK hN (mm_wo sc ca a u.2.2) [] hP hD hS hA (M := rp_24) [.int (xs (x3 + 1).toNatClampNeg), .int (xs (x3 + 2).toNatClampNeg)] hv rfl rfl rfl (ww_c4 91 rfl rfl) (ww_c4 92 rfl rfl) (ww_c4 93 rfl rfl) (show mm_par rp_24.2.1 2 by decide +kernel) ⟨by decide, by decide⟩ (rest := [.int u.1]) hl.1 (by simp [Value.category]) dl_420 hcs (st2 := [.int v.1, .int u.1]) rfl rfl (fun H locs hP hD hS => ?_)
  refine lv_icmp_eq (tgt := 780) hx hb dl_423 (by decide) (fun _ => ?_) (fun hc => absurd huv hc)
  exact hk u.2.2 v.2.2 H locs hR2 hP hD hS
set_option maxRecDepth 100000 in
set_option maxHeartbeats 4000000 in
theorem lq_c_candidates {p : Program} {l : Launch} {e : Env} {s : State} {m : MethodId} {below : List Frame} {meth : Method} {c : Code} {b L : Nat} {xs : Nat → Int32} (hL : L ≤ 3072) (C0 : lw_At p s m meth c b L xs) {R : mm_S → mm_S → Prop} {D : va_G} {ca : Nat → ClassId} {a a2 : Nat → Nat} (hK : va_K D ww_cl (mm_tys ca) s) (hN : mm_Nk ww_nst s) {cells slots : Nat} (hcs : cells ≤ room_1.cells ∧ slots ≤ room_1.slots) {Q : State → Prop} (hSim : lq_S_candidates R) {σ τ : mm_S} (hR : R σ τ) {H : Heap} {locs : List Loc} (hP : va_P D ww_cl (mm_wo sc ca a σ ++ (mm_wo sr ca a2 τ ++ [])) H) (hD : va_D (fun q : Nat => s.heap.size ≤ q) (mm_wo sc ca a σ ++ (mm_wo sr ca a2 τ ++ []))) (hS : va_S (fun q : Nat => s.heap.size ≤ q) s.heap H locs) {i : Nat} {x3 : Int32} (hi : i + 6 ≤ L) (ex3 : x3 = nI i) {ls : Array Slot} (hl : lv_has ls 4 [(0, .ref b), (1, .ref (a 0)), (2, .ref (a2 0)), (3, .int x3)]) (hk : ∀ (σ τ : mm_S) (H : Heap) (locs : List Loc), R σ τ → va_P D ww_cl (mm_wo sc ca a σ ++ (mm_wo sr ca a2 τ ++ [])) H → va_D (fun q : Nat => s.heap.size ≤ q) (mm_wo sc ca a σ ++ (mm_wo sr ca a2 τ ++ [])) → va_S (fun q : Nat => s.heap.size ≤ q) s.heap H locs → W p l e room_1 s m #[Value.ref b] below meth c H locs cells slots Q (F0 m 780 ls [])) : W p l e room_1 s m #[Value.ref b] below meth c H locs cells slots Q (F0 m 428 ls []) := by
  obtain ⟨hx, hb, hr, hml, hown, hts, hX, hbl, hlocks, hgv⟩ := C0
  have hts2 : ∀ w ∈ ww_tbl, w.before #[Value.ref b] s = true := fun w hw => hts w (List.mem_filter.mp hw).1
  have hA : ∀ q : Nat, s.heap.size ≤ q → (fun q : Nat => s.heap.size ≤ q) q := fun _ h => h
  have hbA : ¬ (fun q : Nat => s.heap.size ≤ q) b := Nat.not_le.mpr hbl
  obtain ⟨u, v, hu, hv, huv, hR2⟩ := hSim (xs (x3 + 1).toNatClampNeg) (xs (x3 + 2).toNatClampNeg)  σ τ hR
  refine lv_aload_n hx hb dl_428 rfl (lv_at hl 1 rfl) ?_
  refine lv_aload_n hx hb dl_429 rfl (lv_at hl 0 rfl) ?_
  refine lv_iload_n hx hb dl_430 rfl (lv_at hl 3 rfl) ?_
  refine lv_iconst (v := 1) hx hb dl_431 (by decide) ?_
  refine lv_iadd hx hb dl_432 ?_
  refine va_sld hx hb hX hbl hbA hS (lq_in (j := 1) rfl (by decide) hi hL ex3) dl_433 ?_
  refine lv_aload_n hx hb dl_434 rfl (lv_at hl 0 rfl) ?_
  refine lv_iload_n hx hb dl_435 rfl (lv_at hl 3 rfl) ?_
  refine lv_iconst (v := 2) hx hb dl_436 (by decide) ?_
  refine lv_iadd hx hb dl_437 ?_
  refine va_sld hx hb hX hbl hbA hS (lq_in (j := 2) rfl (by decide) hi hL ex3) dl_438 ?_
  refine lq_callL cp_OK (a := a) (own := R_law) (cc := code) (nL := 4) hx hb hml hown hts2 hK hN (mm_wo sr ca a2 τ ++ []) hP hD hS hA (M := cp_76) [.int (xs (x3 + 1).toNatClampNeg), .int (xs (x3 + 2).toNatClampNeg)] hu rfl rfl rfl (ww_c2 91 rfl rfl) (ww_c2 92 rfl rfl) (ww_c2 93 rfl rfl) (show mm_par cp_76.2.1 2 by decide +kernel) ⟨by decide, by decide⟩ (rest := []) hl.1 (by simp [Value.category]) dl_439 hcs (st2 := [.int u.1]) rfl rfl (fun H locs hP hD hS => ?_)
  refine lv_aload_n hx hb dl_442 rfl (lv_at hl 2 rfl) ?_
  refine lv_aload_n hx hb dl_443 rfl (lv_at hl 0 rfl) ?_
  refine lv_iload_n hx hb dl_444 rfl (lv_at hl 3 rfl) ?_
  refine lv_iconst (v := 1) hx hb dl_445 (by decide) ?_
  refine lv_iadd hx hb dl_446 ?_
  refine va_sld hx hb hX hbl hbA hS (lq_in (j := 1) rfl (by decide) hi hL ex3) dl_447 ?_
  refine lv_aload_n hx hb dl_448 rfl (lv_at hl 0 rfl) ?_
  refine lv_iload_n hx hb dl_449 rfl (lv_at hl 3 rfl) ?_
  refine lv_iconst (v := 2) hx hb dl_450 (by decide) ?_
  refine lv_iadd hx hb dl_451 ?_
  refine va_sld hx hb hX hbl hbA hS (lq_in (j := 2) rfl (by decide) hi hL ex3) dl_452 ?_
  refine lq_callR rp_OK (a := a2) (own := R_law) (cc := code) (nL := 4) hx hb hml hown hts2 hK hN (mm_wo sc ca a u.2.2) [] hP hD hS hA (M := rp_25) [.int (xs (x3 + 1).toNatClampNeg), .int (xs (x3 + 2).toNatClampNeg)] hv rfl rfl rfl (ww_c4 106 rfl rfl) (ww_c4 107 rfl rfl) (ww_c4 108 rfl rfl) (show mm_par rp_25.2.1 2 by decide +kernel) ⟨by decide, by decide⟩ (rest := [.int u.1]) hl.1 (by simp [Value.category]) dl_453 hcs (st2 := [.int v.1, .int u.1]) rfl rfl (fun H locs hP hD hS => ?_)
  refine lv_icmp_eq (tgt := 780) hx hb dl_456 (by decide) (fun _ => ?_) (fun hc => absurd huv hc)
  exact hk u.2.2 v.2.2 H locs hR2 hP hD hS
set_option maxRecDepth 100000 in
set_option maxHeartbeats 4000000 in
theorem lq_c_resolve {p : Program} {l : Launch} {e : Env} {s : State} {m : MethodId} {below : List Frame} {meth : Method} {c : Code} {b L : Nat} {xs : Nat → Int32} (hL : L ≤ 3072) (C0 : lw_At p s m meth c b L xs) {R : mm_S → mm_S → Prop} {D : va_G} {ca : Nat → ClassId} {a a2 : Nat → Nat} (hK : va_K D ww_cl (mm_tys ca) s) (hN : mm_Nk ww_nst s) {cells slots : Nat} (hcs : cells ≤ room_1.cells ∧ slots ≤ room_1.slots) {Q : State → Prop} (hSim : lq_S_resolve R) {σ τ : mm_S} (hR : R σ τ) {H : Heap} {locs : List Loc} (hP : va_P D ww_cl (mm_wo sc ca a σ ++ (mm_wo sr ca a2 τ ++ [])) H) (hD : va_D (fun q : Nat => s.heap.size ≤ q) (mm_wo sc ca a σ ++ (mm_wo sr ca a2 τ ++ []))) (hS : va_S (fun q : Nat => s.heap.size ≤ q) s.heap H locs) {i : Nat} {x3 : Int32} (hi : i + 6 ≤ L) (ex3 : x3 = nI i) {ls : Array Slot} (hl : lv_has ls 4 [(0, .ref b), (1, .ref (a 0)), (2, .ref (a2 0)), (3, .int x3)]) (hk : ∀ (σ τ : mm_S) (H : Heap) (locs : List Loc), R σ τ → va_P D ww_cl (mm_wo sc ca a σ ++ (mm_wo sr ca a2 τ ++ [])) H → va_D (fun q : Nat => s.heap.size ≤ q) (mm_wo sc ca a σ ++ (mm_wo sr ca a2 τ ++ [])) → va_S (fun q : Nat => s.heap.size ≤ q) s.heap H locs → W p l e room_1 s m #[Value.ref b] below meth c H locs cells slots Q (F0 m 780 ls [])) : W p l e room_1 s m #[Value.ref b] below meth c H locs cells slots Q (F0 m 461 ls []) := by
  obtain ⟨hx, hb, hr, hml, hown, hts, hX, hbl, hlocks, hgv⟩ := C0
  have hts2 : ∀ w ∈ ww_tbl, w.before #[Value.ref b] s = true := fun w hw => hts w (List.mem_filter.mp hw).1
  have hA : ∀ q : Nat, s.heap.size ≤ q → (fun q : Nat => s.heap.size ≤ q) q := fun _ h => h
  have hbA : ¬ (fun q : Nat => s.heap.size ≤ q) b := Nat.not_le.mpr hbl
  obtain ⟨u, v, hu, hv, huv, hR2⟩ := hSim (xs (x3 + 1).toNatClampNeg) (xs (x3 + 2).toNatClampNeg)  σ τ hR
  refine lv_aload_n hx hb dl_461 rfl (lv_at hl 1 rfl) ?_
  refine lv_aload_n hx hb dl_462 rfl (lv_at hl 0 rfl) ?_
  refine lv_iload_n hx hb dl_463 rfl (lv_at hl 3 rfl) ?_
  refine lv_iconst (v := 1) hx hb dl_464 (by decide) ?_
  refine lv_iadd hx hb dl_465 ?_
  refine va_sld hx hb hX hbl hbA hS (lq_in (j := 1) rfl (by decide) hi hL ex3) dl_466 ?_
  refine lv_aload_n hx hb dl_467 rfl (lv_at hl 0 rfl) ?_
  refine lv_iload_n hx hb dl_468 rfl (lv_at hl 3 rfl) ?_
  refine lv_iconst (v := 2) hx hb dl_469 (by decide) ?_
  refine lv_iadd hx hb dl_470 ?_
  refine va_sld hx hb hX hbl hbA hS (lq_in (j := 2) rfl (by decide) hi hL ex3) dl_471 ?_
  refine lq_callL cp_OK (a := a) (own := R_law) (cc := code) (nL := 4) hx hb hml hown hts2 hK hN (mm_wo sr ca a2 τ ++ []) hP hD hS hA (M := cp_77) [.int (xs (x3 + 1).toNatClampNeg), .int (xs (x3 + 2).toNatClampNeg)] hu rfl rfl rfl (ww_c2 115 rfl rfl) (ww_c2 116 rfl rfl) (ww_c2 117 rfl rfl) (show mm_par cp_77.2.1 2 by decide +kernel) ⟨by decide, by decide⟩ (rest := []) hl.1 (by simp [Value.category]) dl_472 hcs (st2 := [.int u.1]) rfl rfl (fun H locs hP hD hS => ?_)
  refine lv_aload_n hx hb dl_475 rfl (lv_at hl 2 rfl) ?_
  refine lv_aload_n hx hb dl_476 rfl (lv_at hl 0 rfl) ?_
  refine lv_iload_n hx hb dl_477 rfl (lv_at hl 3 rfl) ?_
  refine lv_iconst (v := 1) hx hb dl_478 (by decide) ?_
  refine lv_iadd hx hb dl_479 ?_
  refine va_sld hx hb hX hbl hbA hS (lq_in (j := 1) rfl (by decide) hi hL ex3) dl_480 ?_
  refine lv_aload_n hx hb dl_481 rfl (lv_at hl 0 rfl) ?_
  refine lv_iload_n hx hb dl_482 rfl (lv_at hl 3 rfl) ?_
  refine lv_iconst (v := 2) hx hb dl_483 (by decide) ?_
  refine lv_iadd hx hb dl_484 ?_
  refine va_sld hx hb hX hbl hbA hS (lq_in (j := 2) rfl (by decide) hi hL ex3) dl_485 ?_
  refine lq_callR rp_OK (a := a2) (own := R_law) (cc := code) (nL := 4) hx hb hml hown hts2 hK hN (mm_wo sc ca a u.2.2) [] hP hD hS hA (M := rp_26) [.int (xs (x3 + 1).toNatClampNeg), .int (xs (x3 + 2).toNatClampNeg)] hv rfl rfl rfl (ww_c4 125 rfl rfl) (ww_c4 126 rfl rfl) (ww_c4 127 rfl rfl) (show mm_par rp_26.2.1 2 by decide +kernel) ⟨by decide, by decide⟩ (rest := [.int u.1]) hl.1 (by simp [Value.category]) dl_486 hcs (st2 := [.int v.1, .int u.1]) rfl rfl (fun H locs hP hD hS => ?_)
  refine lv_icmp_eq (tgt := 780) hx hb dl_489 (by decide) (fun _ => ?_) (fun hc => absurd huv hc)
  exact hk u.2.2 v.2.2 H locs hR2 hP hD hS
set_option maxRecDepth 100000 in
set_option maxHeartbeats 4000000 in
theorem lq_c_deploy {p : Program} {l : Launch} {e : Env} {s : State} {m : MethodId} {below : List Frame} {meth : Method} {c : Code} {b L : Nat} {xs : Nat → Int32} (hL : L ≤ 3072) (C0 : lw_At p s m meth c b L xs) {R : mm_S → mm_S → Prop} {D : va_G} {ca : Nat → ClassId} {a a2 : Nat → Nat} (hK : va_K D ww_cl (mm_tys ca) s) (hN : mm_Nk ww_nst s) {cells slots : Nat} (hcs : cells ≤ room_1.cells ∧ slots ≤ room_1.slots) {Q : State → Prop} (hSim : lq_S_deploy R) {σ τ : mm_S} (hR : R σ τ) {H : Heap} {locs : List Loc} (hP : va_P D ww_cl (mm_wo sc ca a σ ++ (mm_wo sr ca a2 τ ++ [])) H) (hD : va_D (fun q : Nat => s.heap.size ≤ q) (mm_wo sc ca a σ ++ (mm_wo sr ca a2 τ ++ []))) (hS : va_S (fun q : Nat => s.heap.size ≤ q) s.heap H locs) {i : Nat} {x3 : Int32} (hi : i + 6 ≤ L) (ex3 : x3 = nI i) {ls : Array Slot} (hl : lv_has ls 4 [(0, .ref b), (1, .ref (a 0)), (2, .ref (a2 0)), (3, .int x3)]) (hk : ∀ (σ τ : mm_S) (H : Heap) (locs : List Loc), R σ τ → va_P D ww_cl (mm_wo sc ca a σ ++ (mm_wo sr ca a2 τ ++ [])) H → va_D (fun q : Nat => s.heap.size ≤ q) (mm_wo sc ca a σ ++ (mm_wo sr ca a2 τ ++ [])) → va_S (fun q : Nat => s.heap.size ≤ q) s.heap H locs → W p l e room_1 s m #[Value.ref b] below meth c H locs cells slots Q (F0 m 780 ls [])) : W p l e room_1 s m #[Value.ref b] below meth c H locs cells slots Q (F0 m 494 ls []) := by
  obtain ⟨hx, hb, hr, hml, hown, hts, hX, hbl, hlocks, hgv⟩ := C0
  have hts2 : ∀ w ∈ ww_tbl, w.before #[Value.ref b] s = true := fun w hw => hts w (List.mem_filter.mp hw).1
  have hA : ∀ q : Nat, s.heap.size ≤ q → (fun q : Nat => s.heap.size ≤ q) q := fun _ h => h
  have hbA : ¬ (fun q : Nat => s.heap.size ≤ q) b := Nat.not_le.mpr hbl
  obtain ⟨u, v, hu, hv, huv, hR2⟩ := hSim   σ τ hR
  refine lv_aload_n hx hb dl_494 rfl (lv_at hl 1 rfl) ?_
  refine lq_callL cp_OK (a := a) (own := R_law) (cc := code) (nL := 4) hx hb hml hown hts2 hK hN (mm_wo sr ca a2 τ ++ []) hP hD hS hA (M := cp_78) [] hu rfl rfl rfl (ww_c2 134 rfl rfl) (ww_c2 135 rfl rfl) (ww_c2 136 rfl rfl) (show mm_par cp_78.2.1 0 by decide +kernel) ⟨by decide, by decide⟩ (rest := []) hl.1 (by simp [Value.category]) dl_495 hcs (st2 := [.int u.1]) rfl rfl (fun H locs hP hD hS => ?_)
  refine lv_aload_n hx hb dl_498 rfl (lv_at hl 2 rfl) ?_
  refine lq_callR rp_OK (a := a2) (own := R_law) (cc := code) (nL := 4) hx hb hml hown hts2 hK hN (mm_wo sc ca a u.2.2) [] hP hD hS hA (M := rp_32) [] hv rfl rfl rfl (ww_c4 141 rfl rfl) (ww_c4 142 rfl rfl) (ww_c4 143 rfl rfl) (show mm_par rp_32.2.1 0 by decide +kernel) ⟨by decide, by decide⟩ (rest := [.int u.1]) hl.1 (by simp [Value.category]) dl_499 hcs (st2 := [.int v.1, .int u.1]) rfl rfl (fun H locs hP hD hS => ?_)
  refine lv_icmp_eq (tgt := 780) hx hb dl_502 (by decide) (fun _ => ?_) (fun hc => absurd huv hc)
  exact hk u.2.2 v.2.2 H locs hR2 hP hD hS
set_option maxRecDepth 100000 in
set_option maxHeartbeats 4000000 in
theorem lq_c_cost {p : Program} {l : Launch} {e : Env} {s : State} {m : MethodId} {below : List Frame} {meth : Method} {c : Code} {b L : Nat} {xs : Nat → Int32} (hL : L ≤ 3072) (C0 : lw_At p s m meth c b L xs) {R : mm_S → mm_S → Prop} {D : va_G} {ca : Nat → ClassId} {a a2 : Nat → Nat} (hK : va_K D ww_cl (mm_tys ca) s) (hN : mm_Nk ww_nst s) {cells slots : Nat} (hcs : cells ≤ room_1.cells ∧ slots ≤ room_1.slots) {Q : State → Prop} (hSim : lq_S_cost R) {σ τ : mm_S} (hR : R σ τ) {H : Heap} {locs : List Loc} (hP : va_P D ww_cl (mm_wo sc ca a σ ++ (mm_wo sr ca a2 τ ++ [])) H) (hD : va_D (fun q : Nat => s.heap.size ≤ q) (mm_wo sc ca a σ ++ (mm_wo sr ca a2 τ ++ []))) (hS : va_S (fun q : Nat => s.heap.size ≤ q) s.heap H locs) {i : Nat} {x3 : Int32} (hi : i + 6 ≤ L) (ex3 : x3 = nI i) {ls : Array Slot} (hl : lv_has ls 4 [(0, .ref b), (1, .ref (a 0)), (2, .ref (a2 0)), (3, .int x3)]) (hk : ∀ (σ τ : mm_S) (H : Heap) (locs : List Loc), R σ τ → va_P D ww_cl (mm_wo sc ca a σ ++ (mm_wo sr ca a2 τ ++ [])) H → va_D (fun q : Nat => s.heap.size ≤ q) (mm_wo sc ca a σ ++ (mm_wo sr ca a2 τ ++ [])) → va_S (fun q : Nat => s.heap.size ≤ q) s.heap H locs → W p l e room_1 s m #[Value.ref b] below meth c H locs cells slots Q (F0 m 780 ls [])) : W p l e room_1 s m #[Value.ref b] below meth c H locs cells slots Q (F0 m 507 ls []) := by
  obtain ⟨hx, hb, hr, hml, hown, hts, hX, hbl, hlocks, hgv⟩ := C0
  have hts2 : ∀ w ∈ ww_tbl, w.before #[Value.ref b] s = true := fun w hw => hts w (List.mem_filter.mp hw).1
  have hA : ∀ q : Nat, s.heap.size ≤ q → (fun q : Nat => s.heap.size ≤ q) q := fun _ h => h
  have hbA : ¬ (fun q : Nat => s.heap.size ≤ q) b := Nat.not_le.mpr hbl
  obtain ⟨u, v, hu, hv, huv, hR2⟩ := hSim (xs (x3 + 1).toNatClampNeg)  σ τ hR
  refine lv_aload_n hx hb dl_507 rfl (lv_at hl 1 rfl) ?_
  refine lv_aload_n hx hb dl_508 rfl (lv_at hl 0 rfl) ?_
  refine lv_iload_n hx hb dl_509 rfl (lv_at hl 3 rfl) ?_
  refine lv_iconst (v := 1) hx hb dl_510 (by decide) ?_
  refine lv_iadd hx hb dl_511 ?_
  refine va_sld hx hb hX hbl hbA hS (lq_in (j := 1) rfl (by decide) hi hL ex3) dl_512 ?_
  refine lq_callL cp_OK (a := a) (own := R_law) (cc := code) (nL := 4) hx hb hml hown hts2 hK hN (mm_wo sr ca a2 τ ++ []) hP hD hS hA (M := cp_79) [.int (xs (x3 + 1).toNatClampNeg)] hu rfl rfl rfl (ww_c2 227 rfl rfl) (ww_c2 228 rfl rfl) (ww_c2 229 rfl rfl) (show mm_par cp_79.2.1 1 by decide +kernel) ⟨by decide, by decide⟩ (rest := []) hl.1 (by simp [Value.category]) dl_513 hcs (st2 := [.int u.1]) rfl rfl (fun H locs hP hD hS => ?_)
  refine lv_aload_n hx hb dl_516 rfl (lv_at hl 2 rfl) ?_
  refine lv_aload_n hx hb dl_517 rfl (lv_at hl 0 rfl) ?_
  refine lv_iload_n hx hb dl_518 rfl (lv_at hl 3 rfl) ?_
  refine lv_iconst (v := 1) hx hb dl_519 (by decide) ?_
  refine lv_iadd hx hb dl_520 ?_
  refine va_sld hx hb hX hbl hbA hS (lq_in (j := 1) rfl (by decide) hi hL ex3) dl_521 ?_
  refine lq_callR rp_OK (a := a2) (own := R_law) (cc := code) (nL := 4) hx hb hml hown hts2 hK hN (mm_wo sc ca a u.2.2) [] hP hD hS hA (M := rp_33) [.int (xs (x3 + 1).toNatClampNeg)] hv rfl rfl rfl (ww_c4 165 rfl rfl) (ww_c4 166 rfl rfl) (ww_c4 167 rfl rfl) (show mm_par rp_33.2.1 1 by decide +kernel) ⟨by decide, by decide⟩ (rest := [.int u.1]) hl.1 (by simp [Value.category]) dl_522 hcs (st2 := [.int v.1, .int u.1]) rfl rfl (fun H locs hP hD hS => ?_)
  refine lv_icmp_eq (tgt := 780) hx hb dl_525 (by decide) (fun _ => ?_) (fun hc => absurd huv hc)
  exact hk u.2.2 v.2.2 H locs hR2 hP hD hS
set_option maxRecDepth 100000 in
set_option maxHeartbeats 4000000 in
theorem lq_c_begin {p : Program} {l : Launch} {e : Env} {s : State} {m : MethodId} {below : List Frame} {meth : Method} {c : Code} {b L : Nat} {xs : Nat → Int32} (hL : L ≤ 3072) (C0 : lw_At p s m meth c b L xs) {R : mm_S → mm_S → Prop} {D : va_G} {ca : Nat → ClassId} {a a2 : Nat → Nat} (hK : va_K D ww_cl (mm_tys ca) s) (hN : mm_Nk ww_nst s) {cells slots : Nat} (hcs : cells ≤ room_1.cells ∧ slots ≤ room_1.slots) {Q : State → Prop} (hSim : lq_S_begin R) {σ τ : mm_S} (hR : R σ τ) {H : Heap} {locs : List Loc} (hP : va_P D ww_cl (mm_wo sc ca a σ ++ (mm_wo sr ca a2 τ ++ [])) H) (hD : va_D (fun q : Nat => s.heap.size ≤ q) (mm_wo sc ca a σ ++ (mm_wo sr ca a2 τ ++ []))) (hS : va_S (fun q : Nat => s.heap.size ≤ q) s.heap H locs) {i : Nat} {x3 : Int32} (hi : i + 6 ≤ L) (ex3 : x3 = nI i) {ls : Array Slot} (hl : lv_has ls 4 [(0, .ref b), (1, .ref (a 0)), (2, .ref (a2 0)), (3, .int x3)]) (hk : ∀ (σ τ : mm_S) (H : Heap) (locs : List Loc), R σ τ → va_P D ww_cl (mm_wo sc ca a σ ++ (mm_wo sr ca a2 τ ++ [])) H → va_D (fun q : Nat => s.heap.size ≤ q) (mm_wo sc ca a σ ++ (mm_wo sr ca a2 τ ++ [])) → va_S (fun q : Nat => s.heap.size ≤ q) s.heap H locs → W p l e room_1 s m #[Value.ref b] below meth c H locs cells slots Q (F0 m 780 ls [])) : W p l e room_1 s m #[Value.ref b] below meth c H locs cells slots Q (F0 m 530 ls []) := by
  obtain ⟨hx, hb, hr, hml, hown, hts, hX, hbl, hlocks, hgv⟩ := C0
  have hts2 : ∀ w ∈ ww_tbl, w.before #[Value.ref b] s = true := fun w hw => hts w (List.mem_filter.mp hw).1
  have hA : ∀ q : Nat, s.heap.size ≤ q → (fun q : Nat => s.heap.size ≤ q) q := fun _ h => h
  have hbA : ¬ (fun q : Nat => s.heap.size ≤ q) b := Nat.not_le.mpr hbl
  obtain ⟨u, v, hu, hv, huv, hR2⟩ := hSim (xs (x3 + 1).toNatClampNeg)  σ τ hR
  refine lv_aload_n hx hb dl_530 rfl (lv_at hl 1 rfl) ?_
  refine lv_aload_n hx hb dl_531 rfl (lv_at hl 0 rfl) ?_
  refine lv_iload_n hx hb dl_532 rfl (lv_at hl 3 rfl) ?_
  refine lv_iconst (v := 1) hx hb dl_533 (by decide) ?_
  refine lv_iadd hx hb dl_534 ?_
  refine va_sld hx hb hX hbl hbA hS (lq_in (j := 1) rfl (by decide) hi hL ex3) dl_535 ?_
  refine lq_callL cp_OK (a := a) (own := R_law) (cc := code) (nL := 4) hx hb hml hown hts2 hK hN (mm_wo sr ca a2 τ ++ []) hP hD hS hA (M := cp_80) [.int (xs (x3 + 1).toNatClampNeg)] hu rfl rfl rfl (ww_c2 233 rfl rfl) (ww_c2 234 rfl rfl) (ww_c2 235 rfl rfl) (show mm_par cp_80.2.1 1 by decide +kernel) ⟨by decide, by decide⟩ (rest := []) hl.1 (by simp [Value.category]) dl_536 hcs (st2 := [.int u.1]) rfl rfl (fun H locs hP hD hS => ?_)
  refine lv_aload_n hx hb dl_539 rfl (lv_at hl 2 rfl) ?_
  refine lv_aload_n hx hb dl_540 rfl (lv_at hl 0 rfl) ?_
  refine lv_iload_n hx hb dl_541 rfl (lv_at hl 3 rfl) ?_
  refine lv_iconst (v := 1) hx hb dl_542 (by decide) ?_
  refine lv_iadd hx hb dl_543 ?_
  refine va_sld hx hb hX hbl hbA hS (lq_in (j := 1) rfl (by decide) hi hL ex3) dl_544 ?_
  refine lq_callR rp_OK (a := a2) (own := R_law) (cc := code) (nL := 4) hx hb hml hown hts2 hK hN (mm_wo sc ca a u.2.2) [] hP hD hS hA (M := rp_43) [.int (xs (x3 + 1).toNatClampNeg)] hv rfl rfl rfl (ww_c4 169 rfl rfl) (ww_c4 170 rfl rfl) (ww_c4 171 rfl rfl) (show mm_par rp_43.2.1 1 by decide +kernel) ⟨by decide, by decide⟩ (rest := [.int u.1]) hl.1 (by simp [Value.category]) dl_545 hcs (st2 := [.int v.1, .int u.1]) rfl rfl (fun H locs hP hD hS => ?_)
  refine lv_icmp_eq (tgt := 780) hx hb dl_548 (by decide) (fun _ => ?_) (fun hc => absurd huv hc)
  exact hk u.2.2 v.2.2 H locs hR2 hP hD hS
set_option maxRecDepth 100000 in
set_option maxHeartbeats 4000000 in
theorem lq_c_end {p : Program} {l : Launch} {e : Env} {s : State} {m : MethodId} {below : List Frame} {meth : Method} {c : Code} {b L : Nat} {xs : Nat → Int32} (hL : L ≤ 3072) (C0 : lw_At p s m meth c b L xs) {R : mm_S → mm_S → Prop} {D : va_G} {ca : Nat → ClassId} {a a2 : Nat → Nat} (hK : va_K D ww_cl (mm_tys ca) s) (hN : mm_Nk ww_nst s) {cells slots : Nat} (hcs : cells ≤ room_1.cells ∧ slots ≤ room_1.slots) {Q : State → Prop} (hSim : lq_S_end R) {σ τ : mm_S} (hR : R σ τ) {H : Heap} {locs : List Loc} (hP : va_P D ww_cl (mm_wo sc ca a σ ++ (mm_wo sr ca a2 τ ++ [])) H) (hD : va_D (fun q : Nat => s.heap.size ≤ q) (mm_wo sc ca a σ ++ (mm_wo sr ca a2 τ ++ []))) (hS : va_S (fun q : Nat => s.heap.size ≤ q) s.heap H locs) {i : Nat} {x3 : Int32} (hi : i + 6 ≤ L) (ex3 : x3 = nI i) {ls : Array Slot} (hl : lv_has ls 4 [(0, .ref b), (1, .ref (a 0)), (2, .ref (a2 0)), (3, .int x3)]) (hk : ∀ (σ τ : mm_S) (H : Heap) (locs : List Loc), R σ τ → va_P D ww_cl (mm_wo sc ca a σ ++ (mm_wo sr ca a2 τ ++ [])) H → va_D (fun q : Nat => s.heap.size ≤ q) (mm_wo sc ca a σ ++ (mm_wo sr ca a2 τ ++ [])) → va_S (fun q : Nat => s.heap.size ≤ q) s.heap H locs → W p l e room_1 s m #[Value.ref b] below meth c H locs cells slots Q (F0 m 780 ls [])) : W p l e room_1 s m #[Value.ref b] below meth c H locs cells slots Q (F0 m 553 ls []) := by
  obtain ⟨hx, hb, hr, hml, hown, hts, hX, hbl, hlocks, hgv⟩ := C0
  have hts2 : ∀ w ∈ ww_tbl, w.before #[Value.ref b] s = true := fun w hw => hts w (List.mem_filter.mp hw).1
  have hA : ∀ q : Nat, s.heap.size ≤ q → (fun q : Nat => s.heap.size ≤ q) q := fun _ h => h
  have hbA : ¬ (fun q : Nat => s.heap.size ≤ q) b := Nat.not_le.mpr hbl
  obtain ⟨u, v, hu, hv, huv, hR2⟩ := hSim (xs (x3 + 1).toNatClampNeg)  σ τ hR
  refine lv_aload_n hx hb dl_553 rfl (lv_at hl 1 rfl) ?_
  refine lv_aload_n hx hb dl_554 rfl (lv_at hl 0 rfl) ?_
  refine lv_iload_n hx hb dl_555 rfl (lv_at hl 3 rfl) ?_
  refine lv_iconst (v := 1) hx hb dl_556 (by decide) ?_
  refine lv_iadd hx hb dl_557 ?_
  refine va_sld hx hb hX hbl hbA hS (lq_in (j := 1) rfl (by decide) hi hL ex3) dl_558 ?_
  refine lq_callL cp_OK (a := a) (own := R_law) (cc := code) (nL := 4) hx hb hml hown hts2 hK hN (mm_wo sr ca a2 τ ++ []) hP hD hS hA (M := cp_81) [.int (xs (x3 + 1).toNatClampNeg)] hu rfl rfl rfl (ww_c3 4 rfl rfl) (ww_c3 5 rfl rfl) (ww_c3 6 rfl rfl) (show mm_par cp_81.2.1 1 by decide +kernel) ⟨by decide, by decide⟩ (rest := []) hl.1 (by simp [Value.category]) dl_559 hcs (st2 := [.int u.1]) rfl rfl (fun H locs hP hD hS => ?_)
  refine lv_aload_n hx hb dl_562 rfl (lv_at hl 2 rfl) ?_
  refine lv_aload_n hx hb dl_563 rfl (lv_at hl 0 rfl) ?_
  refine lv_iload_n hx hb dl_564 rfl (lv_at hl 3 rfl) ?_
  refine lv_iconst (v := 1) hx hb dl_565 (by decide) ?_
  refine lv_iadd hx hb dl_566 ?_
  refine va_sld hx hb hX hbl hbA hS (lq_in (j := 1) rfl (by decide) hi hL ex3) dl_567 ?_
  refine lq_callR rp_OK (a := a2) (own := R_law) (cc := code) (nL := 4) hx hb hml hown hts2 hK hN (mm_wo sc ca a u.2.2) [] hP hD hS hA (M := rp_44) [.int (xs (x3 + 1).toNatClampNeg)] hv rfl rfl rfl (ww_c4 176 rfl rfl) (ww_c4 177 rfl rfl) (ww_c4 178 rfl rfl) (show mm_par rp_44.2.1 1 by decide +kernel) ⟨by decide, by decide⟩ (rest := [.int u.1]) hl.1 (by simp [Value.category]) dl_568 hcs (st2 := [.int v.1, .int u.1]) rfl rfl (fun H locs hP hD hS => ?_)
  refine lv_icmp_eq (tgt := 780) hx hb dl_571 (by decide) (fun _ => ?_) (fun hc => absurd huv hc)
  exact hk u.2.2 v.2.2 H locs hR2 hP hD hS
set_option maxRecDepth 100000 in
set_option maxHeartbeats 4000000 in
theorem lq_c_obtain {p : Program} {l : Launch} {e : Env} {s : State} {m : MethodId} {below : List Frame} {meth : Method} {c : Code} {b L : Nat} {xs : Nat → Int32} (hL : L ≤ 3072) (C0 : lw_At p s m meth c b L xs) {R : mm_S → mm_S → Prop} {D : va_G} {ca : Nat → ClassId} {a a2 : Nat → Nat} (hK : va_K D ww_cl (mm_tys ca) s) (hN : mm_Nk ww_nst s) {cells slots : Nat} (hcs : cells ≤ room_1.cells ∧ slots ≤ room_1.slots) {Q : State → Prop} (hSim : lq_S_obtain R) {σ τ : mm_S} (hR : R σ τ) {H : Heap} {locs : List Loc} (hP : va_P D ww_cl (mm_wo sc ca a σ ++ (mm_wo sr ca a2 τ ++ [])) H) (hD : va_D (fun q : Nat => s.heap.size ≤ q) (mm_wo sc ca a σ ++ (mm_wo sr ca a2 τ ++ []))) (hS : va_S (fun q : Nat => s.heap.size ≤ q) s.heap H locs) {i : Nat} {x3 : Int32} (hi : i + 6 ≤ L) (ex3 : x3 = nI i) {ls : Array Slot} (hl : lv_has ls 4 [(0, .ref b), (1, .ref (a 0)), (2, .ref (a2 0)), (3, .int x3)]) (hk : ∀ (σ τ : mm_S) (H : Heap) (locs : List Loc), R σ τ → va_P D ww_cl (mm_wo sc ca a σ ++ (mm_wo sr ca a2 τ ++ [])) H → va_D (fun q : Nat => s.heap.size ≤ q) (mm_wo sc ca a σ ++ (mm_wo sr ca a2 τ ++ [])) → va_S (fun q : Nat => s.heap.size ≤ q) s.heap H locs → W p l e room_1 s m #[Value.ref b] below meth c H locs cells slots Q (F0 m 780 ls [])) : W p l e room_1 s m #[Value.ref b] below meth c H locs cells slots Q (F0 m 576 ls []) := by
  obtain ⟨hx, hb, hr, hml, hown, hts, hX, hbl, hlocks, hgv⟩ := C0
  have hts2 : ∀ w ∈ ww_tbl, w.before #[Value.ref b] s = true := fun w hw => hts w (List.mem_filter.mp hw).1
  have hA : ∀ q : Nat, s.heap.size ≤ q → (fun q : Nat => s.heap.size ≤ q) q := fun _ h => h
  have hbA : ¬ (fun q : Nat => s.heap.size ≤ q) b := Nat.not_le.mpr hbl
  obtain ⟨u, v, hu, hv, huv, hR2⟩ := hSim (xs (x3 + 1).toNatClampNeg) (xs (x3 + 2).toNatClampNeg) (xs (x3 + 3).toNatClampNeg)  σ τ hR
  refine lv_aload_n hx hb dl_576 rfl (lv_at hl 1 rfl) ?_
  refine lv_aload_n hx hb dl_577 rfl (lv_at hl 0 rfl) ?_
  refine lv_iload_n hx hb dl_578 rfl (lv_at hl 3 rfl) ?_
  refine lv_iconst (v := 1) hx hb dl_579 (by decide) ?_
  refine lv_iadd hx hb dl_580 ?_
  refine va_sld hx hb hX hbl hbA hS (lq_in (j := 1) rfl (by decide) hi hL ex3) dl_581 ?_
  refine lv_aload_n hx hb dl_582 rfl (lv_at hl 0 rfl) ?_
  refine lv_iload_n hx hb dl_583 rfl (lv_at hl 3 rfl) ?_
  refine lv_iconst (v := 2) hx hb dl_584 (by decide) ?_
  refine lv_iadd hx hb dl_585 ?_
  refine va_sld hx hb hX hbl hbA hS (lq_in (j := 2) rfl (by decide) hi hL ex3) dl_586 ?_
  refine lv_aload_n hx hb dl_587 rfl (lv_at hl 0 rfl) ?_
  refine lv_iload_n hx hb dl_588 rfl (lv_at hl 3 rfl) ?_
  refine lv_iconst (v := 3) hx hb dl_589 (by decide) ?_
  refine lv_iadd hx hb dl_590 ?_
  refine va_sld hx hb hX hbl hbA hS (lq_in (j := 3) rfl (by decide) hi hL ex3) dl_591 ?_
  refine lq_callL cp_OK (a := a) (own := R_law) (cc := code) (nL := 4) hx hb hml hown hts2 hK hN (mm_wo sr ca a2 τ ++ []) hP hD hS hA (M := cp_82) [.int (xs (x3 + 1).toNatClampNeg), .int (xs (x3 + 2).toNatClampNeg), .int (xs (x3 + 3).toNatClampNeg)] hu rfl rfl rfl (ww_c3 33 rfl rfl) (ww_c3 34 rfl rfl) (ww_c3 35 rfl rfl) (show mm_par cp_82.2.1 3 by decide +kernel) ⟨by decide, by decide⟩ (rest := []) hl.1 (by simp [Value.category]) dl_592 hcs (st2 := [.int u.1]) rfl rfl (fun H locs hP hD hS => ?_)
  refine lv_aload_n hx hb dl_595 rfl (lv_at hl 2 rfl) ?_
  refine lv_aload_n hx hb dl_596 rfl (lv_at hl 0 rfl) ?_
  refine lv_iload_n hx hb dl_597 rfl (lv_at hl 3 rfl) ?_
  refine lv_iconst (v := 1) hx hb dl_598 (by decide) ?_
  refine lv_iadd hx hb dl_599 ?_
  refine va_sld hx hb hX hbl hbA hS (lq_in (j := 1) rfl (by decide) hi hL ex3) dl_600 ?_
  refine lv_aload_n hx hb dl_601 rfl (lv_at hl 0 rfl) ?_
  refine lv_iload_n hx hb dl_602 rfl (lv_at hl 3 rfl) ?_
  refine lv_iconst (v := 2) hx hb dl_603 (by decide) ?_
  refine lv_iadd hx hb dl_604 ?_
  refine va_sld hx hb hX hbl hbA hS (lq_in (j := 2) rfl (by decide) hi hL ex3) dl_605 ?_
  refine lv_aload_n hx hb dl_606 rfl (lv_at hl 0 rfl) ?_
  refine lv_iload_n hx hb dl_607 rfl (lv_at hl 3 rfl) ?_
  refine lv_iconst (v := 3) hx hb dl_608 (by decide) ?_
  refine lv_iadd hx hb dl_609 ?_
  refine va_sld hx hb hX hbl hbA hS (lq_in (j := 3) rfl (by decide) hi hL ex3) dl_610 ?_
  refine lq_callR rp_OK (a := a2) (own := R_law) (cc := code) (nL := 4) hx hb hml hown hts2 hK hN (mm_wo sc ca a u.2.2) [] hP hD hS hA (M := rp_45) [.int (xs (x3 + 1).toNatClampNeg), .int (xs (x3 + 2).toNatClampNeg), .int (xs (x3 + 3).toNatClampNeg)] hv rfl rfl rfl (ww_c4 188 rfl rfl) (ww_c4 189 rfl rfl) (ww_c4 190 rfl rfl) (show mm_par rp_45.2.1 3 by decide +kernel) ⟨by decide, by decide⟩ (rest := [.int u.1]) hl.1 (by simp [Value.category]) dl_611 hcs (st2 := [.int v.1, .int u.1]) rfl rfl (fun H locs hP hD hS => ?_)
  refine lv_icmp_eq (tgt := 780) hx hb dl_614 (by decide) (fun _ => ?_) (fun hc => absurd huv hc)
  exact hk u.2.2 v.2.2 H locs hR2 hP hD hS
set_option maxRecDepth 100000 in
set_option maxHeartbeats 4000000 in
theorem lq_c_call {p : Program} {l : Launch} {e : Env} {s : State} {m : MethodId} {below : List Frame} {meth : Method} {c : Code} {b L : Nat} {xs : Nat → Int32} (hL : L ≤ 3072) (C0 : lw_At p s m meth c b L xs) {R : mm_S → mm_S → Prop} {D : va_G} {ca : Nat → ClassId} {a a2 : Nat → Nat} (hK : va_K D ww_cl (mm_tys ca) s) (hN : mm_Nk ww_nst s) {cells slots : Nat} (hcs : cells ≤ room_1.cells ∧ slots ≤ room_1.slots) {Q : State → Prop} (hSim : lq_S_call R) {σ τ : mm_S} (hR : R σ τ) {H : Heap} {locs : List Loc} (hP : va_P D ww_cl (mm_wo sc ca a σ ++ (mm_wo sr ca a2 τ ++ [])) H) (hD : va_D (fun q : Nat => s.heap.size ≤ q) (mm_wo sc ca a σ ++ (mm_wo sr ca a2 τ ++ []))) (hS : va_S (fun q : Nat => s.heap.size ≤ q) s.heap H locs) {i : Nat} {x3 : Int32} (hi : i + 6 ≤ L) (ex3 : x3 = nI i) {ls : Array Slot} (hl : lv_has ls 4 [(0, .ref b), (1, .ref (a 0)), (2, .ref (a2 0)), (3, .int x3)]) (hk : ∀ (σ τ : mm_S) (H : Heap) (locs : List Loc), R σ τ → va_P D ww_cl (mm_wo sc ca a σ ++ (mm_wo sr ca a2 τ ++ [])) H → va_D (fun q : Nat => s.heap.size ≤ q) (mm_wo sc ca a σ ++ (mm_wo sr ca a2 τ ++ [])) → va_S (fun q : Nat => s.heap.size ≤ q) s.heap H locs → W p l e room_1 s m #[Value.ref b] below meth c H locs cells slots Q (F0 m 780 ls [])) : W p l e room_1 s m #[Value.ref b] below meth c H locs cells slots Q (F0 m 619 ls []) := by
  obtain ⟨hx, hb, hr, hml, hown, hts, hX, hbl, hlocks, hgv⟩ := C0
  have hts2 : ∀ w ∈ ww_tbl, w.before #[Value.ref b] s = true := fun w hw => hts w (List.mem_filter.mp hw).1
  have hA : ∀ q : Nat, s.heap.size ≤ q → (fun q : Nat => s.heap.size ≤ q) q := fun _ h => h
  have hbA : ¬ (fun q : Nat => s.heap.size ≤ q) b := Nat.not_le.mpr hbl
  obtain ⟨u, v, hu, hv, huv, hR2⟩ := hSim (xs (x3 + 1).toNatClampNeg) (xs (x3 + 2).toNatClampNeg) (xs (x3 + 3).toNatClampNeg)  σ τ hR
  refine lv_aload_n hx hb dl_619 rfl (lv_at hl 1 rfl) ?_
  refine lv_aload_n hx hb dl_620 rfl (lv_at hl 0 rfl) ?_
  refine lv_iload_n hx hb dl_621 rfl (lv_at hl 3 rfl) ?_
  refine lv_iconst (v := 1) hx hb dl_622 (by decide) ?_
  refine lv_iadd hx hb dl_623 ?_
  refine va_sld hx hb hX hbl hbA hS (lq_in (j := 1) rfl (by decide) hi hL ex3) dl_624 ?_
  refine lv_aload_n hx hb dl_625 rfl (lv_at hl 0 rfl) ?_
  refine lv_iload_n hx hb dl_626 rfl (lv_at hl 3 rfl) ?_
  refine lv_iconst (v := 2) hx hb dl_627 (by decide) ?_
  refine lv_iadd hx hb dl_628 ?_
  refine va_sld hx hb hX hbl hbA hS (lq_in (j := 2) rfl (by decide) hi hL ex3) dl_629 ?_
  refine lv_aload_n hx hb dl_630 rfl (lv_at hl 0 rfl) ?_
  refine lv_iload_n hx hb dl_631 rfl (lv_at hl 3 rfl) ?_
  refine lv_iconst (v := 3) hx hb dl_632 (by decide) ?_
  refine lv_iadd hx hb dl_633 ?_
  refine va_sld hx hb hX hbl hbA hS (lq_in (j := 3) rfl (by decide) hi hL ex3) dl_634 ?_
  refine lq_callL cp_OK (a := a) (own := R_law) (cc := code) (nL := 4) hx hb hml hown hts2 hK hN (mm_wo sr ca a2 τ ++ []) hP hD hS hA (M := cp_83) [.int (xs (x3 + 1).toNatClampNeg), .int (xs (x3 + 2).toNatClampNeg), .int (xs (x3 + 3).toNatClampNeg)] hu rfl rfl rfl (ww_c3 84 rfl rfl) (ww_c3 85 rfl rfl) (ww_c3 86 rfl rfl) (show mm_par cp_83.2.1 3 by decide +kernel) ⟨by decide, by decide⟩ (rest := []) hl.1 (by simp [Value.category]) dl_635 hcs (st2 := [.int u.1]) rfl rfl (fun H locs hP hD hS => ?_)
  refine lv_aload_n hx hb dl_638 rfl (lv_at hl 2 rfl) ?_
  refine lv_aload_n hx hb dl_639 rfl (lv_at hl 0 rfl) ?_
  refine lv_iload_n hx hb dl_640 rfl (lv_at hl 3 rfl) ?_
  refine lv_iconst (v := 1) hx hb dl_641 (by decide) ?_
  refine lv_iadd hx hb dl_642 ?_
  refine va_sld hx hb hX hbl hbA hS (lq_in (j := 1) rfl (by decide) hi hL ex3) dl_643 ?_
  refine lv_aload_n hx hb dl_644 rfl (lv_at hl 0 rfl) ?_
  refine lv_iload_n hx hb dl_645 rfl (lv_at hl 3 rfl) ?_
  refine lv_iconst (v := 2) hx hb dl_646 (by decide) ?_
  refine lv_iadd hx hb dl_647 ?_
  refine va_sld hx hb hX hbl hbA hS (lq_in (j := 2) rfl (by decide) hi hL ex3) dl_648 ?_
  refine lv_aload_n hx hb dl_649 rfl (lv_at hl 0 rfl) ?_
  refine lv_iload_n hx hb dl_650 rfl (lv_at hl 3 rfl) ?_
  refine lv_iconst (v := 3) hx hb dl_651 (by decide) ?_
  refine lv_iadd hx hb dl_652 ?_
  refine va_sld hx hb hX hbl hbA hS (lq_in (j := 3) rfl (by decide) hi hL ex3) dl_653 ?_
  refine lq_callR rp_OK (a := a2) (own := R_law) (cc := code) (nL := 4) hx hb hml hown hts2 hK hN (mm_wo sc ca a u.2.2) [] hP hD hS hA (M := rp_46) [.int (xs (x3 + 1).toNatClampNeg), .int (xs (x3 + 2).toNatClampNeg), .int (xs (x3 + 3).toNatClampNeg)] hv rfl rfl rfl (ww_c4 212 rfl rfl) (ww_c4 213 rfl rfl) (ww_c4 214 rfl rfl) (show mm_par rp_46.2.1 3 by decide +kernel) ⟨by decide, by decide⟩ (rest := [.int u.1]) hl.1 (by simp [Value.category]) dl_654 hcs (st2 := [.int v.1, .int u.1]) rfl rfl (fun H locs hP hD hS => ?_)
  refine lv_icmp_eq (tgt := 780) hx hb dl_657 (by decide) (fun _ => ?_) (fun hc => absurd huv hc)
  exact hk u.2.2 v.2.2 H locs hR2 hP hD hS
set_option maxRecDepth 100000 in
set_option maxHeartbeats 4000000 in
theorem lq_c_destroy {p : Program} {l : Launch} {e : Env} {s : State} {m : MethodId} {below : List Frame} {meth : Method} {c : Code} {b L : Nat} {xs : Nat → Int32} (hL : L ≤ 3072) (C0 : lw_At p s m meth c b L xs) {R : mm_S → mm_S → Prop} {D : va_G} {ca : Nat → ClassId} {a a2 : Nat → Nat} (hK : va_K D ww_cl (mm_tys ca) s) (hN : mm_Nk ww_nst s) {cells slots : Nat} (hcs : cells ≤ room_1.cells ∧ slots ≤ room_1.slots) {Q : State → Prop} (hSim : lq_S_destroy R) {σ τ : mm_S} (hR : R σ τ) {H : Heap} {locs : List Loc} (hP : va_P D ww_cl (mm_wo sc ca a σ ++ (mm_wo sr ca a2 τ ++ [])) H) (hD : va_D (fun q : Nat => s.heap.size ≤ q) (mm_wo sc ca a σ ++ (mm_wo sr ca a2 τ ++ []))) (hS : va_S (fun q : Nat => s.heap.size ≤ q) s.heap H locs) {i : Nat} {x3 : Int32} (hi : i + 6 ≤ L) (ex3 : x3 = nI i) {ls : Array Slot} (hl : lv_has ls 4 [(0, .ref b), (1, .ref (a 0)), (2, .ref (a2 0)), (3, .int x3)]) (hk : ∀ (σ τ : mm_S) (H : Heap) (locs : List Loc), R σ τ → va_P D ww_cl (mm_wo sc ca a σ ++ (mm_wo sr ca a2 τ ++ [])) H → va_D (fun q : Nat => s.heap.size ≤ q) (mm_wo sc ca a σ ++ (mm_wo sr ca a2 τ ++ [])) → va_S (fun q : Nat => s.heap.size ≤ q) s.heap H locs → W p l e room_1 s m #[Value.ref b] below meth c H locs cells slots Q (F0 m 780 ls [])) : W p l e room_1 s m #[Value.ref b] below meth c H locs cells slots Q (F0 m 662 ls []) := by
  obtain ⟨hx, hb, hr, hml, hown, hts, hX, hbl, hlocks, hgv⟩ := C0
  have hts2 : ∀ w ∈ ww_tbl, w.before #[Value.ref b] s = true := fun w hw => hts w (List.mem_filter.mp hw).1
  have hA : ∀ q : Nat, s.heap.size ≤ q → (fun q : Nat => s.heap.size ≤ q) q := fun _ h => h
  have hbA : ¬ (fun q : Nat => s.heap.size ≤ q) b := Nat.not_le.mpr hbl
  obtain ⟨u, v, hu, hv, huv, hR2⟩ := hSim (xs (x3 + 1).toNatClampNeg)  σ τ hR
  refine lv_aload_n hx hb dl_662 rfl (lv_at hl 1 rfl) ?_
  refine lv_aload_n hx hb dl_663 rfl (lv_at hl 0 rfl) ?_
  refine lv_iload_n hx hb dl_664 rfl (lv_at hl 3 rfl) ?_
  refine lv_iconst (v := 1) hx hb dl_665 (by decide) ?_
  refine lv_iadd hx hb dl_666 ?_
  refine va_sld hx hb hX hbl hbA hS (lq_in (j := 1) rfl (by decide) hi hL ex3) dl_667 ?_
  refine lq_callL cp_OK (a := a) (own := R_law) (cc := code) (nL := 4) hx hb hml hown hts2 hK hN (mm_wo sr ca a2 τ ++ []) hP hD hS hA (M := cp_84) [.int (xs (x3 + 1).toNatClampNeg)] hu rfl rfl rfl (ww_c3 98 rfl rfl) (ww_c3 99 rfl rfl) (ww_c3 100 rfl rfl) (show mm_par cp_84.2.1 1 by decide +kernel) ⟨by decide, by decide⟩ (rest := []) hl.1 (by simp [Value.category]) dl_668 hcs (st2 := [.int u.1]) rfl rfl (fun H locs hP hD hS => ?_)
  refine lv_aload_n hx hb dl_671 rfl (lv_at hl 2 rfl) ?_
  refine lv_aload_n hx hb dl_672 rfl (lv_at hl 0 rfl) ?_
  refine lv_iload_n hx hb dl_673 rfl (lv_at hl 3 rfl) ?_
  refine lv_iconst (v := 1) hx hb dl_674 (by decide) ?_
  refine lv_iadd hx hb dl_675 ?_
  refine va_sld hx hb hX hbl hbA hS (lq_in (j := 1) rfl (by decide) hi hL ex3) dl_676 ?_
  refine lq_callR rp_OK (a := a2) (own := R_law) (cc := code) (nL := 4) hx hb hml hown hts2 hK hN (mm_wo sc ca a u.2.2) [] hP hD hS hA (M := rp_47) [.int (xs (x3 + 1).toNatClampNeg)] hv rfl rfl rfl (ww_c4 220 rfl rfl) (ww_c4 221 rfl rfl) (ww_c4 222 rfl rfl) (show mm_par rp_47.2.1 1 by decide +kernel) ⟨by decide, by decide⟩ (rest := [.int u.1]) hl.1 (by simp [Value.category]) dl_677 hcs (st2 := [.int v.1, .int u.1]) rfl rfl (fun H locs hP hD hS => ?_)
  refine lv_icmp_eq (tgt := 780) hx hb dl_680 (by decide) (fun _ => ?_) (fun hc => absurd huv hc)
  exact hk u.2.2 v.2.2 H locs hR2 hP hD hS
set_option maxRecDepth 100000 in
set_option maxHeartbeats 4000000 in
theorem lq_c_shutdown {p : Program} {l : Launch} {e : Env} {s : State} {m : MethodId} {below : List Frame} {meth : Method} {c : Code} {b L : Nat} {xs : Nat → Int32} (hL : L ≤ 3072) (C0 : lw_At p s m meth c b L xs) {R : mm_S → mm_S → Prop} {D : va_G} {ca : Nat → ClassId} {a a2 : Nat → Nat} (hK : va_K D ww_cl (mm_tys ca) s) (hN : mm_Nk ww_nst s) {cells slots : Nat} (hcs : cells ≤ room_1.cells ∧ slots ≤ room_1.slots) {Q : State → Prop} (hSim : lq_S_shutdown R) {σ τ : mm_S} (hR : R σ τ) {H : Heap} {locs : List Loc} (hP : va_P D ww_cl (mm_wo sc ca a σ ++ (mm_wo sr ca a2 τ ++ [])) H) (hD : va_D (fun q : Nat => s.heap.size ≤ q) (mm_wo sc ca a σ ++ (mm_wo sr ca a2 τ ++ []))) (hS : va_S (fun q : Nat => s.heap.size ≤ q) s.heap H locs) {i : Nat} {x3 : Int32} (hi : i + 6 ≤ L) (ex3 : x3 = nI i) {ls : Array Slot} (hl : lv_has ls 4 [(0, .ref b), (1, .ref (a 0)), (2, .ref (a2 0)), (3, .int x3)]) (hk : ∀ (σ τ : mm_S) (H : Heap) (locs : List Loc), R σ τ → va_P D ww_cl (mm_wo sc ca a σ ++ (mm_wo sr ca a2 τ ++ [])) H → va_D (fun q : Nat => s.heap.size ≤ q) (mm_wo sc ca a σ ++ (mm_wo sr ca a2 τ ++ [])) → va_S (fun q : Nat => s.heap.size ≤ q) s.heap H locs → W p l e room_1 s m #[Value.ref b] below meth c H locs cells slots Q (F0 m 780 ls [])) : W p l e room_1 s m #[Value.ref b] below meth c H locs cells slots Q (F0 m 685 ls []) := by
  obtain ⟨hx, hb, hr, hml, hown, hts, hX, hbl, hlocks, hgv⟩ := C0
  have hts2 : ∀ w ∈ ww_tbl, w.before #[Value.ref b] s = true := fun w hw => hts w (List.mem_filter.mp hw).1
  have hA : ∀ q : Nat, s.heap.size ≤ q → (fun q : Nat => s.heap.size ≤ q) q := fun _ h => h
  have hbA : ¬ (fun q : Nat => s.heap.size ≤ q) b := Nat.not_le.mpr hbl
  obtain ⟨u, v, hu, hv, huv, hR2⟩ := hSim   σ τ hR
  refine lv_aload_n hx hb dl_685 rfl (lv_at hl 1 rfl) ?_
  refine lq_callL cp_OK (a := a) (own := R_law) (cc := code) (nL := 4) hx hb hml hown hts2 hK hN (mm_wo sr ca a2 τ ++ []) hP hD hS hA (M := cp_85) [] hu rfl rfl rfl (ww_c3 110 rfl rfl) (ww_c3 111 rfl rfl) (ww_c3 112 rfl rfl) (show mm_par cp_85.2.1 0 by decide +kernel) ⟨by decide, by decide⟩ (rest := []) hl.1 (by simp [Value.category]) dl_686 hcs (st2 := [.int u.1]) rfl rfl (fun H locs hP hD hS => ?_)
  refine lv_aload_n hx hb dl_689 rfl (lv_at hl 2 rfl) ?_
  refine lq_callR rp_OK (a := a2) (own := R_law) (cc := code) (nL := 4) hx hb hml hown hts2 hK hN (mm_wo sc ca a u.2.2) [] hP hD hS hA (M := rp_48) [] hv rfl rfl rfl (ww_c4 224 rfl rfl) (ww_c4 225 rfl rfl) (ww_c4 226 rfl rfl) (show mm_par rp_48.2.1 0 by decide +kernel) ⟨by decide, by decide⟩ (rest := [.int u.1]) hl.1 (by simp [Value.category]) dl_690 hcs (st2 := [.int v.1, .int u.1]) rfl rfl (fun H locs hP hD hS => ?_)
  refine lv_icmp_eq (tgt := 780) hx hb dl_693 (by decide) (fun _ => ?_) (fun hc => absurd huv hc)
  exact hk u.2.2 v.2.2 H locs hR2 hP hD hS
set_option maxRecDepth 100000 in
set_option maxHeartbeats 4000000 in
theorem lq_c_beanOf {p : Program} {l : Launch} {e : Env} {s : State} {m : MethodId} {below : List Frame} {meth : Method} {c : Code} {b L : Nat} {xs : Nat → Int32} (hL : L ≤ 3072) (C0 : lw_At p s m meth c b L xs) {R : mm_S → mm_S → Prop} {D : va_G} {ca : Nat → ClassId} {a a2 : Nat → Nat} (hK : va_K D ww_cl (mm_tys ca) s) (hN : mm_Nk ww_nst s) {cells slots : Nat} (hcs : cells ≤ room_1.cells ∧ slots ≤ room_1.slots) {Q : State → Prop} (hSim : lq_S_beanOf R) {σ τ : mm_S} (hR : R σ τ) {H : Heap} {locs : List Loc} (hP : va_P D ww_cl (mm_wo sc ca a σ ++ (mm_wo sr ca a2 τ ++ [])) H) (hD : va_D (fun q : Nat => s.heap.size ≤ q) (mm_wo sc ca a σ ++ (mm_wo sr ca a2 τ ++ []))) (hS : va_S (fun q : Nat => s.heap.size ≤ q) s.heap H locs) {i : Nat} {x3 : Int32} (hi : i + 6 ≤ L) (ex3 : x3 = nI i) {ls : Array Slot} (hl : lv_has ls 4 [(0, .ref b), (1, .ref (a 0)), (2, .ref (a2 0)), (3, .int x3)]) (hk : ∀ (σ τ : mm_S) (H : Heap) (locs : List Loc), R σ τ → va_P D ww_cl (mm_wo sc ca a σ ++ (mm_wo sr ca a2 τ ++ [])) H → va_D (fun q : Nat => s.heap.size ≤ q) (mm_wo sc ca a σ ++ (mm_wo sr ca a2 τ ++ [])) → va_S (fun q : Nat => s.heap.size ≤ q) s.heap H locs → W p l e room_1 s m #[Value.ref b] below meth c H locs cells slots Q (F0 m 780 ls [])) : W p l e room_1 s m #[Value.ref b] below meth c H locs cells slots Q (F0 m 698 ls []) := by
  obtain ⟨hx, hb, hr, hml, hown, hts, hX, hbl, hlocks, hgv⟩ := C0
  have hts2 : ∀ w ∈ ww_tbl, w.before #[Value.ref b] s = true := fun w hw => hts w (List.mem_filter.mp hw).1
  have hA : ∀ q : Nat, s.heap.size ≤ q → (fun q : Nat => s.heap.size ≤ q) q := fun _ h => h
  have hbA : ¬ (fun q : Nat => s.heap.size ≤ q) b := Nat.not_le.mpr hbl
  obtain ⟨u, v, hu, hv, huv, hR2⟩ := hSim (xs (x3 + 1).toNatClampNeg)  σ τ hR
  refine lv_aload_n hx hb dl_698 rfl (lv_at hl 1 rfl) ?_
  refine lv_aload_n hx hb dl_699 rfl (lv_at hl 0 rfl) ?_
  refine lv_iload_n hx hb dl_700 rfl (lv_at hl 3 rfl) ?_
  refine lv_iconst (v := 1) hx hb dl_701 (by decide) ?_
  refine lv_iadd hx hb dl_702 ?_
  refine va_sld hx hb hX hbl hbA hS (lq_in (j := 1) rfl (by decide) hi hL ex3) dl_703 ?_
  refine lq_callL cp_OK (a := a) (own := R_law) (cc := code) (nL := 4) hx hb hml hown hts2 hK hN (mm_wo sr ca a2 τ ++ []) hP hD hS hA (M := cp_86) [.int (xs (x3 + 1).toNatClampNeg)] hu rfl rfl rfl (ww_c3 118 rfl rfl) (ww_c3 119 rfl rfl) (ww_c3 120 rfl rfl) (show mm_par cp_86.2.1 1 by decide +kernel) ⟨by decide, by decide⟩ (rest := []) hl.1 (by simp [Value.category]) dl_704 hcs (st2 := [.int u.1]) rfl rfl (fun H locs hP hD hS => ?_)
  refine lv_aload_n hx hb dl_707 rfl (lv_at hl 2 rfl) ?_
  refine lv_aload_n hx hb dl_708 rfl (lv_at hl 0 rfl) ?_
  refine lv_iload_n hx hb dl_709 rfl (lv_at hl 3 rfl) ?_
  refine lv_iconst (v := 1) hx hb dl_710 (by decide) ?_
  refine lv_iadd hx hb dl_711 ?_
  refine va_sld hx hb hX hbl hbA hS (lq_in (j := 1) rfl (by decide) hi hL ex3) dl_712 ?_
  refine lq_callR rp_OK (a := a2) (own := R_law) (cc := code) (nL := 4) hx hb hml hown hts2 hK hN (mm_wo sc ca a u.2.2) [] hP hD hS hA (M := rp_49) [.int (xs (x3 + 1).toNatClampNeg)] hv rfl rfl rfl (ww_c4 228 rfl rfl) (ww_c4 229 rfl rfl) (ww_c4 230 rfl rfl) (show mm_par rp_49.2.1 1 by decide +kernel) ⟨by decide, by decide⟩ (rest := [.int u.1]) hl.1 (by simp [Value.category]) dl_713 hcs (st2 := [.int v.1, .int u.1]) rfl rfl (fun H locs hP hD hS => ?_)
  refine lv_icmp_eq (tgt := 780) hx hb dl_716 (by decide) (fun _ => ?_) (fun hc => absurd huv hc)
  exact hk u.2.2 v.2.2 H locs hR2 hP hD hS
set_option maxRecDepth 100000 in
set_option maxHeartbeats 4000000 in
theorem lq_c_owner {p : Program} {l : Launch} {e : Env} {s : State} {m : MethodId} {below : List Frame} {meth : Method} {c : Code} {b L : Nat} {xs : Nat → Int32} (hL : L ≤ 3072) (C0 : lw_At p s m meth c b L xs) {R : mm_S → mm_S → Prop} {D : va_G} {ca : Nat → ClassId} {a a2 : Nat → Nat} (hK : va_K D ww_cl (mm_tys ca) s) (hN : mm_Nk ww_nst s) {cells slots : Nat} (hcs : cells ≤ room_1.cells ∧ slots ≤ room_1.slots) {Q : State → Prop} (hSim : lq_S_owner R) {σ τ : mm_S} (hR : R σ τ) {H : Heap} {locs : List Loc} (hP : va_P D ww_cl (mm_wo sc ca a σ ++ (mm_wo sr ca a2 τ ++ [])) H) (hD : va_D (fun q : Nat => s.heap.size ≤ q) (mm_wo sc ca a σ ++ (mm_wo sr ca a2 τ ++ []))) (hS : va_S (fun q : Nat => s.heap.size ≤ q) s.heap H locs) {i : Nat} {x3 : Int32} (hi : i + 6 ≤ L) (ex3 : x3 = nI i) {ls : Array Slot} (hl : lv_has ls 4 [(0, .ref b), (1, .ref (a 0)), (2, .ref (a2 0)), (3, .int x3)]) (hk : ∀ (σ τ : mm_S) (H : Heap) (locs : List Loc), R σ τ → va_P D ww_cl (mm_wo sc ca a σ ++ (mm_wo sr ca a2 τ ++ [])) H → va_D (fun q : Nat => s.heap.size ≤ q) (mm_wo sc ca a σ ++ (mm_wo sr ca a2 τ ++ [])) → va_S (fun q : Nat => s.heap.size ≤ q) s.heap H locs → W p l e room_1 s m #[Value.ref b] below meth c H locs cells slots Q (F0 m 780 ls [])) : W p l e room_1 s m #[Value.ref b] below meth c H locs cells slots Q (F0 m 721 ls []) := by
  obtain ⟨hx, hb, hr, hml, hown, hts, hX, hbl, hlocks, hgv⟩ := C0
  have hts2 : ∀ w ∈ ww_tbl, w.before #[Value.ref b] s = true := fun w hw => hts w (List.mem_filter.mp hw).1
  have hA : ∀ q : Nat, s.heap.size ≤ q → (fun q : Nat => s.heap.size ≤ q) q := fun _ h => h
  have hbA : ¬ (fun q : Nat => s.heap.size ≤ q) b := Nat.not_le.mpr hbl
  obtain ⟨u, v, hu, hv, huv, hR2⟩ := hSim (xs (x3 + 1).toNatClampNeg)  σ τ hR
  refine lv_aload_n hx hb dl_721 rfl (lv_at hl 1 rfl) ?_
  refine lv_aload_n hx hb dl_722 rfl (lv_at hl 0 rfl) ?_
  refine lv_iload_n hx hb dl_723 rfl (lv_at hl 3 rfl) ?_
  refine lv_iconst (v := 1) hx hb dl_724 (by decide) ?_
  refine lv_iadd hx hb dl_725 ?_
  refine va_sld hx hb hX hbl hbA hS (lq_in (j := 1) rfl (by decide) hi hL ex3) dl_726 ?_
  refine lq_callL cp_OK (a := a) (own := R_law) (cc := code) (nL := 4) hx hb hml hown hts2 hK hN (mm_wo sr ca a2 τ ++ []) hP hD hS hA (M := cp_87) [.int (xs (x3 + 1).toNatClampNeg)] hu rfl rfl rfl (ww_c3 122 rfl rfl) (ww_c3 123 rfl rfl) (ww_c3 124 rfl rfl) (show mm_par cp_87.2.1 1 by decide +kernel) ⟨by decide, by decide⟩ (rest := []) hl.1 (by simp [Value.category]) dl_727 hcs (st2 := [.int u.1]) rfl rfl (fun H locs hP hD hS => ?_)
  refine lv_aload_n hx hb dl_730 rfl (lv_at hl 2 rfl) ?_
  refine lv_aload_n hx hb dl_731 rfl (lv_at hl 0 rfl) ?_
  refine lv_iload_n hx hb dl_732 rfl (lv_at hl 3 rfl) ?_
  refine lv_iconst (v := 1) hx hb dl_733 (by decide) ?_
  refine lv_iadd hx hb dl_734 ?_
  refine va_sld hx hb hX hbl hbA hS (lq_in (j := 1) rfl (by decide) hi hL ex3) dl_735 ?_
  refine lq_callR rp_OK (a := a2) (own := R_law) (cc := code) (nL := 4) hx hb hml hown hts2 hK hN (mm_wo sc ca a u.2.2) [] hP hD hS hA (M := rp_50) [.int (xs (x3 + 1).toNatClampNeg)] hv rfl rfl rfl (ww_c4 232 rfl rfl) (ww_c4 233 rfl rfl) (ww_c4 234 rfl rfl) (show mm_par rp_50.2.1 1 by decide +kernel) ⟨by decide, by decide⟩ (rest := [.int u.1]) hl.1 (by simp [Value.category]) dl_736 hcs (st2 := [.int v.1, .int u.1]) rfl rfl (fun H locs hP hD hS => ?_)
  refine lv_icmp_eq (tgt := 780) hx hb dl_739 (by decide) (fun _ => ?_) (fun hc => absurd huv hc)
  exact hk u.2.2 v.2.2 H locs hR2 hP hD hS
set_option maxRecDepth 100000 in
set_option maxHeartbeats 4000000 in
theorem lq_c_destroyed {p : Program} {l : Launch} {e : Env} {s : State} {m : MethodId} {below : List Frame} {meth : Method} {c : Code} {b L : Nat} {xs : Nat → Int32} (hL : L ≤ 3072) (C0 : lw_At p s m meth c b L xs) {R : mm_S → mm_S → Prop} {D : va_G} {ca : Nat → ClassId} {a a2 : Nat → Nat} (hK : va_K D ww_cl (mm_tys ca) s) (hN : mm_Nk ww_nst s) {cells slots : Nat} (hcs : cells ≤ room_1.cells ∧ slots ≤ room_1.slots) {Q : State → Prop} (hSim : lq_S_destroyed R) {σ τ : mm_S} (hR : R σ τ) {H : Heap} {locs : List Loc} (hP : va_P D ww_cl (mm_wo sc ca a σ ++ (mm_wo sr ca a2 τ ++ [])) H) (hD : va_D (fun q : Nat => s.heap.size ≤ q) (mm_wo sc ca a σ ++ (mm_wo sr ca a2 τ ++ []))) (hS : va_S (fun q : Nat => s.heap.size ≤ q) s.heap H locs) {i : Nat} {x3 : Int32} (hi : i + 6 ≤ L) (ex3 : x3 = nI i) {ls : Array Slot} (hl : lv_has ls 4 [(0, .ref b), (1, .ref (a 0)), (2, .ref (a2 0)), (3, .int x3)]) (hk : ∀ (σ τ : mm_S) (H : Heap) (locs : List Loc), R σ τ → va_P D ww_cl (mm_wo sc ca a σ ++ (mm_wo sr ca a2 τ ++ [])) H → va_D (fun q : Nat => s.heap.size ≤ q) (mm_wo sc ca a σ ++ (mm_wo sr ca a2 τ ++ [])) → va_S (fun q : Nat => s.heap.size ≤ q) s.heap H locs → W p l e room_1 s m #[Value.ref b] below meth c H locs cells slots Q (F0 m 780 ls [])) : W p l e room_1 s m #[Value.ref b] below meth c H locs cells slots Q (F0 m 744 ls []) := by
  obtain ⟨hx, hb, hr, hml, hown, hts, hX, hbl, hlocks, hgv⟩ := C0
  have hts2 : ∀ w ∈ ww_tbl, w.before #[Value.ref b] s = true := fun w hw => hts w (List.mem_filter.mp hw).1
  have hA : ∀ q : Nat, s.heap.size ≤ q → (fun q : Nat => s.heap.size ≤ q) q := fun _ h => h
  have hbA : ¬ (fun q : Nat => s.heap.size ≤ q) b := Nat.not_le.mpr hbl
  obtain ⟨u, v, hu, hv, huv, hR2⟩ := hSim (xs (x3 + 1).toNatClampNeg)  σ τ hR
  refine lv_aload_n hx hb dl_744 rfl (lv_at hl 1 rfl) ?_
  refine lv_aload_n hx hb dl_745 rfl (lv_at hl 0 rfl) ?_
  refine lv_iload_n hx hb dl_746 rfl (lv_at hl 3 rfl) ?_
  refine lv_iconst (v := 1) hx hb dl_747 (by decide) ?_
  refine lv_iadd hx hb dl_748 ?_
  refine va_sld hx hb hX hbl hbA hS (lq_in (j := 1) rfl (by decide) hi hL ex3) dl_749 ?_
  refine lq_callL cp_OK (a := a) (own := R_law) (cc := code) (nL := 4) hx hb hml hown hts2 hK hN (mm_wo sr ca a2 τ ++ []) hP hD hS hA (M := cp_88) [.int (xs (x3 + 1).toNatClampNeg)] hu rfl rfl rfl (ww_c3 126 rfl rfl) (ww_c3 127 rfl rfl) (ww_c3 128 rfl rfl) (show mm_par cp_88.2.1 1 by decide +kernel) ⟨by decide, by decide⟩ (rest := []) hl.1 (by simp [Value.category]) dl_750 hcs (st2 := [.int u.1]) rfl rfl (fun H locs hP hD hS => ?_)
  refine lv_aload_n hx hb dl_753 rfl (lv_at hl 2 rfl) ?_
  refine lv_aload_n hx hb dl_754 rfl (lv_at hl 0 rfl) ?_
  refine lv_iload_n hx hb dl_755 rfl (lv_at hl 3 rfl) ?_
  refine lv_iconst (v := 1) hx hb dl_756 (by decide) ?_
  refine lv_iadd hx hb dl_757 ?_
  refine va_sld hx hb hX hbl hbA hS (lq_in (j := 1) rfl (by decide) hi hL ex3) dl_758 ?_
  refine lq_callR rp_OK (a := a2) (own := R_law) (cc := code) (nL := 4) hx hb hml hown hts2 hK hN (mm_wo sc ca a u.2.2) [] hP hD hS hA (M := rp_51) [.int (xs (x3 + 1).toNatClampNeg)] hv rfl rfl rfl (ww_c4 236 rfl rfl) (ww_c4 237 rfl rfl) (ww_c4 238 rfl rfl) (show mm_par rp_51.2.1 1 by decide +kernel) ⟨by decide, by decide⟩ (rest := [.int u.1]) hl.1 (by simp [Value.category]) dl_759 hcs (st2 := [.int v.1, .int u.1]) rfl rfl (fun H locs hP hD hS => ?_)
  refine lv_icmp_eq (tgt := 780) hx hb dl_762 (by decide) (fun _ => ?_) (fun hc => absurd huv hc)
  exact hk u.2.2 v.2.2 H locs hR2 hP hD hS
set_option maxRecDepth 100000 in
set_option maxHeartbeats 4000000 in
theorem lq_c_live {p : Program} {l : Launch} {e : Env} {s : State} {m : MethodId} {below : List Frame} {meth : Method} {c : Code} {b L : Nat} {xs : Nat → Int32} (hL : L ≤ 3072) (C0 : lw_At p s m meth c b L xs) {R : mm_S → mm_S → Prop} {D : va_G} {ca : Nat → ClassId} {a a2 : Nat → Nat} (hK : va_K D ww_cl (mm_tys ca) s) (hN : mm_Nk ww_nst s) {cells slots : Nat} (hcs : cells ≤ room_1.cells ∧ slots ≤ room_1.slots) {Q : State → Prop} (hSim : lq_S_live R) {σ τ : mm_S} (hR : R σ τ) {H : Heap} {locs : List Loc} (hP : va_P D ww_cl (mm_wo sc ca a σ ++ (mm_wo sr ca a2 τ ++ [])) H) (hD : va_D (fun q : Nat => s.heap.size ≤ q) (mm_wo sc ca a σ ++ (mm_wo sr ca a2 τ ++ []))) (hS : va_S (fun q : Nat => s.heap.size ≤ q) s.heap H locs) {i : Nat} {x3 : Int32} (hi : i + 6 ≤ L) (ex3 : x3 = nI i) {ls : Array Slot} (hl : lv_has ls 4 [(0, .ref b), (1, .ref (a 0)), (2, .ref (a2 0)), (3, .int x3)]) (hk : ∀ (σ τ : mm_S) (H : Heap) (locs : List Loc), R σ τ → va_P D ww_cl (mm_wo sc ca a σ ++ (mm_wo sr ca a2 τ ++ [])) H → va_D (fun q : Nat => s.heap.size ≤ q) (mm_wo sc ca a σ ++ (mm_wo sr ca a2 τ ++ [])) → va_S (fun q : Nat => s.heap.size ≤ q) s.heap H locs → W p l e room_1 s m #[Value.ref b] below meth c H locs cells slots Q (F0 m 780 ls [])) : W p l e room_1 s m #[Value.ref b] below meth c H locs cells slots Q (F0 m 767 ls []) := by
  obtain ⟨hx, hb, hr, hml, hown, hts, hX, hbl, hlocks, hgv⟩ := C0
  have hts2 : ∀ w ∈ ww_tbl, w.before #[Value.ref b] s = true := fun w hw => hts w (List.mem_filter.mp hw).1
  have hA : ∀ q : Nat, s.heap.size ≤ q → (fun q : Nat => s.heap.size ≤ q) q := fun _ h => h
  have hbA : ¬ (fun q : Nat => s.heap.size ≤ q) b := Nat.not_le.mpr hbl
  obtain ⟨u, v, hu, hv, huv, hR2⟩ := hSim   σ τ hR
  refine lv_aload_n hx hb dl_767 rfl (lv_at hl 1 rfl) ?_
  refine lq_callL cp_OK (a := a) (own := R_law) (cc := code) (nL := 4) hx hb hml hown hts2 hK hN (mm_wo sr ca a2 τ ++ []) hP hD hS hA (M := cp_89) [] hu rfl rfl rfl (ww_c3 134 rfl rfl) (ww_c3 135 rfl rfl) (ww_c3 136 rfl rfl) (show mm_par cp_89.2.1 0 by decide +kernel) ⟨by decide, by decide⟩ (rest := []) hl.1 (by simp [Value.category]) dl_768 hcs (st2 := [.int u.1]) rfl rfl (fun H locs hP hD hS => ?_)
  refine lv_aload_n hx hb dl_771 rfl (lv_at hl 2 rfl) ?_
  refine lq_callR rp_OK (a := a2) (own := R_law) (cc := code) (nL := 4) hx hb hml hown hts2 hK hN (mm_wo sc ca a u.2.2) [] hP hD hS hA (M := rp_52) [] hv rfl rfl rfl (ww_c5 0 rfl rfl) (ww_c5 1 rfl rfl) (ww_c5 2 rfl rfl) (show mm_par rp_52.2.1 0 by decide +kernel) ⟨by decide, by decide⟩ (rest := [.int u.1]) hl.1 (by simp [Value.category]) dl_772 hcs (st2 := [.int v.1, .int u.1]) rfl rfl (fun H locs hP hD hS => ?_)
  refine lv_icmp_eq (tgt := 780) hx hb dl_775 (by decide) (fun _ => ?_) (fun hc => absurd huv hc)
  exact hk u.2.2 v.2.2 H locs hR2 hP hD hS
set_option maxRecDepth 100000 in
set_option maxHeartbeats 4000000 in
theorem law_loop {p : Program} {l : Launch} {e : Env} {s : State} {m : MethodId} {below : List Frame} {meth : Method} {c : Code} {b L : Nat} {xs : Nat → Int32} (hL : L ≤ 3072) (C0 : lw_At p s m meth c b L xs) {R : mm_S → mm_S → Prop} {D : va_G} {ca : Nat → ClassId} {a a2 : Nat → Nat} (hK : va_K D ww_cl (mm_tys ca) s) (hN : mm_Nk ww_nst s) {cells slots : Nat} (hcs : cells ≤ room_1.cells ∧ slots ≤ room_1.slots) (hSim : lq_Sim R) : ∀ (n i : Nat) (x3 : Int32), i ≤ L → L + 1 ≤ i + n → x3 = nI i → ∀ (σ τ : mm_S) (H : Heap) (locs : List Loc), R σ τ → va_P D ww_cl (mm_wo sc ca a σ ++ (mm_wo sr ca a2 τ ++ [])) H → va_D (fun q : Nat => s.heap.size ≤ q) (mm_wo sc ca a σ ++ (mm_wo sr ca a2 τ ++ [])) → va_S (fun q : Nat => s.heap.size ≤ q) s.heap H locs → ∀ (ls : Array Slot), lv_has ls 4 [(0, .ref b), (1, .ref (a 0)), (2, .ref (a2 0)), (3, .int x3)] → W p l e room_1 s m #[Value.ref b] below meth c H locs cells slots (lw_Z below #[Value.ref b] s) (F0 m 18 ls []) := by
  obtain ⟨s0, s1, s2, s3, s4, s5, s6, s7, s8, s9, s10, s11, s12, s13, s14, s15, s16, s17, s18, s19⟩ := hSim
  obtain ⟨hx, hb, hr, hml, hown, hts, hX, hbl, hlocks, hgv⟩ := id C0
  have hA : ∀ q : Nat, s.heap.size ≤ q → (fun q : Nat => s.heap.size ≤ q) q := fun _ h => h
  have hbA : ¬ (fun q : Nat => s.heap.size ≤ q) b := Nat.not_le.mpr hbl
  intro n
  induction n with
  | zero =>
    intro i x3 h1 h2
    exact absurd h2 (by omega)
  | succ n ih =>
    intro i x3 hi hin ex3 σ τ H locs hR hP hD hS ls hl
    refine lv_iload_n hx hb dl_18 rfl (lv_at hl 3 rfl) ?_
    refine lv_aload_n hx hb dl_19 rfl (lv_at hl 0 rfl) ?_
    refine va_slen hx hb hX hbl hbA hS dl_20 ?_
    refine lv_bipush (v := 6) hx hb dl_21 (by decide) ?_
    refine lv_isub hx hb dl_23 ?_
    refine lv_icmp_gt (tgt := 786) hx hb dl_24 (by decide) (fun hc => ?_) (fun hc => ?_)
    · refine lv_iconst (v := 1) hx hb dl_786 (by decide) ?_
      refine va_forget (fun q h => hS.2.2 q h) ?_
      refine W.widen (k := 600000) (n := 7302250) hcs.1 hcs.2 ?_
      exact lw_ret hx hb hr hlocks dl_787
    · have hi6 := lq_more hL hi ex3 hc
      have next : ∀ (σ τ : mm_S) (H : Heap) (locs : List Loc), R σ τ → va_P D ww_cl (mm_wo sc ca a σ ++ (mm_wo sr ca a2 τ ++ [])) H → va_D (fun q : Nat => s.heap.size ≤ q) (mm_wo sc ca a σ ++ (mm_wo sr ca a2 τ ++ [])) → va_S (fun q : Nat => s.heap.size ≤ q) s.heap H locs → W p l e room_1 s m #[Value.ref b] below meth c H locs cells slots (lw_Z below #[Value.ref b] s) (F0 m 780 ls []) := by
        intro σ τ H locs hR hP hD hS
        refine lv_iinc (v := nI (i + 6)) (lv' := [(3, .int (nI (i + 6))), (0, .ref b), (1, .ref (a 0)), (2, .ref (a2 0))]) hx hb dl_780 hl (k := 3) rfl (by rw [ex3]; exact nI_add i 6) (by decide) rfl (fun ls hl => ?_)
        refine lv_goto (tgt := 18) hx hb dl_783 (by decide) ?_
        exact ih (i + 6) _ hi6 (by omega) rfl σ τ H locs hR hP hD hS ls (lv_sub hl [1, 2, 3, 0] rfl)
      refine lv_aload_n hx hb dl_27 rfl (lv_at hl 0 rfl) ?_
      refine lv_iload_n hx hb dl_28 rfl (lv_at hl 3 rfl) ?_
      refine va_sld hx hb hX hbl hbA hS (lq_in0 hi6 hL ex3) dl_29 ?_
      refine lv_bipush (v := 31) hx hb dl_30 (by decide) ?_
      refine lv_iand hx hb dl_32 ?_
      obtain ⟨z, hz, hze⟩ := pk_andE (xs x3.toNatClampNeg) (m := 31) 5 (by decide)
      rw [hze]
      have hzi : (nI z).toInt = (z : Int) := nI_toInt (by omega)
      by_cases hz20 : 20 ≤ z
      · exact lv_tableOut (tgt := 780) hx hb dl_33 (Or.inr (by rw [hzi]; omega)) (by decide) (next σ τ H locs hR hP hD hS)
      have hz19 : z < 20 := by omega
      match z, hz19, hzi with
      | 0, _, hzi => exact lv_tableIn (tgt := 128) hx hb dl_33 (by decide) (by decide) rfl (by decide) (lq_c_declare hL C0 hK hN hcs s0 hR hP hD hS hi6 ex3 hl next)
      | 1, _, hzi => exact lv_tableIn (tgt := 213) hx hb dl_33 (by decide) (by decide) rfl (by decide) (lq_c_manage hL C0 hK hN hcs s1 hR hP hD hS hi6 ex3 hl next)
      | 2, _, hzi => exact lv_tableIn (tgt := 266) hx hb dl_33 (by decide) (by decide) rfl (by decide) (lq_c_produce hL C0 hK hN hcs s2 hR hP hD hS hi6 ex3 hl next)
      | 3, _, hzi => exact lv_tableIn (tgt := 329) hx hb dl_33 (by decide) (by decide) rfl (by decide) (lq_c_inject hL C0 hK hN hcs s3 hR hP hD hS hi6 ex3 hl next)
      | 4, _, hzi => exact lv_tableIn (tgt := 372) hx hb dl_33 (by decide) (by decide) rfl (by decide) (lq_c_types hL C0 hK hN hcs s4 hR hP hD hS hi6 ex3 hl next)
      | 5, _, hzi => exact lv_tableIn (tgt := 395) hx hb dl_33 (by decide) (by decide) rfl (by decide) (lq_c_fits hL C0 hK hN hcs s5 hR hP hD hS hi6 ex3 hl next)
      | 6, _, hzi => exact lv_tableIn (tgt := 428) hx hb dl_33 (by decide) (by decide) rfl (by decide) (lq_c_candidates hL C0 hK hN hcs s6 hR hP hD hS hi6 ex3 hl next)
      | 7, _, hzi => exact lv_tableIn (tgt := 461) hx hb dl_33 (by decide) (by decide) rfl (by decide) (lq_c_resolve hL C0 hK hN hcs s7 hR hP hD hS hi6 ex3 hl next)
      | 8, _, hzi => exact lv_tableIn (tgt := 494) hx hb dl_33 (by decide) (by decide) rfl (by decide) (lq_c_deploy hL C0 hK hN hcs s8 hR hP hD hS hi6 ex3 hl next)
      | 9, _, hzi => exact lv_tableIn (tgt := 507) hx hb dl_33 (by decide) (by decide) rfl (by decide) (lq_c_cost hL C0 hK hN hcs s9 hR hP hD hS hi6 ex3 hl next)
      | 10, _, hzi => exact lv_tableIn (tgt := 530) hx hb dl_33 (by decide) (by decide) rfl (by decide) (lq_c_begin hL C0 hK hN hcs s10 hR hP hD hS hi6 ex3 hl next)
      | 11, _, hzi => exact lv_tableIn (tgt := 553) hx hb dl_33 (by decide) (by decide) rfl (by decide) (lq_c_end hL C0 hK hN hcs s11 hR hP hD hS hi6 ex3 hl next)
      | 12, _, hzi => exact lv_tableIn (tgt := 576) hx hb dl_33 (by decide) (by decide) rfl (by decide) (lq_c_obtain hL C0 hK hN hcs s12 hR hP hD hS hi6 ex3 hl next)
      | 13, _, hzi => exact lv_tableIn (tgt := 619) hx hb dl_33 (by decide) (by decide) rfl (by decide) (lq_c_call hL C0 hK hN hcs s13 hR hP hD hS hi6 ex3 hl next)
      | 14, _, hzi => exact lv_tableIn (tgt := 662) hx hb dl_33 (by decide) (by decide) rfl (by decide) (lq_c_destroy hL C0 hK hN hcs s14 hR hP hD hS hi6 ex3 hl next)
      | 15, _, hzi => exact lv_tableIn (tgt := 685) hx hb dl_33 (by decide) (by decide) rfl (by decide) (lq_c_shutdown hL C0 hK hN hcs s15 hR hP hD hS hi6 ex3 hl next)
      | 16, _, hzi => exact lv_tableIn (tgt := 698) hx hb dl_33 (by decide) (by decide) rfl (by decide) (lq_c_beanOf hL C0 hK hN hcs s16 hR hP hD hS hi6 ex3 hl next)
      | 17, _, hzi => exact lv_tableIn (tgt := 721) hx hb dl_33 (by decide) (by decide) rfl (by decide) (lq_c_owner hL C0 hK hN hcs s17 hR hP hD hS hi6 ex3 hl next)
      | 18, _, hzi => exact lv_tableIn (tgt := 744) hx hb dl_33 (by decide) (by decide) rfl (by decide) (lq_c_destroyed hL C0 hK hN hcs s18 hR hP hD hS hi6 ex3 hl next)
      | 19, _, hzi => exact lv_tableIn (tgt := 767) hx hb dl_33 (by decide) (by decide) rfl (by decide) (lq_c_live hL C0 hK hN hcs s19 hR hP hD hS hi6 ex3 hl next)
      | z + 20, hz19, _ => exact absurd hz19 (by omega)
