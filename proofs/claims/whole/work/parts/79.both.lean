theorem eN_sub {σ : mm_S} {nb : Nat} {K : Nat → Nat} (hJ : jE σ nb K) {e : mE} (he : vE σ nb e) (hk : K e.1 ≤ 10) : ∀ h, vE σ nb h → K h.1 ≤ 10 → h ∈ eN σ K e → ∀ c, c ∈ eN σ K h → c ∈ eN σ K e := by
  apply eN_ind hJ (P := fun h => h ∈ eN σ K e → ∀ c, c ∈ eN σ K h → c ∈ eN σ K e)
  intro h hv hk' ih hm c hc
  rw [eN_eq hJ hv hk', List.mem_cons, List.mem_flatMap] at hc
  rcases hc with rfl | ⟨a, ha, hc⟩
  · exact hm
  · exact ih a ha (eN_ch hJ e he hk h hm a ha) c hc
theorem nd_map {α β : Type} {f : α → β} : ∀ {l : List α}, (l.map f).Nodup → l.Nodup
  | [], _ => List.nodup_nil
  | x :: l, h => by
    rw [List.map_cons, List.nodup_cons] at h
    exact List.nodup_cons.2 ⟨fun q => h.1 (List.mem_map_of_mem q), nd_map h.2⟩
set_option maxHeartbeats 4000000 in
theorem make_both {σ τ : mm_S} {nc nb U G : Nat} {F1 F2 lv H K : Nat → Nat} {N : Nat → Nat → Nat} {O B ht : Nat → Nat} (hM : jM σ τ nc nb U G F1 F2 lv H N O B ht) (hK : jK σ τ nb K) {b : Nat} (hb : b < nb) (hE : pE (σ.1 16) (σ.1 17) b = true) (hk : K b ≤ 10) (hU : U + K b ≤ 200) (D d : Nat) : ∃ (σ' τ' : mm_S) (n G' : Nat), U < n ∧ n ≤ U + K b ∧ cG (D + K b + 14) 97 [.ref 0, .int (nI b), .int (nI 0), .int (nI 0)] σ = some (nI n, 0, σ') ∧ rG (d + 3) 36 [.ref 0, .int (nI b)] τ = some (nI n, 0, τ') ∧ jM σ' (mm_w τ'.1 24 n (if σ.1 15 b = 0 then 1 else 0), τ'.2) nc nb (U + K b) G' F1 F2 lv H (nN U N σ') (nO U O σ') (nB U B σ') (nH U ht σ K σ') ∧ nO U O σ' n = 0 ∧ nB U B σ' n = b ∧ ¬ σ'.1 36 n = 0 ∧ (∀ k, 41 < k → σ'.1 k = σ.1 k) ∧ τ'.1 32 = τ.1 32 ∧ τ'.1 33 = τ.1 33 ∧ τ'.1 24 n = 0 ∧ (∀ x, x ≤ U → σ'.1 36 x = σ.1 36 x) ∧ (∀ k, k ≠ 4 → k < 34 → σ'.1 k = σ.1 k) := by
  obtain ⟨h1, h2, h3, h4, h5, h7⟩ := hM
  have hJ := jE_of h1 h3 hK
  have he : vE σ nb (b, U + 1, 0, -1) := ⟨hb, hE⟩
  have hk' : K ((b, U + 1, 0, -1) : mE).1 ≤ 10 := hk
  have h5' := h5
  obtain ⟨i1, i2, i3, i4, i5, i6, i7, i8, i9, i10, i11, i12, i13, i14, i15⟩ := h5'
  have hz : ∀ x q, U < x → q < 3 → σ.1 (38 + q) x = 0 := by
    intro x q hx hq
    rw [i14 x q hq, (i13 x hx).1 q]
    rfl
  obtain ⟨σ', m, r1⟩ := c_make hJ h1.2.2.1 (b, U + 1, 0, -1) he hk' σ U G 0 D (fun _ _ _ => rfl) (jI_cD h5) rfl hU hz (by simp only; omega)
  simp only at m r1
  have hgS : gS σ τ K nb := ⟨h2.2.2.2.2.2.2.2.2.1.symm, h2.2.2.2.2.2.2.2.2.2.2.1.symm, h2.2.2.2.2.2.2.2.2.2.2.2.2.1.symm, fun b p hp => (h4.1 b p hp).symm, fun b hb hE => (hK b hb hE).2.2.2⟩
  obtain ⟨Q, τq, g, sq, pm, g9, rr⟩ := r_make1 hJ hgS he hk hU i6 d
  have nc' := fun c (hc : c ∈ eN σ K (b, U + 1, 0, -1)) => new_c hJ he hk' rfl rfl hU m N O B ht hc
  have W' := new_W (O := O) (B := B) hJ he hk' rfl rfl hU m (jI_W h5)
  simp only at W' nc'
  have hcov : ∀ x, U < x → x ≤ U + K b → ∃ c, c ∈ eN σ K (b, U + 1, 0, -1) ∧ nM σ K c = x := fun x a1 a2 => eN_cov hJ he hk' (by simp only; omega) (by simp only; omega)
  have kr : ∀ z, z ∈ kE σ K (b, U + 1, 0, -1) → U < z ∧ z ≤ U + K b := by
    intro z hz'
    have := kE_rng hJ _ he hk' z hz'
    simp only at this
    omega
  have hroot := eN_self hJ he hk'
  obtain ⟨q1, q2, q3, q4, q5', q6, q7, q8⟩ := nc' _ hroot
  simp only at q2 q3
  -- the reference's rows
  have tqr : ∀ c, c ∈ eN σ K (b, U + 1, 0, -1) → rw4 σ K τq c := fun c hc => sq.2.2.2.1 c (by rw [List.take_length]; exact pm.mem_iff.2 hc)
  have tqo : ∀ k, 20 ≤ k → k ≤ 23 → ∀ x, (x ≤ U ∨ U + K b < x) → τq.1 k x = τ.1 k x := by
    intro k a1 a2 x hx
    have := sq.2.2.2.2 k a1 a2 x (fun c hc => by
      rw [List.take_length] at hc
      have := nc' c (pm.mem_iff.1 hc)
      omega)
    rw [this]
    exact congrFun (mm_w_ne (by omega)) x
  have tqc : ∀ k, k ≠ 0 → (k < 20 ∨ (23 < k ∧ k < 26) ∨ 30 < k) → τq.1 k = τ.1 k := fun k a1 a2 => (sq.2.1 k a1 a2).trans (mm_w_ne a1)
  have tq0 : ∀ j, j ≠ 37 → j ≠ 24 → τq.1 0 j = τ.1 0 j := fun j a1 a2 => (sq.2.2.1 j a1).trans (show mm_w τ.1 0 24 (nI (U + K b)) 0 j = τ.1 0 j from mm_w_at2 a2)
  have tq24 : τq.1 0 24 = nI (U + K b) := (sq.2.2.1 24 (by decide)).trans (show mm_w τ.1 0 24 (nI (U + K b)) 0 24 = nI (U + K b) from mm_w_at)
  have hDq : rD τq (U + K b) G := by
    refine ⟨hU, tq24, (tq0 31 (by decide) (by decide)).trans i7, ?_⟩
    rw [pCt_add (K b) (fun i a1 a2 => by
      obtain ⟨c, hc, e⟩ := hcov (i + 1) (by omega) (by omega)
      rw [← e, (tqr c hc).2.2.2]
      decide), ← (jI_rD h5).2.2.2]
    refine pCt_ext (fun i hi => ?_)
    rw [tqo 23 (by decide) (by decide) (i + 1) (Or.inl (by omega))]
  have oldW := jI_W h5
  have oldO := jI_O h5
  have hOq : tO τq (U + K b) (nN U N σ') (nO U O σ') := by
    refine ⟨fun z z1 z2 => ?_, fun x p x1 x2 hp => ?_⟩
    · by_cases hzU : z ≤ U
      · obtain ⟨o1, o2, o3⟩ := oldO.1 z z1 hzU
        have eo : nO U O σ' z = O z := by unfold nO; rw [if_pos hzU]
        rw [eo, tqo 21 (by decide) (by decide) z (Or.inl hzU)]
        refine ⟨o1, o2, fun h => ?_⟩
        obtain ⟨p, hp, e⟩ := o3 h
        refine ⟨p, hp, ?_⟩
        unfold nN
        rw [if_pos (by omega)]
        exact e
      · obtain ⟨c, hc, rfl⟩ := hcov z (by omega) z2
        obtain ⟨n1, n2, n3, n4, n5, n6, n7, n8⟩ := nc' c hc
        rw [n2]
        refine ⟨(tqr c hc).2.1, eN_owner hJ he hk' (by simp only; omega) rfl hc, fun h => ?_⟩
        rcases eN_par hJ _ he hk' c hc with rfl | ⟨a, ha, hca⟩
        · exact absurd rfl h
        · have va := (nc' a ha).2.2.2.2.1
          rcases cE_own2 hJ va hca with ⟨-, w⟩ | ⟨p, p1, w1, w2, w3, w4⟩
          · exact absurd w h
          · exact ⟨p, p1, by rw [w1, (nc' a ha).1 p p1]; exact w3⟩
    · by_cases hxU : x ≤ U
      · have en : nN U N σ' p x = N p x := by unfold nN; rw [if_pos hxU]
        rw [en]
        by_cases h : N p x = 0
        · exact Or.inl h
        · right
          have hle := ((oldW x x1 hxU).2.1 p hp).resolve_left h
          have := (oldO.2 x p x1 hxU hp).resolve_left h
          unfold nO
          rw [if_pos hle.2.1]
          exact this
      · obtain ⟨c, hc, rfl⟩ := hcov x (by omega) x2
        rw [(nc' c hc).1 p hp]
        by_cases h : pNn σ K c p = 0
        · exact Or.inl h
        · right
          obtain ⟨-, -, e3, e4⟩ := pNn_e h
          rw [e3, (nc' _ (eN_ch hJ _ he hk' c hc _ e4)).2.1]
  have ekl : (fE σ K (b, U + 1, 0, -1)).flatMap (fun a => tL (nN U N σ') a.2.1) = kE σ K (b, U + 1, 0, -1) := by
    rw [kE_fE hJ _ he hk']
    refine fm_congr (fun a ha => ?_)
    obtain ⟨a1, a2⟩ := (fE_mem hJ _ he hk' a).1 ha
    have ec : cHm σ a = [((σ.1 17 a.1).toNatClampNeg, a.2.1, 0, -1)] := by unfold cHm; rw [if_neg a2]
    obtain ⟨d1, d2, d3, d4, d5, d6, d7⟩ := home_dies hJ he hk' a1 (show ((σ.1 17 a.1).toNatClampNeg, a.2.1, 0, -1) ∈ cHm σ a by rw [ec]; exact List.mem_singleton.2 rfl)
    have key := tL_tE hJ W' _ d3 d4 (fun c hc => by
      have := nc' c (eN_sub hJ he hk' _ d3 d4 d5 c hc)
      exact ⟨by omega, this.2.2.2.2.2.2.2, this.1⟩)
    rw [ec, List.flatMap_singleton, ← key, d2]
  have hlQ : Q.length = K b := by rw [pm.length_eq]; exact eN_len hJ he hk'
  have hvQ : ∀ c, c ∈ Q → vE σ nb c ∧ K c.1 ≤ 10 ∧ c.2.1 ≤ 201 := fun c hc => by
    have hc' := pm.mem_iff.1 hc
    have := nc' c hc'
    have r := eN_rng hJ _ he hk' c hc'
    simp only at r
    exact ⟨this.2.2.2.2.1, this.2.2.2.2.2.1, by omega⟩
  have hndQ : Q.Nodup := pm.nodup_iff.2 (nd_map (eN_nd hJ he hk'))
  have hkal : ∀ z, z ∈ kE σ K (b, U + 1, 0, -1) → ¬ τq.1 23 z = 0 := by
    intro z hz'
    obtain ⟨c, hc, e⟩ := hcov z (kr z hz').1 (kr z hz').2
    rw [← e, (tqr c hc).2.2.2]
    decide
  have hkq : kq σ K nb τq Q (fE σ K (b, U + 1, 0, -1)) := by
    refine ⟨sq.1.1, fun i c hc => ?_, fun b' hb' hE' => ?_⟩
    · obtain ⟨s1, s2, -, -, s5⟩ := sq.1.2 i c hc
      refine ⟨s1, s2, ?_⟩
      rw [s5, fE_mem hJ _ he hk' c]
      have hcm := pm.mem_iff.1 (List.mem_of_getElem? hc)
      constructor
      · intro q
        refine ⟨hcm, fun w => ?_⟩
        rw [if_pos w] at q
        exact q rfl
      · rintro ⟨-, w⟩
        rw [if_neg w]
        decide
    · rw [tqc 16 (by decide) (Or.inl (by decide))]
      exact hgS.2.2.2.2 b' hb' hE'
  obtain ⟨τ', t1, t2, t3⟩ := r_homes (x1 := nI b) (x2 := nI (nM σ K (b, U + 1, 0, -1))) hJ.1 W' (by omega) hvQ hndQ (d + 1) Q.length 0 g (fE σ K (b, U + 1, 0, -1)) τq G (by omega) (by omega) (by rw [pm.length_eq]; exact fE_len hJ _ he hk') (fun c hc => by
    have hc' := ((fE_mem hJ _ he hk' c).1 hc).1
    have r := eN_rng hJ _ he hk' c hc'
    have kp : 1 ≤ K c.1 := by rw [(hJ.2 c.1 r.1.1 r.1.2).2.2.2.2]; omega
    simp only at r
    exact ⟨pm.mem_iff.2 hc', by omega, by omega⟩) (fE_sort hJ _ he hk') hkq hDq hOq (by rw [ekl]; exact kE_nd hJ _ he hk') (by rw [ekl]; exact hkal)
  rw [ekl] at t1 t2
  have rmk := rr _ t3
  have hndk := kE_nd hJ _ he hk'
  generalize hkl : kE σ K (b, U + 1, 0, -1) = kl at *
  obtain ⟨m1, m2, m3, m4, m5, m6, m7⟩ := m
  have tk : ∀ k, k ≠ 0 → k ≠ 23 → k ≠ 25 → k ≠ 30 → k ≠ 31 → τ'.1 k = τq.1 k := fun k a1 a2 a3 a4 a5 => (t1 k a4 a5).trans (kR_o a1 a2 a3 _ _)
  have t0 : ∀ j, j ≠ 31 → τ'.1 0 j = τq.1 0 j := fun j hj => by rw [t1 0 (by decide) (by decide)]; exact kR_0 hj _ _
  have t24 : τ'.1 24 = τ.1 24 := (tk 24 (by decide) (by decide) (by decide) (by decide) (by decide)).trans (tqc 24 (by decide) (by decide))
  have t23n : ∀ x, x ∉ kl → τ'.1 23 x = τq.1 23 x := fun x hx => by rw [t1 23 (by decide) (by decide)]; exact kR_23n _ _ _ hx
  have nk : nM σ K (b, U + 1, 0, -1) ∉ kl := by
    rw [← hkl]
    refine tE_kE hJ _ he hk' _ ?_
    rw [tE_eq hJ he hk']
    exact List.mem_cons_self
  have w24 : ∀ x, x ≠ nM σ K (b, U + 1, 0, -1) → mm_w τ'.1 24 (nM σ K (b, U + 1, 0, -1)) (if σ.1 15 b = 0 then 1 else 0) 24 x = τ.1 24 x := fun x hx => by rw [mm_w_at2 hx, t24]
  have wo : ∀ k, k ≠ 24 → mm_w τ'.1 24 (nM σ K (b, U + 1, 0, -1)) (if σ.1 15 b = 0 then 1 else 0) k = τ'.1 k := fun k hk => mm_w_ne hk
  have n24 : τ'.1 24 (nM σ K (b, U + 1, 0, -1)) = 0 := by rw [t24]; exact (i13 _ q7).2.1
  -- rows of the class outside the block
  have so : ∀ k, 34 ≤ k → k ≤ 40 → ∀ x, (x ≤ U ∨ U + K b < x) → σ'.1 k x = σ.1 k x := fun k a1 a2 x hx => m3 k a1 a2 x (by omega) (Or.inl id)
  have inkl : ∀ z, z ∈ kl → ∃ a h, a ∈ eN σ K (b, U + 1, 0, -1) ∧ h ∈ cHm σ a ∧ z ∈ tL (nN U N σ') a.2.1 ∧ U < a.2.1 ∧ a.2.1 ≤ U + K b ∧ nO U O σ' a.2.1 = 0 ∧ ∀ w, w ∈ tL (nN U N σ') a.2.1 → w ∈ kl := by
    intro z hz'
    rw [← ekl, List.mem_flatMap] at hz'
    obtain ⟨a, ha, hz'⟩ := hz'
    obtain ⟨a1, a2⟩ := (fE_mem hJ _ he hk' a).1 ha
    have ec : cHm σ a = [((σ.1 17 a.1).toNatClampNeg, a.2.1, 0, -1)] := by unfold cHm; rw [if_neg a2]
    have hm : ((σ.1 17 a.1).toNatClampNeg, a.2.1, 0, -1) ∈ cHm σ a := by rw [ec]; exact List.mem_singleton.2 rfl
    obtain ⟨d1, d2, d3, d4, d5, d6, d7⟩ := home_dies hJ he hk' a1 hm
    have nh := nc' _ d5
    rw [d2] at nh
    refine ⟨a, _, a1, hm, hz', by omega, by omega, nh.2.1, fun w hw => ?_⟩
    rw [← ekl, List.mem_flatMap]
    exact ⟨a, ha, hw⟩
  have upk : ∀ x p, 1 ≤ x → x ≤ U + K b → p < 3 → ¬ nN U N σ' p x = 0 → (nN U N σ' p x ∈ kl ↔ x ∈ kl) := by
    intro x p x1 x2 hp hnz
    have ho := (hOq.2 x p x1 x2 hp).resolve_left hnz
    constructor
    · intro hz'
      obtain ⟨a, h, a1, a2, a3, a4, a5, a6, a7⟩ := inkl _ hz'
      rcases tL_dn W' a.2.1 (by omega) a5 _ a3 with w | ⟨w, r, w1, w2, w3, w4⟩
      · rw [w, a6] at ho; omega
      · have wr := tL_rng W' a.2.1 (by omega) a5 w w1
        have ow := (hOq.2 w r (by omega) wr.2.2 w2).resolve_left w3
        rw [w4, ho] at ow
        rw [ow]
        exact a7 w w1
    · intro hx
      obtain ⟨a, h, a1, a2, a3, a4, a5, a6, a7⟩ := inkl _ hx
      exact a7 _ (tL_up W' a.2.1 (by omega) a5 x a3 p hp hnz)
  have al : ∀ x, U < x → x ≤ U + K b → (¬ σ'.1 36 x = 0 ↔ x ∉ kl) := by
    intro x a1 a2
    rw [m5 x (by omega) (by omega)]
    constructor
    · intro q w
      rw [if_pos w] at q
      exact q rfl
    · intro q
      rw [if_neg q]
      decide
  have st : ∀ k, k ≠ 4 → k < 34 → σ'.1 k = σ.1 k := fun k a1 a2 => m1 k a1 (Or.inl a2)
  refine ⟨σ', τ', nM σ K (b, U + 1, 0, -1), G + kl.length, q7, q8, r1, rmk, ?_, q2, q3, (al _ q7 q8).2 nk, fun k hk => m1 k (by omega) (Or.inr hk), ?_, ?_, n24, fun x hx => so 36 (by decide) (by decide) x (Or.inl hx), st⟩
  · -- the coupling
    have qa : stA σ σ' := ⟨fun c a1 a2 => st c (by omega) (by omega), by rw [st 1 (by decide) (by decide)], by rw [st 2 (by decide) (by decide)]⟩
    have tst : ∀ k, k ≠ 0 → k < 20 → mm_w τ'.1 24 (nM σ K (b, U + 1, 0, -1)) (if σ.1 15 b = 0 then 1 else 0) k = τ.1 k := fun k a1 a2 => by rw [wo k (by omega), tk k a1 (by omega) (by omega) (by omega) (by omega), tqc k a1 (Or.inl a2)]
    have tst0 : ∀ j, j ≠ 24 → j ≠ 31 → j ≠ 37 → mm_w τ'.1 24 (nM σ K (b, U + 1, 0, -1)) (if σ.1 15 b = 0 then 1 else 0) 0 j = τ.1 0 j := fun j a1 a2 a3 => by rw [wo 0 (by decide), t0 j a2, tq0 j a3 a1]
    have ra : stR τ (mm_w τ'.1 24 (nM σ K (b, U + 1, 0, -1)) (if σ.1 15 b = 0 then 1 else 0), τ'.2) := ⟨fun c a1 a2 => tst c (by omega) (by omega), tst0 0 (by decide) (by decide) (by decide), tst0 5 (by decide) (by decide) (by decide)⟩
    refine ⟨cI_A qa h1, sT_A qa ra h2, jX_A qa h3, jP_A qa (fun c a1 a2 _ => st c (by omega) (by omega)) (by rw [st 0 (by decide) (by decide)]) (tst 16 (by decide) (by decide)) (tst 14 (by decide) (by decide)) (jX_pt h3) h4, ?_, ?_⟩
    · refine ⟨hU, by rw [← m2.2.2.2.2]; exact pCt_le _ _, m2.2.1, m2.2.2.1, m2.2.2.2.1, ?_, ?_, ?_, ?_, ?_, ?_, m2.2.2.2.2, fun x hx => ⟨fun p => ?_, ?_, ?_⟩, fun x p hp => ?_, fun x x1 x2 => ?_⟩
      · show mm_w τ'.1 24 (nM σ K (b, U + 1, 0, -1)) (if σ.1 15 b = 0 then 1 else 0) 0 24 = _
        rw [wo 0 (by decide), t0 24 (by decide)]; exact tq24
      · show mm_w τ'.1 24 (nM σ K (b, U + 1, 0, -1)) (if σ.1 15 b = 0 then 1 else 0) 0 31 = _
        rw [wo 0 (by decide), t1 0 (by decide) (by decide)]; exact t2.2.2.1
      · show σ'.1 34 = mm_w τ'.1 24 (nM σ K (b, U + 1, 0, -1)) (if σ.1 15 b = 0 then 1 else 0) 20
        rw [wo 20 (by decide), tk 20 (by decide) (by decide) (by decide) (by decide) (by decide)]
        funext x
        by_cases hx : U < x ∧ x ≤ U + K b
        · obtain ⟨c, hc, rfl⟩ := hcov x hx.1 hx.2
          rw [(m4 c hc).1, (tqr c hc).1]
        · rw [so 34 (by decide) (by decide) x (by omega), tqo 20 (by decide) (by decide) x (by omega), i8]
      · show σ'.1 35 = mm_w τ'.1 24 (nM σ K (b, U + 1, 0, -1)) (if σ.1 15 b = 0 then 1 else 0) 21
        rw [wo 21 (by decide), tk 21 (by decide) (by decide) (by decide) (by decide) (by decide)]
        funext x
        by_cases hx : U < x ∧ x ≤ U + K b
        · obtain ⟨c, hc, rfl⟩ := hcov x hx.1 hx.2
          rw [(m4 c hc).2.1, (tqr c hc).2.1]
        · rw [so 35 (by decide) (by decide) x (by omega), tqo 21 (by decide) (by decide) x (by omega), i9]
      · show σ'.1 36 = mm_w τ'.1 24 (nM σ K (b, U + 1, 0, -1)) (if σ.1 15 b = 0 then 1 else 0) 23
        rw [wo 23 (by decide)]
        funext x
        by_cases hxk : x ∈ kl
        · have := kr x hxk
          rw [m5 x (by omega) (by omega), if_pos hxk, t1 23 (by decide) (by decide), kR_23y _ _ _ (Or.inl hxk)]
        · rw [t23n x hxk]
          by_cases hx : U < x ∧ x ≤ U + K b
          · rw [m5 x (by omega) (by omega), if_neg hxk]
            obtain ⟨c, hc, rfl⟩ := hcov x hx.1 hx.2
            exact (tqr c hc).2.2.2.symm
          · rw [so 36 (by decide) (by decide) x (by omega), tqo 23 (by decide) (by decide) x (by omega), i10]
      · show σ'.1 41 = mm_w τ'.1 24 (nM σ K (b, U + 1, 0, -1)) (if σ.1 15 b = 0 then 1 else 0) 25
        rw [wo 25 (by decide), t1 25 (by decide) (by decide), kR_25 _ hDq hndk (fun z hz' => ⟨by have := kr z hz'; omega, (kr z hz').2, hkal z hz'⟩), m6, tqc 25 (by decide) (by decide), i11]
      · unfold nN
        rw [if_neg (by omega)]
        by_cases hp : p < 3
        · rw [if_pos hp, so (38 + p) (by omega) (by omega) x (Or.inr hx), hz x p (by omega) hp]
          rfl
        · rw [if_neg hp]
      · exact (w24 x (by omega)).trans (i13 x (by omega)).2.1
      · rw [so 36 (by decide) (by decide) x (Or.inr hx)]
        exact (i13 x (by omega)).2.2
      · unfold nN
        by_cases hx : x ≤ U
        · rw [if_pos hx, so (38 + p) (by omega) (by omega) x (Or.inl hx)]
          exact i14 x p hp
        · rw [if_neg hx, if_pos hp]
          by_cases hx2 : x ≤ U + K b
          · obtain ⟨c, hc, rfl⟩ := hcov x (by omega) hx2
            rw [(m4 c hc).2.2 p hp, nI_clamp (by have := pNn_le hJ he hk' (by simp only; omega) hc p; omega)]
          · rw [so (38 + p) (by omega) (by omega) x (Or.inr (by omega)), hz x p (by omega) hp]
            rfl
      · have t22 : ∀ y, (y ≤ U ∨ U + K b < y) → mm_w τ'.1 24 (nM σ K (b, U + 1, 0, -1)) (if σ.1 15 b = 0 then 1 else 0) 22 y = τ.1 22 y := fun y hy => by rw [wo 22 (by decide), tk 22 (by decide) (by decide) (by decide) (by decide) (by decide), tqo 22 (by decide) (by decide) y hy]
        have t22c : ∀ c, c ∈ eN σ K (b, U + 1, 0, -1) → mm_w τ'.1 24 (nM σ K (b, U + 1, 0, -1)) (if σ.1 15 b = 0 then 1 else 0) 22 (nM σ K c) = c.2.2.2 := fun c hc => by rw [wo 22 (by decide), tk 22 (by decide) (by decide) (by decide) (by decide) (by decide)]; exact (tqr c hc).2.2.1
        have wx := W' x x1 x2
        by_cases hx : x ≤ U
        · obtain ⟨⟨a1, a2, a3, a4, a5, a6, a7, a8, a9⟩, bb⟩ := i15 x x1 hx
          have eO : nO U O σ' x = O x := by unfold nO; rw [if_pos hx]
          have eB : nB U B σ' x = B x := by unfold nB; rw [if_pos hx]
          have eN' : ∀ p, nN U N σ' p x = N p x := fun p => by unfold nN; rw [if_pos hx]
          have eNO : ∀ p y, y ≤ U → nN U N σ' p y = N p y := fun p y hy => by unfold nN; rw [if_pos hy]
          refine ⟨⟨?_, ?_, ?_, ?_, ?_, wx.1, fun p hp => ?_, wx.2.2, fun hO' => ?_⟩, fun hal => ⟨fun p hp hn0 => ?_, fun hO' => ?_, ?_⟩⟩
          · rw [eB, so 34 (by decide) (by decide) x (Or.inl hx)]; exact a1
          · rw [eB]; exact a2
          · rw [eB, st 16 (by decide) (by decide), st 17 (by decide) (by decide)]; exact a3
          · rw [eO, so 35 (by decide) (by decide) x (Or.inl hx)]; exact a4
          · rw [eO]; exact a5
          · rcases wx.2.1 p hp with w | w
            · exact Or.inl w
            · right
              rw [eN'] at w ⊢
              have hN0 : ¬ N p x = 0 := by omega
              have := (a7 p hp).resolve_left hN0
              refine ⟨w.1, w.2.1, w.2.2, ?_, ?_⟩
              · unfold nO
                rw [if_pos this.2.1]
                exact this.2.2.2.1
              · exact (t22 _ (Or.inl this.2.1)).trans this.2.2.2.2
          · rw [eO] at hO' ⊢
            obtain ⟨p, p1, p2, p3⟩ := a9 hO'
            exact ⟨p, p1, (t22 x (Or.inl hx)).trans p2, by rw [eNO p (O x) (by omega)]; exact p3⟩
          · rw [so 36 (by decide) (by decide) x (Or.inl hx)] at hal
            rw [eN'] at hn0 ⊢
            have := (a7 p hp).resolve_left hn0
            rw [so 36 (by decide) (by decide) _ (Or.inl this.2.1)]
            exact (bb hal).1 p hp hn0
          · rw [so 36 (by decide) (by decide) x (Or.inl hx)] at hal
            rw [eO] at hO' ⊢
            rw [so 36 (by decide) (by decide) _ (Or.inl (by omega))]
            exact (bb hal).2.1 hO'
          · rw [so 36 (by decide) (by decide) x (Or.inl hx)] at hal
            rw [eO, eB, st 15 (by decide) (by decide)]
            show ¬ mm_w τ'.1 24 (nM σ K (b, U + 1, 0, -1)) (if σ.1 15 b = 0 then 1 else 0) 24 x = 0 ↔ _
            rw [w24 x (by omega)]
            exact (bb hal).2.2
        · obtain ⟨c, hc, rfl⟩ := hcov x (by omega) x2
          obtain ⟨n1, n2, n3, n4, n5, n6, n7, n8⟩ := nc' c hc
          have ow := eN_owner hJ he hk' (by simp only; omega) rfl hc
          refine ⟨⟨?_, ?_, ?_, ?_, ?_, wx.1, fun p hp => ?_, wx.2.2, fun hO' => ?_⟩, fun hal => ⟨fun p hp hn0 => ?_, fun hO' => ?_, ?_⟩⟩
          · rw [n3]; exact (m4 c hc).1
          · rw [n3]; exact n5.1
          · rw [n3, st 16 (by decide) (by decide), st 17 (by decide) (by decide)]; exact n5.2
          · rw [n2]; exact (m4 c hc).2.1
          · rw [n2]; exact ow
          · rcases wx.2.1 p hp with w | w
            · exact Or.inl w
            · right
              have hN0 : ¬ nN U N σ' p (nM σ K c) = 0 := by omega
              refine ⟨w.1, w.2.1, w.2.2, (hOq.2 _ p x1 x2 hp).resolve_left hN0, ?_⟩
              rw [n1 p hp] at hN0 ⊢
              obtain ⟨-, -, e3, e4⟩ := pNn_e hN0
              rw [e3]
              exact t22c _ (eN_ch hJ _ he hk' c hc _ e4)
          · rw [n2] at hO' ⊢
            rcases eN_par hJ _ he hk' c hc with rfl | ⟨a, ha, hca⟩
            · exact absurd rfl hO'
            · have va := (nc' a ha).2.2.2.2.1
              rcases cE_own2 hJ va hca with ⟨-, w⟩ | ⟨p, p1, w1, w2, w3, w4⟩
              · exact absurd w hO'
              · exact ⟨p, p1, (t22c c hc).trans w2, by rw [w1, (nc' a ha).1 p p1]; exact w3⟩
          · have hk1 := (al _ n7 n8).1 hal
            have w := (wx.2.1 p hp).resolve_left hn0
            have : ¬ nN U N σ' p (nM σ K c) ∈ kl := fun q => hk1 ((upk _ p x1 x2 hp hn0).1 q)
            exact (al _ (by omega) w.2.1).2 this
          · have hk1 := (al _ n7 n8).1 hal
            rw [n2] at hO' ⊢
            rcases eN_par hJ _ he hk' c hc with rfl | ⟨a, ha, hca⟩
            · exact absurd rfl hO'
            · have na := nc' a ha
              rcases cE_own2 hJ na.2.2.2.2.1 hca with ⟨-, w⟩ | ⟨p, p1, w1, w2, w3, w4⟩
              · exact absurd w hO'
              · rw [w1]
                have e1 : nN U N σ' p (nM σ K a) = nM σ K c := by rw [na.1 p p1]; exact w3
                refine (al _ na.2.2.2.2.2.2.1 na.2.2.2.2.2.2.2).2 (fun q => hk1 ?_)
                have := (upk (nM σ K a) p (by omega) na.2.2.2.2.2.2.2 p1 (by rw [e1]; omega)).2 q
                rw [e1] at this
                exact this
          · have hk1 := (al _ n7 n8).1 hal
            rw [n2, n3, st 15 (by decide) (by decide)]
            show ¬ mm_w τ'.1 24 (nM σ K (b, U + 1, 0, -1)) (if σ.1 15 b = 0 then 1 else 0) 24 (nM σ K c) = 0 ↔ _
            by_cases ce : c = (b, U + 1, 0, -1)
            · subst ce
              rw [mm_w_at]
              by_cases hs : σ.1 15 b = 0
              · rw [if_pos hs]
                exact ⟨fun _ => ⟨rfl, hs⟩, fun _ => by decide⟩
              · rw [if_neg hs]
                exact ⟨fun q => absurd rfl q, fun q => absurd q.2 hs⟩
            · have hne : nM σ K c ≠ nM σ K (b, U + 1, 0, -1) := fun q => ce (eN_uni hJ he hk' hc hroot q)
              rw [w24 _ hne, (i13 _ n7).2.1]
              refine ⟨fun q => absurd rfl q, fun q => ?_⟩
              rcases eN_par hJ _ he hk' c hc with w | ⟨a, ha, hca⟩
              · exact absurd w ce
              · rcases cE_own2 hJ (nc' a ha).2.2.2.2.1 hca with ⟨w, -⟩ | ⟨p, p1, w1, -⟩
                · exfalso
                  apply hk1
                  have hd := home_dies hJ he hk' ha w
                  rw [hkl] at hd
                  refine hd.2.2.2.2.2.2 _ ?_
                  rw [tE_eq hJ hd.2.2.1 hd.2.2.2.1]
                  exact List.mem_cons_self
                · have := (nc' a ha).2.2.2.2.2.2.1
                  rw [w1] at q
                  omega
    · rw [st 0 (by decide) (by decide)]
      show σ.1 0 5 = mm_w τ'.1 24 (nM σ K (b, U + 1, 0, -1)) (if σ.1 15 b = 0 then 1 else 0) 0 15 ∧ _
      rw [tst0 15 (by decide) (by decide) (by decide)]
      exact h7
  · exact (tk 32 (by decide) (by decide) (by decide) (by decide) (by decide)).trans (tqc 32 (by decide) (by decide))
  · exact (tk 33 (by decide) (by decide) (by decide) (by decide) (by decide)).trans (tqc 33 (by decide) (by decide))
