/-! deploy -/
def PP (σ : mm_S) (nb : Nat) (F1 F2 : Nat → Nat) : Int32 := (PR σ nb F1 F2 nb ||| (if pRg (wW (MM σ nb F1 F2) nb) nb = true then 16 else 0)) ||| (if pNs (σ.1 16) (σ.1 17) (σ.1 14) nb 7 = true then 32 else 0)
theorem MM_lt {σ : mm_S} {nc nb : Nat} {F1 F2 lv H : Nat → Nat} (hI : cI σ nc nb F1 F2 lv H) {b : Nat} (hb : b < nb) : MM σ nb F1 F2 b < 2 ^ nb := by
  unfold MM
  split
  · exact nMf_lt hI.2.2.1.2 (hI.2.2.2.2.2.2.2.2.2.1 b hb) (fun q _ => vT_neg)
  · exact Nat.two_pow_pos nb
theorem ph_0 (σ : mm_S) (nb : Nat) (F1 F2 : Nat → Nat) : ph σ σ nb F1 F2 0 := ⟨fun _ _ => rfl, fun q _ b' => by rw [if_neg (fun z => absurd z.1 (Nat.not_lt_zero _))], fun b' hb => absurd hb (Nat.not_lt_zero _)⟩
theorem rph_0 (σ τ : mm_S) (nb : Nat) (F1 F2 : Nat → Nat) : rph σ τ τ nb F1 F2 0 := ⟨pr_refl τ, fun b' q _ => by rw [if_neg (fun z => absurd z.1 (Nat.not_lt_zero _))], fun b' hb => absurd hb (Nat.not_lt_zero _)⟩
theorem c_judge {σ : mm_S} {nc nb : Nat} {F1 F2 lv H : Nat → Nat} (hI : cI σ nc nb F1 F2 lv H) (hX : jX σ nc nb F1 F2 lv) (d : Nat) : ∃ σ1, (∀ k, k < 29 ∨ 32 < k → σ1.1 k = σ.1 k) ∧ (∀ q, q < 3 → ∀ b', σ1.1 (29 + q) b' = if b' < nb ∧ pE (σ.1 16) (σ.1 17) b' = true ∧ q < pPt σ b' then vT σ nb F1 F2 b' q else σ.1 (29 + q) b') ∧ cG (d + 41) 62 [.ref 3] σ = some (PP σ nb F1 F2, 0, σ1) := by
  have hn := hI.2.2.1.2
  obtain ⟨σ', g, g1, p1, p2⟩ := c_phase1 hI hX d nb 0 (99999996 + 0) σ (by omega) (by omega) (ph_0 σ nb F1 F2)
  have a1 : stA σ σ' := ⟨fun c _ _ => p1.1 c (Or.inl (by omega)), congrFun (p1.1 1 (by decide)) 0, congrFun (p1.1 2 (by decide)) 1⟩
  have hI' := cI_A a1 hI
  obtain ⟨σ1, q1, q2⟩ := c_rings hI'.2.2.1 (M := MM σ nb F1 F2) (fun b hb => MM_lt hI hb) p1.2.2 (d + 38)
  have a2 : stA σ σ1 := ⟨fun c x y => (q1 c (by omega)).trans (a1.1 c x y), (congrFun (q1 1 (by decide)) 0).trans a1.2.1, (congrFun (q1 2 (by decide)) 1).trans a1.2.2⟩
  have hI1 := cI_A a2 hI
  have hN := c_names hI1.2.2.1 hI1.2.2.2.2.2.2.2.2.2.1 (d + 36)
  rw [a2.1 16 (by decide) (by decide), a2.1 17 (by decide) (by decide), a2.1 14 (by decide) (by decide)] at hN
  refine ⟨σ1, fun k hk => (q1 k (by omega)).trans (p1.1 k hk), fun q hq b' => ?_, ?_⟩
  · rw [q1 (29 + q) (by omega)]
    exact p1.2.1 q hq b'
  · rw [show d + 41 = (d + 40) + 1 from rfl, cp_62_g]
    refine p2 _ ?_
    rw [show g = (g - 41) + 41 by omega, cp_62_h1, show d + 40 = (d + 39) + 1 by omega, c_size, hI'.2.2.1.1]
    simp only [pu_bnd]
    rw [if_pos (nI_le (Nat.le_refl _) (by omega)), show d + 39 + 1 = (d + 38) + 2 by omega, q2]
    simp only [pu_bnd, pb_if]
    rw [show d + 38 + 2 = (d + 36) + 4 by omega, hN]
    simp only [pu_bnd, pb_if]
    unfold PP
    cases pRg (wW (MM σ nb F1 F2) nb) nb with
    | false =>
      cases pNs (σ.1 16) (σ.1 17) (σ.1 14) nb 7 with
      | false => simp only [Bool.false_eq_true, if_false, i_or0]
      | true => simp only [Bool.false_eq_true, if_false, if_true, i_or0]
    | true =>
      cases pNs (σ.1 16) (σ.1 17) (σ.1 14) nb 7 with
      | false => simp only [Bool.false_eq_true, if_false, if_true, i_or0]
      | true => simp only [if_true]
theorem gP_of {σ σ1 : mm_S} {nc nb : Nat} {F1 F2 lv H : Nat → Nat} (hI : cI σ nc nb F1 F2 lv H) (hX : jX σ nc nb F1 F2 lv) (h : ∀ k, k < 29 → σ1.1 k = σ.1 k) (ht : ∀ q, q < 3 → ∀ b', σ1.1 (29 + q) b' = if b' < nb ∧ pE (σ.1 16) (σ.1 17) b' = true ∧ q < pPt σ b' then vT σ nb F1 F2 b' q else σ.1 (29 + q) b') (hr : pRg (wW (MM σ nb F1 F2) nb) nb = false) (hz : PR σ nb F1 F2 nb = 0) : gP σ1 nb (rk_ (MM σ nb F1 F2) nb) := by
  have hn := hI.2.2.1.2
  intro b hb hE
  have ept : pPt σ1 b = pPt σ b := by unfold pPt; rw [h 19 (by decide)]
  have hp3 := jX_pt hX b hb
  rw [h 16 (by decide), h 17 (by decide)] at hE ⊢
  obtain ⟨y1, y2, y3, m, m3, em, -⟩ := hX.2.2.2.1 b hb
  have epm : pPt σ b = m := by unfold pPt; rw [em, nI_clamp (by omega)]
  have eMM : MM σ nb F1 F2 b = nMf (vT σ nb F1 F2 b) (σ.1 15) (σ.1 17 b) (pPt σ b) := by unfold MM; rw [if_pos hE]
  refine ⟨?_, by omega, by rw [ept, epm, h 19 (by decide)]; exact em, fun p hp => ?_, rk_n hr hb⟩
  · rcases hI.2.2.2.2.2.2.2.2.2.1 b hb with q | ⟨k, hk, q⟩
    · exact Or.inl q
    · right
      refine ⟨k, hk, q, ?_, ?_⟩
      · obtain ⟨z1, z2⟩ := y3 k hk q
        have hk1 : σ.1 17 k = -1 := (hX.2.2.2.1 k hk).2.1 z1
        unfold pE at hE ⊢
        rw [Bool.and_eq_true, Bool.or_eq_true, q, nI_clamp (by omega)] at hE
        rw [hk1]
        have hc : (!decide (σ.1 16 k = -1)) = true := by
          rcases hE.2 with z | z
          · exact absurd (of_decide_eq_true z) (nI_m1 (by omega))
          · exact z
        rw [hc]
        simp
      · refine rk_lt hr hb hk ?_
        rw [eMM, q]
        exact nMf_home (by omega)
  · rw [ept] at hp
    obtain ⟨y, hy, ey, hEy⟩ := eP_z (PR_z hz b hb hE p hp)
    refine ⟨y, hy, ?_, hEy, fun hs => ?_⟩
    · rw [ht p (by omega) b, if_pos ⟨hb, hE, hp⟩]; exact ey
    · rw [h 15 (by decide)] at hs
      refine rk_lt hr hb hy ?_
      rw [eMM]
      exact nMf_tg (by omega) hp ey hs
set_option maxHeartbeats 2000000 in
theorem s_deploy : lq_S_deploy jR := by
  intro σ τ hR
  have hR0 := hR
  obtain ⟨nc, nb, U, G, F1, F2, lv, H, N, O, B, ht, h1, h2, h3, h4, h5, h6, h7⟩ := hR
  have hn := h1.2.2.1.2
  have hI := rI_of h1 h2
  by_cases hr : σ.1 0 5 = 0
  · have hr2 : τ.1 0 15 = 0 := by rw [← h7.1]; exact hr
    obtain ⟨σ1, a1, a2, a3⟩ := c_judge h1 h3 58
    obtain ⟨τ1, g, g1, g2, b1, b2⟩ := r_phase1 h1 h2 h3 93 nb 0 (99999993 + 0) τ (by omega) (by omega) (rph_0 σ τ nb F1 F2)
    have hI1 := pr_I b1.1 hI
    obtain ⟨τ2, c1, c2⟩ := r_rings hI1.2.2.1 (M := MM σ nb F1 F2) (fun b hb => MM_lt h1 hb) (fun b hb => (b1.2.2 b hb).1) 97
    have p2 : pr τ τ2 := pr_trans b1.1 ⟨fun k _ hk => c1 k (by omega), fun j _ _ => by rw [c1 0 (by decide)]⟩
    have hI2 := pr_I p2 hI
    have hS2 := pr_S p2 h2
    have hN := r_names hI2.2.2.1 hI2.2.2.2.2.2.2.2.1 96
    rw [← hS2.2.2.2.2.2.2.2.2.2.1, ← hS2.2.2.2.2.2.2.2.2.2.2.1, ← hS2.2.2.2.2.2.2.2.1] at hN
    have aA : stA σ σ1 := ⟨fun c _ _ => a1 c (Or.inl (by omega)), congrFun (a1 1 (by decide)) 0, congrFun (a1 2 (by decide)) 1⟩
    have e14 : ∀ b' q, q < 3 → σ1.1 (29 + q) b' = τ2.1 14 (3 * b' + q) := by
      intro b' q hq
      rw [a2 q hq b', c1 14 (by decide), b1.2.1 b' q hq, h4.1 b' q hq]
    have eR : ∀ n, mm_ex sr (rG (93 + 6)) 1 rp_32_l (n + 30) rp_32_r2 [.ref 0, .int (PR σ nb F1 F2 nb), .int (nI nb), .null] [] τ1 = ((rG (93 + 6) 30 [.ref 0] τ2).bind fun u2 => (if pRg (wW (MM σ nb F1 F2) nb) nb = true then (if u2.1 = 0 then (if ((PR σ nb F1 F2 nb ||| (16 : Int32)) ||| (0 : Int32)) = 0 then (if mm_in (3 : Int32) 4 then (mm_ex sr (rG (93 + 6)) 1 rp_32_l (n + 1) rp_32_r10 [.ref 0, .int ((PR σ nb F1 F2 nb ||| (16 : Int32)) ||| (0 : Int32)), .int (0 : Int32), .null] [] (mm_w (mm_w u2.2.2.1 0 15 1) 32 ((3 : Int32)).toNatClampNeg 1, u2.2.2.2)) else none) else (some (((PR σ nb F1 F2 nb ||| (16 : Int32)) ||| (0 : Int32)), 0, u2.2.2))) else (if ((PR σ nb F1 F2 nb ||| (16 : Int32)) ||| (32 : Int32)) = 0 then (if mm_in (3 : Int32) 4 then (mm_ex sr (rG (93 + 6)) 1 rp_32_l (n + 0) rp_32_r10 [.ref 0, .int ((PR σ nb F1 F2 nb ||| (16 : Int32)) ||| (32 : Int32)), .int (0 : Int32), .null] [] (mm_w (mm_w u2.2.2.1 0 15 1) 32 ((3 : Int32)).toNatClampNeg 1, u2.2.2.2)) else none) else (some (((PR σ nb F1 F2 nb ||| (16 : Int32)) ||| (32 : Int32)), 0, u2.2.2)))) else (if u2.1 = 0 then (if ((PR σ nb F1 F2 nb ||| (0 : Int32)) ||| (0 : Int32)) = 0 then (if mm_in (3 : Int32) 4 then (mm_ex sr (rG (93 + 6)) 1 rp_32_l (n + 2) rp_32_r10 [.ref 0, .int ((PR σ nb F1 F2 nb ||| (0 : Int32)) ||| (0 : Int32)), .int (0 : Int32), .null] [] (mm_w (mm_w u2.2.2.1 0 15 1) 32 ((3 : Int32)).toNatClampNeg 1, u2.2.2.2)) else none) else (some (((PR σ nb F1 F2 nb ||| (0 : Int32)) ||| (0 : Int32)), 0, u2.2.2))) else (if ((PR σ nb F1 F2 nb ||| (0 : Int32)) ||| (32 : Int32)) = 0 then (if mm_in (3 : Int32) 4 then (mm_ex sr (rG (93 + 6)) 1 rp_32_l (n + 1) rp_32_r10 [.ref 0, .int ((PR σ nb F1 F2 nb ||| (0 : Int32)) ||| (32 : Int32)), .int (0 : Int32), .null] [] (mm_w (mm_w u2.2.2.1 0 15 1) 32 ((3 : Int32)).toNatClampNeg 1, u2.2.2.2)) else none) else (some (((PR σ nb F1 F2 nb ||| (0 : Int32)) ||| (32 : Int32)), 0, u2.2.2)))))) := by
      intro n
      rw [rp_32_h2, hI1.2.2.1.1, if_pos (nI_le (Nat.le_refl _) (by omega)), show 93 + 6 = 97 + 2 from rfl, c2]
      simp only [pu_bnd, pb_if]
      cases pRg (wW (MM σ nb F1 F2) nb) nb with
      | false => simp only [Bool.false_eq_true, if_false]
      | true => simp only [if_true]
    by_cases hP : PP σ nb F1 F2 = 0
    · -- a good deployment
      have hP' := hP
      unfold PP at hP'
      obtain ⟨z1, z2⟩ := i_or_z hP'
      obtain ⟨z3, z4⟩ := i_or_z z1
      have hrg : pRg (wW (MM σ nb F1 F2) nb) nb = false := by
        cases q : pRg (wW (MM σ nb F1 F2) nb) nb with
        | false => rfl
        | true => rw [q] at z4; exact absurd z4 (by decide)
      have hns : pNs (σ.1 16) (σ.1 17) (σ.1 14) nb 7 = false := by
        cases q : pNs (σ.1 16) (σ.1 17) (σ.1 14) nb 7 with
        | false => rfl
        | true => rw [q] at z2; exact absurd z2 (by decide)
      have hg := gP_of h1 h3 (fun k hk => a1 k (Or.inl hk)) a2 hrg z3
      have hI1c := cI_A aA h1
      have hp3 : ∀ b, pPt σ1 b ≤ 3 := by
        intro b
        have ept : pPt σ1 b = pPt σ b := by unfold pPt; rw [a1 19 (by decide)]
        rw [ept]
        by_cases hb : b < nb
        · exact jX_pt h3 b hb
        · unfold pPt
          rw [(h3.2.2.2.2 b (by omega)).2]
          decide
      obtain ⟨σ2, d1, d2, d3⟩ := c_weigh hI1c.2.2.1 hI1c.2.2.2.2.2.2.2.2.2.1 hg hp3 95
      have t0 : ∀ i, i ≠ 15 → mm_w (mm_w τ2.1 0 15 1) 32 3 1 0 i = τ2.1 0 i := fun i hi => by rw [mm_w_off (by decide), mm_w_at2 hi]
      have tk : ∀ k, k ≠ 0 → k ≠ 32 → mm_w (mm_w τ2.1 0 15 1) 32 3 1 k = τ2.1 k := fun k x y => by rw [mm_w_ne y, mm_w_ne x]
      have hgR : gR σ1 (mm_w (mm_w τ2.1 0 15 1) 32 3 1, τ2.2) nb := by
        refine ⟨?_, ?_, ?_, ?_, fun b p hp => ?_, ?_, hn⟩
        · exact (tk 7 (by decide) (by decide)).trans (hS2.2.2.2.2.2.2.2.2.1.symm.trans (a1 15 (by decide)).symm)
        · exact (tk 9 (by decide) (by decide)).trans (hS2.2.2.2.2.2.2.2.2.2.2.1.symm.trans (a1 17 (by decide)).symm)
        · exact (tk 11 (by decide) (by decide)).trans (hS2.2.2.2.2.2.2.2.2.2.2.2.2.1.symm.trans (a1 19 (by decide)).symm)
        · exact (tk 8 (by decide) (by decide)).trans (hS2.2.2.2.2.2.2.2.2.2.1.symm.trans (a1 16 (by decide)).symm)
        · show mm_w (mm_w τ2.1 0 15 1) 32 3 1 14 (3 * b + p) = _
          rw [tk 14 (by decide) (by decide)]
          exact (e14 b p hp).symm
        · exact (t0 5 (by decide)).trans hI2.2.2.1.1
      obtain ⟨τ3, f1, f2, f3⟩ := r_prices (x1 := 0) hg hgR hI1c.2.2.2.2.2.2.2.2.2.1 (fun b hb => by
        show mm_w (mm_w τ2.1 0 15 1) 32 3 1 16 b = 0
        rw [tk 16 (by decide) (by decide), c1 16 (by decide)]
        exact (b1.2.2 b hb).2) 98 (g - 30 + 2) (by omega)
      refine ⟨(0, 0, (mm_w (mm_w σ2.1 42 3 1) 0 5 1, σ2.2)), (0, 0, τ3), ?_, ?_, rfl, ?_⟩
      · rw [show (100 : Nat) = 58 + 41 + 1 from rfl, cp_78_g, if_pos hr, a3]
        simp only [pu_bnd, hP, if_true]
        rw [show 58 + 41 = 95 + 4 from rfl, d3]
        simp only [pu_bnd]
        rw [show 95 + 4 = 97 + 2 from rfl, show (3 : Int32) = nI 3 by decide, c_open (by decide)]
        rfl
      · rw [show (100 : Nat) = 93 + 6 + 1 from rfl, rp_32_g, if_pos hr2]
        refine b2 _ ?_
        rw [show g = (g - 30) + 30 by omega, eR, show 93 + 6 = 96 + 3 from rfl, hN]
        simp only [pu_bnd, pb_if, hrg, hns, Bool.false_eq_true, if_false, z3]
        rw [if_pos (show ((0 : Int32) ||| 0 ||| 0) = 0 by decide), if_pos (show mm_in (3 : Int32) 4 by decide), show ((0 : Int32) ||| 0 ||| 0) = 0 by decide, show ((3 : Int32)).toNatClampNeg = 3 by decide, show 96 + 3 = 98 + 1 from rfl]
        rw [nI_0] at f3
        exact f3
      · -- the coupling
        have s3 : ∀ k, k ≠ 0 → k ≠ 42 → mm_w (mm_w σ2.1 42 3 1) 0 5 1 k = σ2.1 k := fun k x y => by rw [mm_w_ne x, mm_w_ne y]
        have s3a : ∀ k, k ≠ 0 → k ≠ 42 → k ≠ 33 → (k < 29 ∨ 32 < k) → mm_w (mm_w σ2.1 42 3 1) 0 5 1 k = σ.1 k := fun k x y z w => by rw [s3 k x y, d1 k z, a1 k w]
        have t3a : ∀ k, k ≠ 0 → k ≠ 32 → (k < 14 ∨ 16 < k) → τ3.1 k = τ.1 k := fun k x y z => by rw [f1 k (by omega)]; exact (tk k x y).trans (p2.1 k x z)
        have t30 : ∀ i, i ≠ 15 → i ≠ 20 → i ≠ 23 → τ3.1 0 i = τ.1 0 i := fun i x y z => by rw [f1 0 (by decide)]; exact (t0 i x).trans (p2.2 i y z)
        have qa : stA σ (mm_w (mm_w σ2.1 42 3 1) 0 5 1, σ2.2) := ⟨fun c x y => s3a c (by omega) (by omega) (by omega) (Or.inl (by omega)), congrFun (s3a 1 (by decide) (by decide) (by decide) (by decide)) 0, congrFun (s3a 2 (by decide) (by decide) (by decide) (by decide)) 1⟩
        have ra : stR τ τ3 := ⟨fun c x y => t3a c (by omega) (by omega) (Or.inl (by omega)), t30 0 (by decide) (by decide) (by decide), t30 5 (by decide) (by decide) (by decide)⟩
        have hg2 := gP_33 d1 hg
        have jk2 : jK σ2 τ3 nb (Kf σ1 nb) := by
          intro b hb hE
          obtain ⟨g1', g2', g3', g4', g5'⟩ := hg2 b hb hE
          have hE1 : pE (σ1.1 16) (σ1.1 17) b = true := by rw [← d1 16 (by decide), ← d1 17 (by decide)]; exact hE
          have kq := Kf_eq hn hg2 hb hE
          have kfe : Kf σ2 nb = Kf σ1 nb := funext (Kf_33 d1 hp3 nb)
          rw [kfe] at kq
          refine ⟨fun p hp => ?_, kq, d2 b hb hE1, f2 b hb hE1⟩
          obtain ⟨y, y1, y2, y3, -⟩ := g4' p hp
          exact ⟨y, y1, y3, y2⟩
        refine ⟨nc, nb, U, G, F1, F2, lv, H, N, O, B, ht, cI_A qa h1, sT_A qa ra h2, jX_A qa h3, ⟨fun b p hp => ?_, fun _ => ⟨Kf σ1 nb, jK_A (σ := σ2) (τ := τ3) ⟨fun c x y => s3 c (by omega) (by omega), congrFun (s3 1 (by decide) (by decide)) 0, congrFun (s3 2 (by decide) (by decide)) 1⟩ (fun c x y _ => s3 c (by omega) (by omega)) rfl (fun b hb => by
          have := hp3 b
          have ept : pPt σ2 b = pPt σ1 b := by unfold pPt; rw [d1 19 (by decide)]
          rw [ept]; exact this) jk2⟩⟩, jI_A (fun c hc => s3a c (by omega) (by omega) (by omega) (by omega)) (fun c x y => t3a c (by omega) (by omega) (Or.inr (by omega))) (t30 24 (by decide) (by decide) (by decide)) (t30 31 (by decide) (by decide) (by decide)) h5, ⟨fun c hc => ?_, fun c b hc hb => ?_, jU_A (fun k x y => s3a k (by omega) (by omega) (by omega) (Or.inr (by omega))) h6.2.2⟩, ?_, Or.inr (show mm_w (mm_w σ2.1 42 3 1) 0 5 1 0 5 = 1 from mm_w_at)⟩
        · show mm_w (mm_w σ2.1 42 3 1) 0 5 1 (29 + p) b = _
          rw [s3 (29 + p) (by omega) (by omega), d1 (29 + p) (by omega), f1 14 (by decide)]
          show _ = mm_w (mm_w τ2.1 0 15 1) 32 3 1 14 (3 * b + p)
          rw [tk 14 (by decide) (by decide)]
          exact e14 b p hp
        · show mm_w (mm_w σ2.1 42 3 1) 0 5 1 42 c = _
          rw [f1 32 (by decide)]
          show _ = mm_w (mm_w τ2.1 0 15 1) 32 3 1 32 c
          rw [mm_w_off (by decide)]
          by_cases e : c = 3
          · subst e; rw [mm_w_at, mm_w_at]
          · rw [mm_w_at2 e, mm_w_at2 e, mm_w_off (by decide), d1 42 (by decide), a1 42 (by decide), p2.1 32 (by decide) (by decide)]
            exact h6.1 c hc
        · obtain ⟨x, e1, e2, e3⟩ := h6.2.1 c b hc hb
          refine ⟨x, (congrFun (s3a (44 + c) (by omega) (by omega) (by omega) (Or.inr (by omega))) b).trans e1, by rw [t3a 33 (by decide) (by decide) (by decide)]; exact e2, e3.imp id fun ⟨a1', a2', a3', a4', a5', a6', a7', a8'⟩ => ⟨a1', a2', a3', ?_, a5', a6', ?_, ?_⟩⟩
          · rw [show ((mm_w (mm_w σ2.1 42 3 1) 0 5 1, σ2.2) : mm_S).1 36 = σ.1 36 from s3a 36 (by decide) (by decide) (by decide) (by decide)]; exact a4'
          · rw [show ((mm_w (mm_w σ2.1 42 3 1) 0 5 1, σ2.2) : mm_S).1 15 = σ.1 15 from s3a 15 (by decide) (by decide) (by decide) (by decide)]; exact a7'
          · show ¬ mm_w (mm_w σ2.1 42 3 1) 0 5 1 42 c = 0
            rw [mm_w_off (by decide)]
            by_cases e : c = 3
            · subst e; rw [mm_w_at]; decide
            · rw [mm_w_at2 e, d1 42 (by decide), a1 42 (by decide)]; exact a8'
        · show mm_w (mm_w σ2.1 42 3 1) 0 5 1 0 5 = τ3.1 0 15
          rw [mm_w_at, f1 0 (by decide)]
          show 1 = mm_w (mm_w τ2.1 0 15 1) 32 3 1 0 15
          rw [mm_w_off (by decide), mm_w_at]
    · refine ⟨(PP σ nb F1 F2, 0, σ1), (PP σ nb F1 F2, 0, τ2), ?_, ?_, rfl, ?_⟩
      · rw [show (100 : Nat) = 58 + 41 + 1 from rfl, cp_78_g, if_pos hr, a3]
        simp only [pu_bnd, hP, if_false]
      · rw [show (100 : Nat) = 93 + 6 + 1 from rfl, rp_32_g, if_pos hr2]
        refine b2 _ ?_
        rw [show g = (g - 30) + 30 by omega, eR, show 93 + 6 = 96 + 3 from rfl, hN]
        simp only [pu_bnd, pb_if]
        unfold PP at hP ⊢
        cases hrg : pRg (wW (MM σ nb F1 F2) nb) nb with
        | false =>
          cases hns : pNs (σ.1 16) (σ.1 17) (σ.1 14) nb 7 with
          | false =>
            rw [hrg, hns] at hP
            simp only [Bool.false_eq_true, if_false] at hP ⊢
            rw [if_neg hP]
          | true =>
            rw [hrg, hns] at hP
            simp only [Bool.false_eq_true, if_false, if_true] at hP ⊢
            rw [if_neg hP]
        | true =>
          cases hns : pNs (σ.1 16) (σ.1 17) (σ.1 14) nb 7 with
          | false =>
            rw [hrg, hns] at hP
            simp only [Bool.false_eq_true, if_false, if_true] at hP ⊢
            rw [if_neg hP]
          | true =>
            rw [hrg, hns] at hP
            simp only [if_true] at hP ⊢
            rw [if_neg hP]
      · have hr1 : σ1.1 0 5 = 0 := by rw [a1 0 (by decide)]; exact hr
        have ra : stR τ τ2 := ⟨fun c x y => p2.1 c (by omega) (Or.inl (by omega)), p2.2 0 (by decide) (by decide), p2.2 5 (by decide) (by decide)⟩
        refine ⟨nc, nb, U, G, F1, F2, lv, H, N, O, B, ht, cI_A aA h1, sT_A aA ra h2, jX_A aA h3, ⟨e14, fun q => absurd hr1 q⟩, jI_A (fun c hc => a1 c (by omega)) (fun c x y => p2.1 c (by omega) (Or.inr (by omega))) (p2.2 24 (by decide) (by decide)) (p2.2 31 (by decide) (by decide)) h5, jC_A (fun c hc => a1 c (by omega)) (p2.1 32 (by decide) (by decide)) (p2.1 33 (by decide) (by decide)) h6, ?_⟩
        rw [a1 0 (by decide), p2.2 15 (by decide) (by decide)]
        exact h7
  · have hr2 : ¬ τ.1 0 15 = 0 := by rw [← h7.1]; exact hr
    refine ⟨(-3, 0, σ), (-3, 0, τ), ?_, ?_, rfl, hR0⟩
    · rw [show (100 : Nat) = 98 + 1 + 1 from rfl, cp_78_g, if_neg hr]
    · rw [show (100 : Nat) = 98 + 1 + 1 from rfl, rp_32_g, if_neg hr2]
