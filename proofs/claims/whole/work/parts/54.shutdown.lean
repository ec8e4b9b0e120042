set_option maxHeartbeats 1000000 in
theorem thr_both {nc nb U : Nat} {F1 F2 lv H : Nat → Nat} {N : Nat → Nat → Nat} {O B ht : Nat → Nat} {x1 : Int32} : ∀ (r t : Nat), t + r = 3 → ∀ (σ τ : mm_S) (G k : Nat), jM σ τ nc nb U G F1 F2 lv H N O B ht → jC σ τ nb U O B →
    ∃ (σ' τ' : mm_S) (K : Nat), (∀ f, 17 * (r + 1) ≤ f → ∀ res, (∀ g, f ≤ g + 17 * r → mm_ex sc (cG 99) 1 cp_85_l g cp_85_r2 [.ref 0, .int x1, .int (nI 3)] [] σ' = some res) → mm_ex sc (cG 99) 1 cp_85_l f cp_85_r2 [.ref 0, .int x1, .int (nI t)] [] σ = some res) ∧ (∀ f, 16 * (r + 1) ≤ f → ∀ res, (∀ g, f ≤ g + 16 * r → mm_ex sr (rG 99) 1 rp_48_l g rp_48_r2 [.ref 0, .int (nI (k + K)), .int (nI 3)] [] τ' = some res) → mm_ex sr (rG 99) 1 rp_48_l f rp_48_r2 [.ref 0, .int (nI k), .int (nI t)] [] τ = some res) ∧ jM σ' τ' nc nb U (G + K) F1 F2 lv H N O B ht ∧ jC σ' τ' nb U O B := by
  intro r
  induction r with
  | zero =>
    intro t ht0 σ τ G k hM hC
    have e : t = 3 := by omega
    subst e
    exact ⟨σ, τ, 0, fun f hf res hk => hk f (by omega), fun f hf res hk => hk f (by omega), hM, hC⟩
  | succ r ih =>
    intro t ht0 σ τ G k hM hCx
    have hJ := jC_H hCx
    have hI := rI_of hM.1 hM.2.1
    have hT := pu_T (show t < 4 by omega) (by decide)
    have hC := pu_cl (show t < 4 by omega) (by decide)
    have tlt : ¬ (3 : Int32) ≤ nI t := (nI_ge (by omega) (by decide) : ¬ nI 3 ≤ nI t)
    by_cases ha : σ.1 42 t = 0
    · have hz : ∀ b, b < nb → τ.1 33 (16 * t + b) = 0 := by
        intro b hb
        have hb16 : b < 16 := by have := hI.2.2.1.2; omega
        obtain ⟨z, e1, e2, e3⟩ := hJ.1.1 t b (by omega) hb16
        have : σ.1 (44 + t) b = 0 := Classical.byContradiction fun q => hJ.2 t b (by omega) hb16 q ha
        rw [e2, ← e1, this]
      have hid := r_over_idle hI.2.2.1 (show t < 4 by omega) hz 98
      have ew : mm_w τ.1 32 t 0 = τ.1 := mm_w_id (by rw [← hCx.1 t (by omega)]; exact ha)
      obtain ⟨σ', τ', K, p1, p2, p3⟩ := ih (t + 1) (by omega) σ τ G k hM hCx
      refine ⟨σ', τ', K, fun f hf res hk => ?_, fun f hf res hk => ?_, p3⟩
      · rw [show f = (f - 17) + 17 by omega, cp_85_h2, if_neg tlt, show 99 = 97 + 2 from rfl, c_isActive (by omega)]
        simp only [pu_bind, ha, decide_true, Bool.not_true, pb_if, Bool.false_eq_true, if_false, nI_1]
        exact p1 _ (by omega) res (fun g hg => hk g (by omega))
      · rw [show f = (f - 16) + 16 by omega, rp_48_h2, if_neg tlt, show 99 = 98 + 1 from rfl, hid]
        simp only [pu_bind, hT, hC, if_true, ew, nI_1]
        have := p2 (f - 16 + 0) (by omega) res (fun g hg => hk g (by omega))
        rw [show nI k + 0 = nI k by rw [← nI_0, nI_add]; rfl]
        exact this
    · obtain ⟨σ1, τ1, K1, q1, q2, q3, q4, q5, q6, q7⟩ := over_end (show t < 4 by omega) hM hJ.1 86 97
      have hM2 : jM (mm_w σ1.1 42 t 0, σ1.2) (mm_w τ1.1 32 t 0, τ1.2) nc nb U (G + K1) F1 F2 lv H N O B ht := jM_A (fun k hk => mm_w_ne (by omega)) (fun k hk => mm_w_ne (by omega)) q3
      have hH1 : jH σ1 (mm_w τ1.1 32 t 0, τ1.2) nb U O B := ⟨fun c b hc hb => by
        obtain ⟨z, e1, e2, e3⟩ := q4.1 c b hc hb
        exact ⟨z, e1, (show mm_w τ1.1 32 t 0 33 (16 * c + b) = nI z by rw [mm_w_off (by decide)]; exact e2), e3⟩, q4.2⟩
      have hC2 : jC (mm_w σ1.1 42 t 0, σ1.2) (mm_w τ1.1 32 t 0, τ1.2) nb U O B := jC_end hM.2.2.2.2.1.1 hCx.1 hJ.2 hH1 q5 q6 (by
        show mm_w τ1.1 32 t 0 32 = _
        rw [mm_w_eq, q7]
        rfl)
      obtain ⟨σ', τ', K, p1, p2, p3, p4⟩ := ih (t + 1) (by omega) _ _ (G + K1) (k + K1) hM2 hC2
      refine ⟨σ', τ', K1 + K, fun f hf res hk => ?_, fun f hf res hk => ?_, ?_, p4⟩
      · rw [show f = (f - 17) + 17 by omega, cp_85_h2, if_neg tlt, show 99 = 97 + 2 from rfl, c_isActive (by omega)]
        simp only [pu_bind, ha, decide_false, Bool.not_false, pb_if, if_true, nI_1]
        rw [show 97 + 2 = 86 + 13 from rfl, q1]
        simp only [pu_bind]
        exact p1 _ (by omega) res (fun g hg => hk g (by omega))
      · rw [show f = (f - 16) + 16 by omega, rp_48_h2, if_neg tlt, show 99 = 97 + 2 from rfl, q2]
        simp only [pu_bind, hT, hC, if_true, nI_1, nI_add]
        refine p2 _ (by omega) res (fun g hg => ?_)
        rw [show k + K1 + K = k + (K1 + K) by omega]
        exact hk g (by omega)
      · rw [show G + (K1 + K) = G + K1 + K by omega]
        exact p3
theorem c_obt_skip {σ : mm_S} {U : Nat} (hU : U ≤ 200) (e : σ.1 4 0 = nI U) {res : mm_R} (d : Nat) : ∀ (r f : Nat), U + r ≤ 200 → 28 * (r + 1) ≤ f → (∀ g, f ≤ g + 28 * r → mm_ex sc (cG (d + 1)) 0 cp_99_l g cp_99_r1 [.ref 0, .int (nI U)] [] σ = some res) → mm_ex sc (cG (d + 1)) 0 cp_99_l f cp_99_r1 [.ref 0, .int (nI (U + r))] [] σ = some res := by
  intro r
  induction r with
  | zero => intro f _ hf hk; exact hk f (by omega)
  | succ r ih =>
    intro f hr hf hk
    rw [show U + (r + 1) = (U + r) + 1 by omega, show f = (f - 28) + 28 by omega, cp_99_h1, if_neg (show ¬ nI (U + r + 1) < (1 : Int32) from (nI_nlt (by omega) (by omega) : ¬ nI (U + r + 1) < nI 1)), c_isLiving_n (Or.inr (by rw [e]; exact nI_lt (by omega) (by omega)))]
    simp only [pu_bind, if_true, nI_m]
    exact ih _ (by omega) (by omega) (fun g hg => hk g (by omega))
theorem jR_stop {σ τ : mm_S} {nc nb U G : Nat} {F1 F2 lv H : Nat → Nat} {N : Nat → Nat → Nat} {O B ht : Nat → Nat} (hM : jM σ τ nc nb U G F1 F2 lv H N O B ht) (hC : jC σ τ nb U O B) : jR (mm_w σ.1 0 5 0, σ.2) (mm_w τ.1 0 15 0, τ.2) := by
  obtain ⟨h1, h2, h3, h4, h5, h7⟩ := hM
  have e : ∀ k, 1 ≤ k → mm_w σ.1 0 5 0 k = σ.1 k := fun k hk => mm_w_ne (by omega)
  have g : ∀ k, 1 ≤ k → mm_w τ.1 0 15 0 k = τ.1 k := fun k hk => mm_w_ne (by omega)
  have qa : stA σ (mm_w σ.1 0 5 0, σ.2) := ⟨fun c _ _ => e c (by omega), congrFun (e 1 (by decide)) 0, congrFun (e 2 (by decide)) 1⟩
  have ra : stR τ (mm_w τ.1 0 15 0, τ.2) := ⟨fun c _ _ => g c (by omega), (show mm_w τ.1 0 15 0 0 0 = τ.1 0 0 from mm_w_at2 (by decide)), (show mm_w τ.1 0 15 0 0 5 = τ.1 0 5 from mm_w_at2 (by decide))⟩
  refine ⟨nc, nb, U, G, F1, F2, lv, H, N, O, B, ht, cI_A qa h1, sT_A qa ra h2, jX_A qa h3, ⟨fun b p hp => ?_, fun q => absurd (show mm_w σ.1 0 5 0 0 5 = 0 from mm_w_at) q⟩, jI_A (fun c _ => e c (by omega)) (fun c _ _ => g c (by omega)) (show mm_w τ.1 0 15 0 0 24 = τ.1 0 24 from mm_w_at2 (by decide)) (show mm_w τ.1 0 15 0 0 31 = τ.1 0 31 from mm_w_at2 (by decide)) h5, jC_A (fun c _ => e c (by omega)) (g 32 (by decide)) (g 33 (by decide)) hC, ?_, Or.inl (show mm_w σ.1 0 5 0 0 5 = 0 from mm_w_at)⟩
  · show mm_w σ.1 0 5 0 (29 + p) b = mm_w τ.1 0 15 0 14 (3 * b + p)
    rw [e (29 + p) (by omega), g 14 (by decide)]
    exact h4.1 b p hp
  · show mm_w σ.1 0 5 0 0 5 = mm_w τ.1 0 15 0 0 15
    rw [mm_w_at, mm_w_at]
set_option maxHeartbeats 1000000 in
theorem s_shutdown : lq_S_shutdown jR := by
  intro σ τ hR
  have hR0 := hR
  obtain ⟨nc, nb, U, G, F1, F2, lv, H, N, O, B, ht, h1, h2, h3, h4, h5, h6, h7⟩ := hR
  by_cases hr : σ.1 0 5 = 0
  · refine ⟨(-3, 0, σ), (-3, 0, τ), ?_, ?_, rfl, hR0⟩
    · rw [show (100 : Nat) = 98 + 1 + 1 from rfl, cp_85_g, if_pos hr]
    · rw [show (100 : Nat) = 98 + 1 + 1 from rfl, rp_48_g, if_pos (by rw [← h7.1]; exact hr)]
  · have hr2 : ¬ τ.1 0 15 = 0 := by rw [← h7.1]; exact hr
    have hU := h5.1
    obtain ⟨σ1, τ1, K1, a1, a2, a3, a4⟩ := thr_both (x1 := nI G) 3 0 rfl σ τ G 0 ⟨h1, h2, h3, h4, h5, h7⟩ h6
    have hJ1 := jC_H a4
    obtain ⟨σ2, τ2, K2, b1, b2, b3, b4, b5, b6⟩ := obt_both (d := 86) (e := 98) U (Nat.le_refl _) σ1 τ1 (G + K1) (0 + K1) a3 hJ1.1
    obtain ⟨σ3, τ3, K3, c1, c2, c3, c4, c5, c6, c7⟩ := over_end (show 3 < 4 by decide) b3 b4 86 97
    have hA2 : jAc σ2 := by
      intro c b hc hb h0
      rw [b5 (44 + c) (by omega)] at h0
      rw [b5 42 (by decide)]
      exact hJ1.2 c b hc hb h0
    have hH3 : jH σ3 (mm_w τ3.1 32 3 0, τ3.2) nb U O B := ⟨fun c b hc hb => by
      obtain ⟨z, e1, e2, e3⟩ := c4.1 c b hc hb
      exact ⟨z, e1, (show mm_w τ3.1 32 3 0 33 (16 * c + b) = nI z by rw [mm_w_off (by decide)]; exact e2), e3⟩, c4.2⟩
    have hC3 : jC (mm_w σ3.1 42 3 0, σ3.2) (mm_w τ3.1 32 3 0, τ3.2) nb U O B := jC_end (σ := σ2) (τ := τ2) hU (fun c hc => by rw [b5 42 (by decide), b6]; exact a4.1 c hc) hA2 hH3 c5 c6 (by
      show mm_w τ3.1 32 3 0 32 = _
      rw [mm_w_eq, c7]
      rfl)
    have hM3 : jM (mm_w σ3.1 42 3 0, σ3.2) (mm_w τ3.1 32 3 0, τ3.2) nc nb U (G + K1 + K2 + K3) F1 F2 lv H N O B ht := jM_A (fun k hk => mm_w_ne (by omega)) (fun k hk => mm_w_ne (by omega)) c3
    have kI := c3.2.2.2.2.1
    refine ⟨(nI (K1 + K2 + K3), 0, (mm_w (mm_w σ3.1 42 3 0) 0 5 0, σ3.2)), (nI (K1 + K2 + K3), 0, (mm_w (mm_w τ3.1 32 3 0) 0 15 0, τ3.2)), ?_, ?_, rfl, jR_stop hM3 hC3⟩
    · rw [show (100 : Nat) = 98 + 1 + 1 from rfl, cp_85_g, if_neg hr, cp_51_g, h5.2.2.2.2.1]
      simp only [pu_bind]
      rw [show 98 + 1 = 99 from rfl, show (0 : Int32) = nI 0 by decide]
      refine a1 (99999991 + 0) (by omega) _ (fun g hg => ?_)
      have o : cG 99 99 [.ref 0] σ1 = some (0, 0, σ2) := by
        have sk := c_obt_skip (σ := σ1) (res := (0, 0, σ2)) hU a3.2.2.2.2.1.2.2.1 97 (200 - U) (99999998 + 0) (by omega) (by omega)
        rw [show 97 + 1 = 98 from rfl, show U + (200 - U) = 200 by omega] at sk
        rw [show 86 + 12 = 98 from rfl] at b1
        rw [cp_99_g 98, show (200 : Int32) = nI 200 by decide]
        exact sk (fun g hg => b1 g (by omega))
      rw [show g = (g - 17) + 17 by omega, cp_85_h2, if_pos (show (3 : Int32) ≤ nI 3 by decide), o]
      simp only [pu_bind]
      rw [show 86 + 13 = 99 from rfl, show nI 3 = (3 : Int32) by decide] at c1
      rw [c1]
      simp only [pu_bind]
      rw [cp_51_g 98]
      simp (decide := true) only [pu_bind, mm_w_off]
      rw [kI.2.2.2.2.1, pk_sub (by omega), show G + K1 + K2 + K3 - G = K1 + K2 + K3 by omega]
      rw [nI_0]
    · rw [show (100 : Nat) = 98 + 1 + 1 from rfl, rp_48_g, if_neg hr2]
      refine a2 (99999993 + 0) (by omega) _ (fun g hg => ?_)
      rw [show g = (g - 16) + 16 by omega, rp_48_h2, if_pos (show (3 : Int32) ≤ nI 3 by decide), a3.2.2.2.2.1.2.2.2.2.2.1]
      refine b2 _ (by omega) _ (fun g' hg' => ?_)
      rw [show 97 + 2 = 99 from rfl, show nI 3 = (3 : Int32) by decide] at c2
      rw [show g' = (g' - 20) + 20 by omega, rp_48_h4, if_pos (show nI 0 < (1 : Int32) by decide), show 98 + 1 = 99 from rfl, c2]
      simp only [pu_bind]
      rw [if_pos (show mm_in (3 : Int32) 4 by decide), nI_add, show 0 + K1 + K2 + K3 = K1 + K2 + K3 by omega]
      rfl
