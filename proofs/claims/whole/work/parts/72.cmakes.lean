set_option maxHeartbeats 4000000 in
theorem c_make {σ0 : mm_S} {nb : Nat} {K : Nat → Nat} (hJ : jE σ0 nb K) (hB0 : cB σ0 nb) : ∀ e, vE σ0 nb e → K e.1 ≤ 10 → ∀ (σ : mm_S) (U G dp D : Nat), (∀ k, k ≠ 4 → k < 34 → σ.1 k = σ0.1 k) → cD σ U G → e.2.1 = U + 1 → U + K e.1 ≤ 200 → (∀ x q, U < x → q < 3 → σ.1 (38 + q) x = 0) → dp + K e.1 ≤ 11 → ∃ σ', mk2 σ0 K (fun _ => False) σ σ' U (K e.1) G (eN σ0 K e) (kE σ0 K e) ∧ cG (D + K e.1 + 14) 97 [.ref 0, .int (nI e.1), .int (nI e.2.2.1), .int (nI dp)] σ = some (nI (nM σ0 K e), 0, σ') := by
  apply eN_ind hJ (P := fun e => ∀ (σ : mm_S) (U G dp D : Nat), (∀ k, k ≠ 4 → k < 34 → σ.1 k = σ0.1 k) → cD σ U G → e.2.1 = U + 1 → U + K e.1 ≤ 200 → (∀ x q, U < x → q < 3 → σ.1 (38 + q) x = 0) → dp + K e.1 ≤ 11 → ∃ σ', mk2 σ0 K (fun _ => False) σ σ' U (K e.1) G (eN σ0 K e) (kE σ0 K e) ∧ cG (D + K e.1 + 14) 97 [.ref 0, .int (nI e.1), .int (nI e.2.2.1), .int (nI dp)] σ = some (nI (nM σ0 K e), 0, σ'))
  intro e he hk ih σ U G dp D hs hD hf hU hz hdp
  obtain ⟨j1, j2, j3, j4, j5⟩ := hJ.2 e.1 he.1 he.2
  have hn := hJ.1
  have hdk : pDK σ0 K e.1 = nX σ0 K e.1 (pPt σ0 e.1) := rfl
  have en : nM σ0 K e = U + 1 + pHK σ0 K e.1 := by unfold nM; rw [hf]
  have hBs : ∀ s : mm_S, (∀ k, k ≠ 4 → k < 34 → s.1 k = σ0.1 k) → cB s nb := fun s h => ⟨by rw [h 2 (by decide) (by decide)]; exact hB0.1, hn⟩
  have hB := hBs σ hs
  have e17 : σ.1 17 e.1 = σ0.1 17 e.1 := by rw [hs 17 (by decide) (by decide)]
  -- the home
  obtain ⟨σ1, x5, g1, m1, q1, g1l, r1⟩ : ∃ (σ1 : mm_S) (x5 g1 : Nat), mk2 σ0 K (fun _ => False) σ σ1 U (pHK σ0 K e.1) G ((cHm σ0 e).flatMap (eN σ0 K)) ((cHm σ0 e).flatMap (kE σ0 K)) ∧ ((cHm σ0 e = [] ∧ x5 = 0) ∨ ∃ h, cHm σ0 e = [h] ∧ x5 = nM σ0 K h) ∧ 99999982 ≤ g1 ∧ (∀ res, mm_ex sc (cG (D + K e.1 + 13)) 1 cp_97_l g1 cp_97_r3 [.ref 0, .int (nI e.1), .int (nI e.2.2.1), .int (nI dp), .int (σ0.1 17 e.1), .null, .null, .null, .null] [.int (nI x5)] σ1 = some res → cG (D + K e.1 + 14) 97 [.ref 0, .int (nI e.1), .int (nI e.2.2.1), .int (nI dp)] σ = some res) := by
    have hx3 : nI dp ≤ (10 : Int32) := (nI_le (by omega) (by decide) : nI dp ≤ nI 10)
    have hho := c_homeOf hB he.1 (D + K e.1 + 11)
    rw [e17] at hho
    by_cases h17 : σ0.1 17 e.1 = -1
    · have ec : cHm σ0 e = [] := by unfold cHm; rw [if_pos h17]
      have eh : pHK σ0 K e.1 = 0 := by unfold pHK; rw [if_pos h17]
      refine ⟨σ, 0, 99999982 + 5, ?_, Or.inl ⟨ec, rfl⟩, by omega, fun res h => ?_⟩
      · rw [ec, eh]
        exact mk2_0 hD
      · rw [show D + K e.1 + 14 = (D + K e.1 + 13) + 1 by omega, cp_97_g, if_pos hx3, show D + K e.1 + 13 = (D + K e.1 + 11) + 2 by omega, hho]
        simp only [pu_bnd]
        rw [if_pos h17, show D + K e.1 + 11 + 2 = D + K e.1 + 13 by omega]
        exact h
    · obtain ⟨k, k1, k2, k3, k4, k5⟩ := j1.resolve_left h17
      have ek : (σ0.1 17 e.1).toNatClampNeg = k := by rw [k2, nI_clamp (by omega)]
      have ec : cHm σ0 e = [(k, e.2.1, 0, -1)] := by unfold cHm; rw [if_neg h17, ek]
      have eh : pHK σ0 K e.1 = K k := by unfold pHK; rw [if_neg h17, ek]
      have hm : ((k, e.2.1, 0, -1) : mE) ∈ cE σ0 K e := by unfold cE; rw [ec]; exact List.mem_append_left _ (List.mem_singleton.2 rfl)
      obtain ⟨v1, v2, v3, v4, v5⟩ := cE_ok hJ he hm
      simp only at v2 v5
      obtain ⟨σ1, p1, p2⟩ := ih _ hm σ U G (dp + 1) (D + K e.1 - 1 - K k) hs hD hf (by simp only; omega) hz (by simp only; omega)
      simp only at p1 p2
      refine ⟨σ1, nM σ0 K (k, e.2.1, 0, -1), 99999982 + 0, ?_, Or.inr ⟨_, ec, rfl⟩, by omega, fun res h => ?_⟩
      · rw [ec, eh, List.flatMap_singleton, List.flatMap_singleton]
        exact p1
      · rw [show D + K e.1 - 1 - K k + K k + 14 = D + K e.1 + 13 by omega, nI_0] at p2
        rw [show D + K e.1 + 14 = (D + K e.1 + 13) + 1 by omega, cp_97_g, if_pos hx3, show D + K e.1 + 13 = (D + K e.1 + 11) + 2 by omega, hho]
        simp only [pu_bnd]
        rw [if_neg h17, show D + K e.1 + 11 + 2 = D + K e.1 + 13 by omega, nI_1, k2, p2]
        simp only [pu_bnd]
        rw [k2] at h
        exact h
  -- the own number
  have s1 : ∀ k, k ≠ 4 → k < 34 → σ1.1 k = σ0.1 k := fun k x y => (m1.1 k x (Or.inl y)).trans (hs k x y)
  have hD1 := m1.2.1
  have hDn : cD (aI1 σ1 (nM σ0 K e) (nI e.1) (nI e.2.2.1)) (nM σ0 K e) (G + ((cHm σ0 e).flatMap (kE σ0 K)).length) := by
    have := cD_add (x := nI e.1) (o := nI e.2.2.1) hD1 (by omega)
    rw [show U + pHK σ0 K e.1 + 1 = nM σ0 K e by omega] at this
    exact this
  have hadd := c_addI hD1 (by omega) (nI e.1) (nI e.2.2.1) (D + K e.1 + 12)
  rw [show U + pHK σ0 K e.1 + 1 = nM σ0 K e by omega] at hadd
  -- the parts
  have loop : ∀ (r q f : Nat) (σq : mm_S), q + r = pPt σ0 e.1 → 31 * (r + 1) ≤ f → mk2 σ0 K (fun x => x = nM σ0 K e) (aI1 σ1 (nM σ0 K e) (nI e.1) (nI e.2.2.1)) σq (nM σ0 K e) (nX σ0 K e.1 q) (G + ((cHm σ0 e).flatMap (kE σ0 K)).length) ((cP σ0 K e.1 (nM σ0 K e) q).flatMap (eN σ0 K)) ((cP σ0 K e.1 (nM σ0 K e) q).flatMap (kE σ0 K)) → (∀ p, p < 3 → σq.1 (38 + p) (nM σ0 K e) = nI (if p < q then pNn σ0 K e p else 0)) → ∃ σm g, 31 ≤ g ∧ mk2 σ0 K (fun x => x = nM σ0 K e) (aI1 σ1 (nM σ0 K e) (nI e.1) (nI e.2.2.1)) σm (nM σ0 K e) (nX σ0 K e.1 (pPt σ0 e.1)) (G + ((cHm σ0 e).flatMap (kE σ0 K)).length) ((cP σ0 K e.1 (nM σ0 K e) (pPt σ0 e.1)).flatMap (eN σ0 K)) ((cP σ0 K e.1 (nM σ0 K e) (pPt σ0 e.1)).flatMap (kE σ0 K)) ∧ (∀ p, p < 3 → σm.1 (38 + p) (nM σ0 K e) = nI (if p < pPt σ0 e.1 then pNn σ0 K e p else 0)) ∧ ∀ res, mm_ex sc (cG (D + K e.1 + 13)) 1 cp_97_l g cp_97_r4 [.ref 0, .int (nI e.1), .int (nI e.2.2.1), .int (nI dp), .int (σ0.1 17 e.1), .int (nI x5), .int (nI (nM σ0 K e)), .int (nI (pPt σ0 e.1)), .null] [] σm = some res → mm_ex sc (cG (D + K e.1 + 13)) 1 cp_97_l f cp_97_r4 [.ref 0, .int (nI e.1), .int (nI e.2.2.1), .int (nI dp), .int (σ0.1 17 e.1), .int (nI x5), .int (nI (nM σ0 K e)), .int (nI q), .null] [] σq = some res := by
    intro r
    induction r with
    | zero =>
      intro q f σq hq hff hm hr
      have : q = pPt σ0 e.1 := by omega
      subst this
      exact ⟨σq, f, by omega, hm, hr, fun res h => h⟩
    | succ r ihr =>
      intro q f σq hq hff hm hr
      obtain ⟨y, y1, y2, y3⟩ := j4 q (by omega)
      have ey := pTg_e (show y < 16 by omega) y2
      have sq : ∀ k, k ≠ 4 → k < 34 → σq.1 k = σ0.1 k := fun k x z => (hm.1 k x (Or.inl z)).trans ((aI1_o x (Or.inl z)).trans (s1 k x z))
      have hBq := hBs σq sq
      have em : σq.1 19 e.1 = nI (pPt σ0 e.1) := by rw [sq 19 (by decide) (by decide)]; exact j3
      have htg := c_targetOf hBq he.1 em j2 (show q < pPt σ0 e.1 by omega) (D + K e.1 + 9)
      rw [sq (29 + q) (by omega) (by omega), y2] at htg
      have hdp := c_isDependent hBq y1 (D + K e.1 + 11)
      rw [sq 15 (by decide) (by decide)] at hdp
      have hpc := c_pointCount hBq he.1 (D + K e.1 + 11)
      rw [em] at hpc
      have es : nX σ0 K e.1 (q + 1) = nX σ0 K e.1 q + (if σ0.1 15 y = 0 then K y else 0) := by unfold nX; rw [pSum, ey]
      have hle := nX_le (σ := σ0) (K := K) (b := e.1) (q := q + 1) (r := pPt σ0 e.1 - (q + 1))
      rw [show q + 1 + (pPt σ0 e.1 - (q + 1)) = pPt σ0 e.1 by omega] at hle
      have head : mm_ex sc (cG (D + K e.1 + 13)) 1 cp_97_l f cp_97_r4 [.ref 0, .int (nI e.1), .int (nI e.2.2.1), .int (nI dp), .int (σ0.1 17 e.1), .int (nI x5), .int (nI (nM σ0 K e)), .int (nI q), .null] [] σq = (if σ0.1 15 y = 0 then ((cG (D + K e.1 + 13) 97 [.ref 0, .int (nI y), .int (nI (nM σ0 K e)), .int (nI (dp + 1))] σq).bind fun u5 => ((cG (D + K e.1 + 13) 58 [.ref 4, .int (nI (nM σ0 K e)), .int (nI q), .int u5.1] u5.2.2).bind fun u6 => (mm_ex sc (cG (D + K e.1 + 13)) 1 cp_97_l (f - 31 + 0) cp_97_r4 [.ref 0, .int (nI e.1), .int (nI e.2.2.1), .int (nI dp), .int (σ0.1 17 e.1), .int (nI x5), .int (nI (nM σ0 K e)), .int (nI (q + 1)), .int (nI y)] [] u6.2.2))) else (mm_ex sc (cG (D + K e.1 + 13)) 1 cp_97_l (f - 31 + 12) cp_97_r4 [.ref 0, .int (nI e.1), .int (nI e.2.2.1), .int (nI dp), .int (σ0.1 17 e.1), .int (nI x5), .int (nI (nM σ0 K e)), .int (nI (q + 1)), .int (nI y)] [] σq)) := by
        conv => lhs; rw [show f = (f - 31) + 31 by omega, cp_97_h4, show D + K e.1 + 13 = (D + K e.1 + 11) + 2 by omega, hpc]
        simp only [pu_bnd]
        rw [if_neg (nI_ge (show q < pPt σ0 e.1 by omega) (by omega)), show D + K e.1 + 11 + 2 = (D + K e.1 + 9) + 4 by omega, htg]
        simp only [pu_bnd]
        rw [show D + K e.1 + 9 + 4 = (D + K e.1 + 11) + 2 by omega, hdp]
        simp only [pu_bnd]
        by_cases z : σ0.1 15 y = 0
        · rw [if_pos z, if_pos z, if_neg (by decide), show D + K e.1 + 11 + 2 = D + K e.1 + 13 by omega, nI_1, nI_1]
        · rw [if_neg z, if_neg z, if_pos rfl, show D + K e.1 + 11 + 2 = D + K e.1 + 13 by omega, nI_1]
      by_cases z : σ0.1 15 y = 0
      · -- a part is made
        rw [if_pos z] at es
        have hcm : ((y, nM σ0 K e + 1 + nX σ0 K e.1 q, nM σ0 K e, nI q) : mE) ∈ cE σ0 K e := by
          unfold cE
          refine List.mem_append_right _ (cP_mem.2 ⟨q, by omega, by rw [ey]; exact z, by rw [ey]⟩)
        obtain ⟨v1, v2, v3, v4, v5⟩ := cE_ok hJ he hcm
        simp only at v2 v5
        have hzq : ∀ x p, nM σ0 K e + nX σ0 K e.1 q < x → p < 3 → σq.1 (38 + p) x = 0 := by
          intro x p hx hp
          rw [hm.2.2.1 (38 + p) (by omega) (by omega) x (Or.inr (by omega)) (Or.inl (by omega)), aI1_o (by omega) (Or.inr (by omega)), m1.2.2.1 (38 + p) (by omega) (by omega) x (Or.inr (by omega)) (Or.inl id)]
          exact hz x p (by omega) hp
        obtain ⟨σc, c1, c2⟩ := ih _ hcm σq (nM σ0 K e + nX σ0 K e.1 q) _ (dp + 1) (D + K e.1 - 1 - K y) sq hm.2.1 (by simp only; omega) (by simp only; omega) hzq (by simp only; omega)
        simp only at c1 c2
        rw [show D + K e.1 - 1 - K y + K y + 14 = D + K e.1 + 13 by omega] at c2
        have hLq : ∀ c, c ∈ (cP σ0 K e.1 (nM σ0 K e) q).flatMap (eN σ0 K) → nM σ0 K e + 1 ≤ nM σ0 K c ∧ nM σ0 K c ≤ nM σ0 K e + nX σ0 K e.1 q := by
          intro c hc
          rw [List.mem_flatMap] at hc
          obtain ⟨a, ha, hc⟩ := hc
          have hae : a ∈ cE σ0 K e := by
            obtain ⟨p, p1, p2, p3⟩ := cP_mem.1 ha
            unfold cE
            exact List.mem_append_right _ (cP_mem.2 ⟨p, by omega, p2, p3⟩)
          obtain ⟨w1, w2, -⟩ := cE_ok hJ he hae
          obtain ⟨w3, w4, w5⟩ := eN_rng hJ a w1 (by omega) c hc
          have := nM_rng hJ w3
          have := cP_end ha
          omega
        have cm := mk2_comp hm c1 (fun c hc => (hLq c hc).2)
        have eL : (cP σ0 K e.1 (nM σ0 K e) (q + 1)).flatMap (eN σ0 K) = (cP σ0 K e.1 (nM σ0 K e) q).flatMap (eN σ0 K) ++ eN σ0 K (y, nM σ0 K e + 1 + nX σ0 K e.1 q, nM σ0 K e, nI q) := by
          rw [cP, ey, if_pos z, List.flatMap_append, List.flatMap_singleton]
        have eK : (cP σ0 K e.1 (nM σ0 K e) (q + 1)).flatMap (kE σ0 K) = (cP σ0 K e.1 (nM σ0 K e) q).flatMap (kE σ0 K) ++ kE σ0 K (y, nM σ0 K e + 1 + nX σ0 K e.1 q, nM σ0 K e, nI q) := by
          rw [cP, ey, if_pos z, List.flatMap_append, List.flatMap_singleton]
        rw [← eL, ← eK, ← es] at cm
        have hLq1 : ∀ c, c ∈ (cP σ0 K e.1 (nM σ0 K e) (q + 1)).flatMap (eN σ0 K) → nM σ0 K e + 1 ≤ nM σ0 K c := by
          intro c hc
          rw [eL] at hc
          rcases List.mem_append.1 hc with hc | hc
          · exact (hLq c hc).1
          · obtain ⟨w3, w4, w5⟩ := eN_rng hJ _ v1 (by simp only; omega) c hc
            have := nM_rng hJ w3
            simp only at w4
            omega
        have hrow : ∀ p, p < 3 → σc.1 (38 + p) (nM σ0 K e) = nI (if p < q then pNn σ0 K e p else 0) := by
          intro p hp
          rw [c1.2.2.1 (38 + p) (by omega) (by omega) _ (Or.inl (by omega)) (Or.inl id)]
          exact hr p hp
        have hal : ¬ σc.1 36 (nM σ0 K e) = 0 := by
          rw [c1.2.2.1 36 (by decide) (by decide) _ (Or.inl (by omega)) (Or.inl id), hm.2.2.1 36 (by decide) (by decide) _ (Or.inl (by omega)) (Or.inr (by decide)), aI1_36, uq_at]
          decide
        have epn : pNn σ0 K e q = nM σ0 K (y, nM σ0 K e + 1 + nX σ0 K e.1 q, nM σ0 K e, nI q) := by
          unfold pNn
          rw [if_pos ⟨by omega, by rw [ey]; exact z⟩, ey]
          rfl
        have hsp := c_setPart cm.2.1.1 cm.2.1.2.1 (show 1 ≤ nM σ0 K e by omega) (by omega) hal (show q < 3 by omega) (nI (nM σ0 K (y, nM σ0 K e + 1 + nX σ0 K e.1 q, nM σ0 K e, nI q))) (D + K e.1 + 11)
        have cm2 := mk2_w (v := nI (nM σ0 K (y, nM σ0 K e + 1 + nX σ0 K e.1 q, nM σ0 K e, nI q))) cm (show q < 3 by omega) (by omega) hLq1
        obtain ⟨σm, g, w1, w2, w3, w4⟩ := ihr (q + 1) (f - 31 + 0) _ (by omega) (by omega) cm2 (fun p hp => by
          show mm_w σc.1 (38 + q) (nM σ0 K e) _ (38 + p) (nM σ0 K e) = _
          by_cases epq : p = q
          · subst epq
            rw [mm_w_at, if_pos (by omega), epn]
          · rw [mm_w_off (by omega), hrow p hp]
            by_cases hpq : p < q
            · rw [if_pos hpq, if_pos (by omega)]
            · rw [if_neg hpq, if_neg (by omega)])
        refine ⟨σm, g, w1, w2, w3, fun res h => ?_⟩
        rw [head, if_pos z, c2]
        simp only [pu_bnd]
        rw [show D + K e.1 + 13 = (D + K e.1 + 11) + 2 by omega, hsp]
        simp only [pu_bnd]
        rw [show D + K e.1 + 11 + 2 = D + K e.1 + 13 by omega]
        refine mm_ref _ _ [.ref 0, .int (nI e.1), .int (nI e.2.2.1), .int (nI dp), .int (σ0.1 17 e.1), .int (nI x5), .int (nI (nM σ0 K e)), .int (nI (q + 1)), .null] _ _ _ (by simp [mm_rf]) (w4 res h)
      · rw [if_neg z] at es
        have es2 : nX σ0 K e.1 (q + 1) = nX σ0 K e.1 q := by omega
        have ecp : cP σ0 K e.1 (nM σ0 K e) (q + 1) = cP σ0 K e.1 (nM σ0 K e) q := by rw [cP, ey, if_neg z, List.append_nil]
        have epn : pNn σ0 K e q = 0 := by
          unfold pNn
          rw [if_neg (fun w => z (by rw [← ey]; exact w.2))]
        rw [← es2, ← ecp] at hm
        obtain ⟨σm, g, w1, w2, w3, w4⟩ := ihr (q + 1) (f - 31 + 12) σq (by omega) (by omega) hm (fun p hp => by
          rw [hr p hp]
          by_cases hpq : p < q
          · rw [if_pos hpq, if_pos (by omega)]
          · rw [if_neg hpq]
            by_cases epq : p = q
            · subst epq; rw [if_pos (by omega), epn]
            · rw [if_neg (by omega)])
        refine ⟨σm, g, w1, w2, w3, fun res h => ?_⟩
        rw [head, if_neg z]
        refine mm_ref _ _ [.ref 0, .int (nI e.1), .int (nI e.2.2.1), .int (nI dp), .int (σ0.1 17 e.1), .int (nI x5), .int (nI (nM σ0 K e)), .int (nI (q + 1)), .null] _ _ _ (by simp [mm_rf]) (w4 res h)
  have row0 : ∀ p, p < 3 → (aI1 σ1 (nM σ0 K e) (nI e.1) (nI e.2.2.1)).1 (38 + p) (nM σ0 K e) = nI (if p < 0 then pNn σ0 K e p else 0) := by
    intro p hp
    rw [if_neg (Nat.not_lt_zero _), aI1_o (by omega) (Or.inr (by omega)), m1.2.2.1 (38 + p) (by omega) (by omega) _ (Or.inr (by omega)) (Or.inl id)]
    exact hz _ p (by omega) hp
  obtain ⟨σm, g, w1, w2, w3, w4⟩ := loop (pPt σ0 e.1) 0 (g1 - 9 + 0) _ (by omega) (by omega) (mk2_0 hDn) row0
  -- own and parts together, then with the home
  have M1 : mk2 σ0 K (fun _ => False) σ1 σm (U + pHK σ0 K e.1) (1 + nX σ0 K e.1 (pPt σ0 e.1)) (G + ((cHm σ0 e).flatMap (kE σ0 K)).length) (e :: (cP σ0 K e.1 (nM σ0 K e) (pPt σ0 e.1)).flatMap (eN σ0 K)) ((cP σ0 K e.1 (nM σ0 K e) (pPt σ0 e.1)).flatMap (kE σ0 K)) := by
    obtain ⟨a1, a2, a3, a4, a5, a6, a7⟩ := w2
    refine ⟨fun k x y => (a1 k x y).trans (aI1_o x (by omega)), ?_, fun k x1 x2 x hx hw => ?_, fun c hc => ?_, fun x x1 x2 => ?_, ?_, fun zz hzz => ?_⟩
    · rw [show U + pHK σ0 K e.1 + (1 + nX σ0 K e.1 (pPt σ0 e.1)) = nM σ0 K e + nX σ0 K e.1 (pPt σ0 e.1) by omega]
      exact a2
    · have hxn : x ≠ nM σ0 K e := by omega
      rw [a3 k x1 x2 x (by omega) (Or.inl hxn)]
      by_cases k34 : k = 34
      · subst k34; rw [aI1_34, uq_ne hxn]
      · by_cases k35 : k = 35
        · subst k35; rw [aI1_35, uq_ne hxn]
        · by_cases k36 : k = 36
          · subst k36; rw [aI1_36, uq_ne hxn]
          · rw [aI1_o (by omega) (by omega)]
    · rcases List.mem_cons.1 hc with rfl | hc
      · refine ⟨?_, ?_, fun q hq => ?_⟩
        · rw [a3 34 (by decide) (by decide) _ (Or.inl (by omega)) (Or.inr (by decide)), aI1_34, uq_at]
        · rw [a3 35 (by decide) (by decide) _ (Or.inl (by omega)) (Or.inr (by decide)), aI1_35, uq_at]
        · rw [w3 q hq]
          by_cases hq2 : q < pPt σ0 c.1
          · rw [if_pos hq2]
          · rw [if_neg hq2]
            unfold pNn
            rw [if_neg (fun w => hq2 w.1)]
      · exact a4 c hc
    · by_cases e0 : x = nM σ0 K e
      · subst e0
        rw [a3 36 (by decide) (by decide) _ (Or.inl (by omega)) (Or.inr (by decide)), aI1_36, uq_at, if_neg]
        intro q
        have := a7 _ q
        omega
      · exact a5 x (by omega) (by omega)
    · rw [a6, aI1_o (by decide) (Or.inr (by decide))]
    · have := a7 zz hzz
      omega
  have M2 := mk2_comp m1 M1 (fun c hc => by
    rw [List.mem_flatMap] at hc
    obtain ⟨a, ha, hc⟩ := hc
    have hae : a ∈ cE σ0 K e := by unfold cE; exact List.mem_append_left _ ha
    obtain ⟨w1, w2, -⟩ := cE_ok hJ he hae
    obtain ⟨w3, w4, w5⟩ := eN_rng hJ a w1 (by omega) c hc
    have := nM_rng hJ w3
    have := cE_own hJ he hae
    obtain ⟨-, z2⟩ := cHm_mem.1 ha
    have : a.2.1 = e.2.1 := by rw [z2]
    omega)
  have eKl : (cHm σ0 e).flatMap (kE σ0 K) ++ (cP σ0 K e.1 (nM σ0 K e) (pPt σ0 e.1)).flatMap (kE σ0 K) = (cE σ0 K e).flatMap (kE σ0 K) := by unfold cE; rw [List.flatMap_append]
  rw [eKl, show pHK σ0 K e.1 + (1 + nX σ0 K e.1 (pPt σ0 e.1)) = K e.1 by omega] at M2
  have M3 : mk2 σ0 K (fun _ => False) σ σm U (K e.1) G (eN σ0 K e) ((cE σ0 K e).flatMap (kE σ0 K)) := by
    refine mk2_L M2 (fun c hc => ?_)
    rw [eN_eq hJ he hk, List.mem_cons] at hc
    unfold cE at hc
    rw [List.flatMap_append, List.mem_append] at hc
    rcases hc with hc | hc | hc
    · exact List.mem_append_right _ (List.mem_cons.2 (Or.inl hc))
    · exact List.mem_append_left _ hc
    · exact List.mem_append_right _ (List.mem_cons_of_mem _ hc)
  have sm : ∀ k, k ≠ 4 → k < 34 → σm.1 k = σ0.1 k := fun k x y => (M3.1 k x (Or.inl y)).trans (hs k x y)
  have hpc := c_pointCount (hBs σm sm) he.1 (D + K e.1 + 11)
  rw [sm 19 (by decide) (by decide), j3] at hpc
  have fin : ∀ σ', cG (D + K e.1 + 13) 59 [.ref 4, .int (nI x5), .int (0 : Int32)] σm = some (0, 0, σ') → cG (D + K e.1 + 14) 97 [.ref 0, .int (nI e.1), .int (nI e.2.2.1), .int (nI dp)] σ = some (nI (nM σ0 K e), 0, σ') := by
    intro σ' hd
    refine r1 _ ?_
    rw [show g1 = (g1 - 9) + 9 by omega, cp_97_h3, show D + K e.1 + 13 = (D + K e.1 + 12) + 1 by omega, hadd]
    simp only [pu_bnd]
    rw [show D + K e.1 + 12 + 1 = D + K e.1 + 13 by omega]
    refine w4 _ ?_
    rw [show g = (g - 31) + 31 by omega, cp_97_h4, show D + K e.1 + 13 = (D + K e.1 + 11) + 2 by omega, hpc]
    simp only [pu_bnd]
    rw [if_pos (nI_le (Nat.le_refl _) (by omega)), show D + K e.1 + 11 + 2 = D + K e.1 + 13 by omega, hd]
    rfl
  rcases q1 with ⟨ec, ex⟩ | ⟨h, ec, ex⟩
  · refine ⟨σm, ?_, fin σm ?_⟩
    · rw [kE_eq hJ he hk, ec, List.flatMap_nil, List.append_nil]
      exact M3
    · rw [ex, show D + K e.1 + 13 = (D + K e.1 + 11) + 2 by omega]
      exact c_disc0 _ _
  · obtain ⟨σ', p1, p2⟩ := mk2_home hJ he hk ec hf hU hz M3 (D + K e.1 + 1)
    refine ⟨σ', p1, fin σ' ?_⟩
    rw [ex, show D + K e.1 + 13 = D + K e.1 + 1 + 12 by omega]
    exact p2
