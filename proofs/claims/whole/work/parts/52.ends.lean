/-! both programs end a context: 16 turns each -/
set_option maxHeartbeats 2000000 in
theorem over_both {d e c nc nb U : Nat} {F1 F2 lv H : Nat → Nat} {N : Nat → Nat → Nat} {O B ht : Nat → Nat} (hc : c < 4) : ∀ (r t : Nat), t + r = 16 → ∀ (σ τ : mm_S) (G k : Nat), jM σ τ nc nb U G F1 F2 lv H N O B ht → jH σ τ nb U O B → pCt (fun b => !decide (σ.1 (44 + c) b = 0)) 16 ≤ r →
    ∃ (σ' τ' : mm_S) (K : Nat), (∀ f, 13 * (r + 1) ≤ f → mm_ex sc (cG (d + 12)) 0 cp_98_l f cp_98_r1 [.ref 0, .int (nI c), .int (nI t)] [] σ = some (0, 0, (mm_w σ'.1 42 c 0, σ'.2))) ∧ (∀ f, 700 * (r + 1) ≤ f → mm_ex sr (rG (e + 1)) 1 rp_39_l f rp_39_r1 [.ref 0, .int (nI c), .int (nI k), .int (nI t), .null, .null] [] τ = some (nI (k + K), 0, τ')) ∧ jM σ' τ' nc nb U (G + K) F1 F2 lv H N O B ht ∧ jH σ' τ' nb U O B ∧ (∀ b, b < 16 → σ'.1 (44 + c) b = 0) ∧ (∀ j, 42 ≤ j → j ≠ 44 + c → σ'.1 j = σ.1 j) ∧ τ'.1 32 = τ.1 32 := by
  intro r
  induction r with
  | zero =>
    intro t ht0 σ τ G k hM hH hz
    have e : t = 16 := by omega
    subst e
    refine ⟨σ, τ, 0, fun f hf => ?_, fun f hf => ?_, hM, hH, fun b hb => ?_, fun j _ _ => rfl, rfl⟩
    · rw [show f = (f - 13) + 13 by omega, cp_98_h1, if_pos (show (16 : Int32) ≤ nI 16 by decide), show d + 12 = (d + 10) + 2 from rfl, c_close hc]
      rfl
    · rw [show f = (f - 7) + 7 by omega, rp_39_h1, if_pos (show (16 : Int32) ≤ nI 16 by decide)]
      rfl
    · have := pCt_z (show pCt (fun b => !decide (σ.1 (44 + c) b = 0)) 16 = 0 by omega) b hb
      simpa using this
  | succ r ih =>
    intro t ht0 σ τ G k hM hH hz
    have hU := hM.2.2.2.2.1.1
    have hB : cB σ nb := hM.1.2.2.1
    have hI := rI_of hM.1 hM.2.1
    have hn := hB.2
    have hh : ∀ b, b < 16 → σ.1 (44 + c) b = nI (σ.1 (44 + c) b).toNatClampNeg ∧ τ.1 33 (16 * c + b) = nI (σ.1 (44 + c) b).toNatClampNeg ∧ (σ.1 (44 + c) b).toNatClampNeg ≤ 200 ∧ ((σ.1 (44 + c) b).toNatClampNeg = 0 ∨ (1 ≤ (σ.1 (44 + c) b).toNatClampNeg ∧ (σ.1 (44 + c) b).toNatClampNeg ≤ U ∧ b < nb ∧ ¬ σ.1 36 (σ.1 (44 + c) b).toNatClampNeg = 0 ∧ O (σ.1 (44 + c) b).toNatClampNeg = 0 ∧ B (σ.1 (44 + c) b).toNatClampNeg = b ∧ ¬ σ.1 15 b = 0)) := by
      intro b hb
      obtain ⟨x, e1, e2, e3⟩ := hH.1 c b hc hb
      have x200 : x ≤ 200 := by
        rcases e3 with e3 | e3 <;> omega
      have ex : (σ.1 (44 + c) b).toNatClampNeg = x := by rw [e1, nI_clamp (by omega)]
      rw [ex]
      exact ⟨e1, e2, x200, e3⟩
    generalize hg : (fun b => (σ.1 (44 + c) b).toNatClampNeg) = h at *
    have hgb : ∀ b, (σ.1 (44 + c) b).toNatClampNeg = h b := fun b => by rw [← hg]
    simp only [hgb] at hh
    have hc1 : ∀ b, b < 16 → σ.1 (44 + c) b = nI (h b) ∧ h b ≤ 200 := fun b hb => ⟨(hh b hb).1, (hh b hb).2.2.1⟩
    have hr1 : ∀ b, b < nb → τ.1 33 (16 * c + b) = nI (h b) ∧ h b ≤ 200 := fun b hb => ⟨(hh b (by omega)).2.1, (hh b (by omega)).2.2.1⟩
    have emx : mxv h 16 = mxv h nb := by
      have := mxv_ex (h := h) (n := nb) (16 - nb) (fun b h1 h2 => by
        rcases (hh b (by omega)).2.2.2 with q | q
        · exact q
        · omega)
      rw [show nb + (16 - nb) = 16 by omega] at this
      exact this
    have htl := c_takeLatest hc hc1 (d + 10)
    have tlt : ¬ (16 : Int32) ≤ nI t := (nI_ge (by omega) (by decide) : ¬ nI 16 ≤ nI t)
    by_cases q : (mxv h 16).1 = 0
    · obtain ⟨q1, q2⟩ := (mxv_f (h := h) 16).1 q
      have ew : mm_w σ.1 (44 + c) 0 0 = σ.1 := mm_w_id (by rw [(hc1 0 (by decide)).1, q2 0 (by decide)]; rfl)
      obtain ⟨σ', τ', K, p1, p2, p3, p4, p5, p6, p7⟩ := ih (t + 1) (by omega) σ τ G k hM hH (by
        rw [pCt_00 (fun i hi => by rw [(hc1 i hi).1, q2 i hi]; rfl)]; omega)
      refine ⟨σ', τ', K, fun f hf => ?_, fun f hf => ?_, p3, p4, p5, p6, p7⟩
      · rw [q, q1, ew] at htl
        rw [show f = (f - 13) + 13 by omega, cp_98_h1, if_neg tlt, show d + 12 = (d + 10) + 2 from rfl, htl]
        simp only [pu_bind]
        rw [c_disc0]
        simp only [pu_bind, nI_1]
        exact p1 _ (by omega)
      · rw [show f = (f - 7) + 7 by omega, rp_39_h1, if_neg tlt]
        have ea : aI h 0 = -1 := rfl
        have ea' : aI h nb = -1 := by unfold aI; rw [← emx, if_pos q]
        have := r_over_scan (k := nI k) (t := nI t) (res := (nI (k + K), 0, τ')) hI.2.2.1 hc hr1 (e + 1) nb 0 (f - 7 + 0) (by omega) (by omega) (fun g hg => by
          rw [show g = (g - 36) + 36 by omega, rp_39_h2, hI.2.2.1.1, if_pos (nI_le (Nat.le_refl _) (by omega)), ea', if_pos (by decide)]
          refine mm_ref _ _ [.ref 0, .int (nI c), .int (nI k), .int (nI (t + 1)), .null, .null] _ _ _ (by simp [mm_rf, nI_1]) (p2 _ (by omega)))
        rw [ea] at this
        exact this
    · obtain ⟨q1, q2⟩ := (mxv_f (h := h) 16).2 q
      generalize hi : (mxv h 16).2 = i at *
      generalize hx : (mxv h 16).1 = x at *
      obtain ⟨a1, a2, a3, a4⟩ := hh i q1
      rw [q2] at a1 a2 a3 a4
      obtain ⟨x1, x2, x3, x4, x5, x6, x7⟩ := a4.resolve_left q
      have hM1 : jM (mm_w σ.1 (44 + c) i 0, σ.2) τ nc nb U G F1 F2 lv H N O B ht := jM_A (fun j hj => mm_w_ne (by omega)) (fun _ _ => rfl) hM
      have w36 : mm_w σ.1 (44 + c) i 0 36 = σ.1 36 := mm_w_ne (by omega)
      have w15 : mm_w σ.1 (44 + c) i 0 15 = σ.1 15 := mm_w_ne (by omega)
      obtain ⟨τ2, k1, k2, k3, k4⟩ := jM_kill hM1 x1 x2 x5 (show ¬ mm_w σ.1 (44 + c) i 0 36 x = 0 by rw [w36]; exact x4) k d e
      have hH1 : jH (mm_w σ.1 (44 + c) i 0, σ.2) (mm_w τ.1 33 (16 * c + i) 0, τ.2) nb U O B := by
        refine ⟨fun c' b hc' hb => ?_, jU_0 hc hH.2⟩
        by_cases e0 : c' = c ∧ b = i
        · obtain ⟨rfl, rfl⟩ := e0
          exact ⟨0, (show mm_w σ.1 (44 + c') b 0 (44 + c') b = 0 from mm_w_at), (show mm_w τ.1 33 (16 * c' + b) 0 33 (16 * c' + b) = 0 from mm_w_at), Or.inl rfl⟩
        · obtain ⟨z, e1, e2, e3⟩ := hH.1 c' b hc' hb
          refine ⟨z, ?_, ?_, by rw [← w36, ← w15] at e3; exact e3⟩
          · show mm_w σ.1 (44 + c) i 0 (44 + c') b = nI z
            rw [← e1]
            by_cases ec : c' = c
            · subst ec
              exact mm_w_at2 (fun q => e0 ⟨rfl, q⟩)
            · exact mm_w_off (by omega)
          · show mm_w τ.1 33 (16 * c + i) 0 33 (16 * c' + b) = nI z
            rw [← e2]
            refine mm_w_at2 (fun q => e0 ?_)
            omega
      have hnx : ∀ c' b, c' < 4 → b < 16 → ¬ mm_w σ.1 (44 + c) i 0 (44 + c') b = nI x := by
        intro c' b hc' hb qq
        by_cases e0 : c' = c ∧ b = i
        · obtain ⟨rfl, rfl⟩ := e0
          rw [mm_w_at] at qq
          exact nI_ne0 (show 0 < x by omega) (by omega) qq.symm
        · have e9 : mm_w σ.1 (44 + c) i 0 (44 + c') b = σ.1 (44 + c') b := by
            by_cases ec : c' = c
            · subst ec
              exact mm_w_at2 (fun q => e0 ⟨rfl, q⟩)
            · exact mm_w_off (by omega)
          rw [e9] at qq
          obtain ⟨z, e1, e2, e3⟩ := hH.1 c' b hc' hb
          have zl : z ≤ 200 := by rcases e3 with e3 | e3 <;> omega
          have : z = x := (nI_eq (by omega) (by omega)).1 (e1.symm.trans qq)
          subst this
          have eb : B z = b := by
            rcases e3 with e3 | e3
            · omega
            · exact e3.2.2.2.2.2.1
          have ebi : b = i := by omega
          subst ebi
          have hcc : c ≠ c' := fun q => e0 ⟨q.symm, rfl⟩
          exact hH.2 c c' b hc hc' hb hcc (by rw [a1]; exact nI_ne0 (by omega) (by omega)) (by rw [a1, qq])
      have e33 : mm_w τ2.1 33 (16 * c + i) 0 33 = mm_w τ.1 33 (16 * c + i) 0 33 := by
        rw [mm_w_eq, mm_w_eq, k3.1 33 (by decide), kR_o (by decide) (by decide) (by decide)]
      have hH2 : jH (kC (mm_w σ.1 (44 + c) i 0, σ.2) (tL N x)) (mm_w τ2.1 33 (16 * c + i) 0, τ2.2) nb U O B := jH_kill (τ' := (mm_w τ2.1 33 (16 * c + i) 0, τ2.2)) hM1.2.2.2.2.1 x1 x2 e33 hH1 hnx
      have hM2 : jM (kC (mm_w σ.1 (44 + c) i 0, σ.2) (tL N x)) (mm_w τ2.1 33 (16 * c + i) 0, τ2.2) nc nb U (G + (tL N x).length) F1 F2 lv H N O B ht := jM_A (fun _ _ => rfl) (fun j hj => mm_w_ne (by omega)) k4
      have ecell : (kC (mm_w σ.1 (44 + c) i 0, σ.2) (tL N x)).1 (44 + c) = uq (σ.1 (44 + c)) i 0 := by
        rw [kC_o (by omega) (by omega) (by omega)]
        exact mm_w_eq
      obtain ⟨σ', τ', K, p1, p2, p3, p4, p5, p6, p7⟩ := ih (t + 1) (by omega) _ _ (G + (tL N x).length) (k + (tL N x).length) hM2 hH2 (by
        have := pCt_flip (p := fun b => !decide ((kC (mm_w σ.1 (44 + c) i 0, σ.2) (tL N x)).1 (44 + c) b = 0)) (q := fun b => !decide (σ.1 (44 + c) b = 0)) (j := i) (by
          simp only [ecell, uq_at]; rfl) (by
          simp only [a1]
          rw [decide_eq_false (nI_ne0 (by omega) (by omega))]; rfl) (fun j hj => by simp only [ecell, uq_ne hj]) (show i < 16 by omega)
        omega)
      refine ⟨σ', τ', (tL N x).length + K, fun f hf => ?_, fun f hf => ?_, ?_, p4, p5, fun j j1 j2 => ?_, ?_⟩
      · rw [show f = (f - 13) + 13 by omega, cp_98_h1, if_neg tlt, show d + 12 = (d + 10) + 2 from rfl, htl]
        simp only [pu_bind]
        rw [show d + 10 + 2 = d + 12 from rfl, k1]
        simp only [pu_bind, nI_1]
        exact p1 _ (by omega)
      · rw [show f = (f - 7) + 7 by omega, rp_39_h1, if_neg tlt]
        have ea : aI h 0 = -1 := rfl
        have ea' : aI h nb = nI i := by unfold aI; rw [← emx, hi, hx, if_neg q]
        have e16 : (16 : Int32) * nI c + nI i = nI (16 * c + i) := by rw [show (16 : Int32) = nI 16 by decide, pk_mul, nI_add]
        have hT := pu_T (show 16 * c + i < 64 by omega) (by decide)
        have hC := pu_cl (show 16 * c + i < 64 by omega) (by decide)
        have := r_over_scan (k := nI k) (t := nI t) (res := (nI (k + ((tL N x).length + K)), 0, τ')) hI.2.2.1 hc hr1 (e + 1) nb 0 (f - 7 + 0) (by omega) (by omega) (fun g hg => by
          rw [show g = (g - 36) + 36 by omega, rp_39_h2, hI.2.2.1.1, if_pos (nI_le (Nat.le_refl _) (by omega)), ea', if_neg (nI_pos (by omega)), e16]
          simp only [hT, hC, if_true, a2]
          rw [k2]
          simp only [pu_bind]
          rw [show k + ((tL N x).length + K) = k + (tL N x).length + K by omega]
          refine mm_ref _ _ [.ref 0, .int (nI c), .int (nI (k + (tL N x).length)), .int (nI (t + 1)), .null, .null] _ _ _ (by simp [mm_rf, nI_1]) (p2 _ (by omega)))
        rw [ea] at this
        exact this
      · rw [show G + ((tL N x).length + K) = G + (tL N x).length + K by omega]
        exact p3
      · rw [p6 j j1 j2, kC_o (by omega) (by omega) (by omega)]
        exact mm_w_ne (by omega)
      · rw [p7]
        show mm_w τ2.1 33 (16 * c + i) 0 32 = τ.1 32
        rw [mm_w_ne (by decide), k3.1 32 (by decide), kR_o (by decide) (by decide) (by decide)]
theorem over_end {c nc nb U G : Nat} {F1 F2 lv H : Nat → Nat} {N : Nat → Nat → Nat} {O B ht : Nat → Nat} {σ τ : mm_S} (hc : c < 4) (hM : jM σ τ nc nb U G F1 F2 lv H N O B ht) (hH : jH σ τ nb U O B) (d e : Nat) : ∃ (σ' τ' : mm_S) (K : Nat), cG (d + 13) 98 [.ref 0, .int (nI c)] σ = some (0, 0, (mm_w σ'.1 42 c 0, σ'.2)) ∧ rG (e + 2) 39 [.ref 0, .int (nI c)] τ = some (nI K, 0, τ') ∧ jM σ' τ' nc nb U (G + K) F1 F2 lv H N O B ht ∧ jH σ' τ' nb U O B ∧ (∀ b, b < 16 → σ'.1 (44 + c) b = 0) ∧ (∀ j, 42 ≤ j → j ≠ 44 + c → σ'.1 j = σ.1 j) ∧ τ'.1 32 = τ.1 32 := by
  obtain ⟨σ', τ', K, p1, p2, p3⟩ := over_both (d := d) (e := e) hc 16 0 rfl σ τ G 0 hM hH (pCt_le _ _)
  refine ⟨σ', τ', K, ?_, ?_, p3⟩
  · rw [show d + 13 = (d + 12) + 1 from rfl, cp_98_g]
    exact p1 _ (by omega)
  · rw [show e + 2 = (e + 1) + 1 from rfl, rp_39_g]
    have := p2 (99999996 + 0) (by omega)
    rw [Nat.zero_add] at this
    exact this
