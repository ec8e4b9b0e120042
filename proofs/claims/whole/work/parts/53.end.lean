/-! end -/
theorem jC_end {σ τ σ' τ' : mm_S} {nb U : Nat} {O B : Nat → Nat} {j : Nat} (hU : U ≤ 200) (h1 : ∀ c, c < 4 → σ.1 42 c = τ.1 32 c) (hA : jAc σ) (hH : jH σ' τ' nb U O B) (hz : ∀ b, b < 16 → σ'.1 (44 + j) b = 0) (ho : ∀ k, 42 ≤ k → k ≠ 44 + j → σ'.1 k = σ.1 k) (hr : τ'.1 32 = uq (τ.1 32) j 0) : jC (mm_w σ'.1 42 j 0, σ'.2) τ' nb U O B := by
  have e42 : mm_w σ'.1 42 j 0 42 = uq (σ.1 42) j 0 := by
    rw [mm_w_eq, ho 42 (by decide) (by omega)]
    rfl
  refine jC_of (fun c hc => ?_) ?_ ?_ hU
  · show mm_w σ'.1 42 j 0 42 c = τ'.1 32 c
    rw [e42, hr]
    by_cases e : c = j
    · subst e; rw [uq_at, uq_at]
    · rw [uq_ne e, uq_ne e]; exact h1 c hc
  · refine ⟨fun c b hc hb => ?_, jU_A (fun k _ _ => mm_w_ne (by omega)) hH.2⟩
    obtain ⟨x, e1, e2, e3⟩ := hH.1 c b hc hb
    exact ⟨x, (show mm_w σ'.1 42 j 0 (44 + c) b = nI x by rw [mm_w_off (by omega)]; exact e1), e2, e3⟩
  · intro c b hc hb h0
    have h0' : ¬ mm_w σ'.1 42 j 0 (44 + c) b = 0 := h0
    rw [mm_w_off (by omega)] at h0'
    show ¬ mm_w σ'.1 42 j 0 42 c = 0
    have hcj : c ≠ j := fun q => by subst q; exact h0' (hz b hb)
    rw [e42, uq_ne hcj]
    rw [ho (44 + c) (by omega) (by omega)] at h0'
    exact hA c b hc hb h0'
set_option maxHeartbeats 1000000 in
theorem s_end : lq_S_end jR := by
  intro x σ τ hR
  have hR0 := hR
  obtain ⟨nc, nb, U, G, F1, F2, lv, H, N, O, B, ht, h1, h2, h3, h4, h5, h6, h7⟩ := hR
  by_cases hr : σ.1 0 5 = 0
  · refine ⟨(-3, 0, σ), (-3, 0, τ), ?_, ?_, rfl, hR0⟩
    · rw [show (100 : Nat) = 98 + 1 + 1 from rfl, cp_81_g, if_pos hr]
    · rw [show (100 : Nat) = 98 + 1 + 1 from rfl, rp_44_g, if_pos (by rw [← h7.1]; exact hr)]
  · have hr2 : ¬ τ.1 0 15 = 0 := by rw [← h7.1]; exact hr
    rcases thread_or x with h | ⟨j, hj, rfl⟩
    · refine ⟨(-1, 0, σ), (-1, 0, τ), ?_, ?_, rfl, hR0⟩
      · rw [show (100 : Nat) = 98 + 1 + 1 from rfl, cp_81_g, if_neg hr, c_isThread_n h]; rfl
      · rw [show (100 : Nat) = 98 + 1 + 1 from rfl, rp_44_g, if_neg hr2, r_isThread_n h]; rfl
    · have hT := pu_T (show j < 4 by omega) (by decide)
      have hC := pu_cl (show j < 4 by omega) (by decide)
      have ea : τ.1 32 j = σ.1 42 j := (h6.1 j (by omega)).symm
      by_cases ha : σ.1 42 j = 0
      · refine ⟨(-7, 0, σ), (-7, 0, τ), ?_, ?_, rfl, hR0⟩
        · rw [show (100 : Nat) = 97 + 2 + 1 from rfl, cp_81_g, if_neg hr, c_isThread hj]
          simp only [pu_bind, pu_10, if_false]
          rw [c_isActive (by omega)]
          simp only [pu_bind, ha, decide_true, Bool.not_true, pb_if, Bool.false_eq_true, if_false]
        · rw [show (100 : Nat) = 97 + 2 + 1 from rfl, rp_44_g, if_neg hr2, r_isThread hj]
          simp only [pu_bind, pu_10, if_false, hT, if_true, hC, ea, ha]
      · have hJ := jC_H h6
        have hM : jM σ (mm_w τ.1 32 j 0, τ.2) nc nb U G F1 F2 lv H N O B ht := jM_A (fun _ _ => rfl) (fun k hk => mm_w_ne (by omega)) ⟨h1, h2, h3, h4, h5, h7⟩
        have hH : jH σ (mm_w τ.1 32 j 0, τ.2) nb U O B := ⟨fun c b hc hb => by
          obtain ⟨z, e1, e2, e3⟩ := hJ.1.1 c b hc hb
          exact ⟨z, e1, (show mm_w τ.1 32 j 0 33 (16 * c + b) = nI z by rw [mm_w_off (by decide)]; exact e2), e3⟩, hJ.1.2⟩
        obtain ⟨σ', τ', K, p1, p2, p3, p4, p5, p6, p7⟩ := over_end (show j < 4 by omega) hM hH 86 97
        have kI := p3.2.2.2.2.1
        refine ⟨(nI K, 0, (mm_w σ'.1 42 j 0, σ'.2)), (nI K, 0, τ'), ?_, ?_, rfl, ?_⟩
        · rw [show (100 : Nat) = 97 + 2 + 1 from rfl, cp_81_g, if_neg hr, c_isThread hj]
          simp only [pu_bind, pu_10, if_false]
          rw [c_isActive (by omega)]
          simp only [pu_bind, ha, decide_false, Bool.not_false, pb_if, if_true]
          rw [cp_51_g, h5.2.2.2.2.1]
          simp only [pu_bind]
          rw [show 97 + 2 = 86 + 13 from rfl, p1]
          simp only [pu_bind]
          rw [show 86 + 13 = 98 + 1 from rfl, cp_51_g]
          simp (decide := true) only [pu_bind, mm_w_off]
          rw [kI.2.2.2.2.1, pk_sub (by omega), show G + K - G = K by omega]
        · rw [show (100 : Nat) = 97 + 2 + 1 from rfl, rp_44_g, if_neg hr2, r_isThread hj]
          simp only [pu_bind, pu_10, if_false, hT, if_true, hC, ea, ha]
          rw [p2]
          rfl
        · have hf : jM (mm_w σ'.1 42 j 0, σ'.2) τ' nc nb U (G + K) F1 F2 lv H N O B ht := jM_A (fun k hk => mm_w_ne (by omega)) (fun _ _ => rfl) p3
          refine ⟨nc, nb, U, _, F1, F2, lv, H, N, O, B, ht, hf.1, hf.2.1, hf.2.2.1, hf.2.2.2.1, hf.2.2.2.2.1, jC_end h5.1 h6.1 hJ.2 p4 p5 p6 ?_, hf.2.2.2.2.2⟩
          rw [p7]
          show mm_w τ.1 32 j 0 32 = _
          rw [mm_w_eq]
          rfl
/-! shutdown -/
theorem r_over_idle {τ : mm_S} {c nb : Nat} (hB : rB τ nb) (hc : c < 4) (hz : ∀ b, b < nb → τ.1 33 (16 * c + b) = 0) (e : Nat) : rG (e + 1) 39 [.ref 0, .int (nI c)] τ = some (0, 0, τ) := by
  have hn := hB.2
  have h0 : ∀ n, (mxv (fun _ => 0) n).1 = 0 := by
    intro n
    induction n with
    | zero => rfl
    | succ n ih => rw [mxv, if_neg (by omega)]; exact ih
  have key : ∀ (r t f : Nat), t + r = 16 → 700 * (r + 1) ≤ f → mm_ex sr (rG e) 1 rp_39_l f rp_39_r1 [.ref 0, .int (nI c), .int (nI 0), .int (nI t), .null, .null] [] τ = some (0, 0, τ) := by
    intro r
    induction r with
    | zero =>
      intro t f ht hf
      have e : t = 16 := by omega
      subst e
      rw [show f = (f - 7) + 7 by omega, rp_39_h1, if_pos (show (16 : Int32) ≤ nI 16 by decide)]
      rfl
    | succ r ih =>
      intro t f ht hf
      rw [show f = (f - 7) + 7 by omega, rp_39_h1, if_neg (show ¬ (16 : Int32) ≤ nI t from (nI_ge (by omega) (by decide) : ¬ nI 16 ≤ nI t))]
      have ea : aI (fun _ => 0) 0 = -1 := rfl
      have ea' : aI (fun _ => 0) nb = -1 := by unfold aI; rw [if_pos (h0 nb)]
      have := r_over_scan (k := nI 0) (t := nI t) (res := (0, 0, τ)) (h := fun _ => 0) hB hc (fun b hb => ⟨hz b hb, by omega⟩) e nb 0 (f - 7 + 0) (by omega) (by omega) (fun g hg => by
        rw [show g = (g - 36) + 36 by omega, rp_39_h2, hB.1, if_pos (nI_le (Nat.le_refl _) (by omega)), ea', if_pos (by decide)]
        refine mm_ref _ _ [.ref 0, .int (nI c), .int (nI 0), .int (nI (t + 1)), .null, .null] _ _ _ (by simp [mm_rf, nI_1]) (ih (t + 1) _ (by omega) (by omega)))
      rw [ea] at this
      exact this
  rw [rp_39_g]
  exact key 16 0 _ rfl (by omega)
set_option maxHeartbeats 1000000 in
theorem obt_both {d e nc nb U : Nat} {F1 F2 lv H : Nat → Nat} {N : Nat → Nat → Nat} {O B ht : Nat → Nat} : ∀ (n : Nat), n ≤ U → ∀ (σ τ : mm_S) (G k : Nat), jM σ τ nc nb U G F1 F2 lv H N O B ht → jH σ τ nb U O B →
    ∃ (σ' τ' : mm_S) (K : Nat), (∀ f, 28 * (n + 1) ≤ f → mm_ex sc (cG (d + 12)) 0 cp_99_l f cp_99_r1 [.ref 0, .int (nI n)] [] σ = some (0, 0, σ')) ∧ (∀ f, 20 * (n + 1) ≤ f → ∀ res, (∀ g, f ≤ g + 20 * n → mm_ex sr (rG (e + 1)) 1 rp_48_l g rp_48_r4 [.ref 0, .int (nI (k + K)), .int (nI 0)] [] τ' = some res) → mm_ex sr (rG (e + 1)) 1 rp_48_l f rp_48_r4 [.ref 0, .int (nI k), .int (nI n)] [] τ = some res) ∧ jM σ' τ' nc nb U (G + K) F1 F2 lv H N O B ht ∧ jH σ' τ' nb U O B ∧ (∀ j, 42 ≤ j → σ'.1 j = σ.1 j) ∧ τ'.1 32 = τ.1 32 := by
  intro n
  induction n with
  | zero =>
    intro _ σ τ G k hM hH
    refine ⟨σ, τ, 0, fun f hf => ?_, fun f hf res hk => hk f (by omega), hM, hH, fun _ _ => rfl, rfl⟩
    rw [show f = (f - 28) + 28 by omega, cp_99_h1, if_pos (show nI 0 < (1 : Int32) by decide)]
  | succ n ih =>
    intro hn σ τ G k hM hH
    obtain ⟨h1, h2, h3, h4, h5, h7⟩ := hM
    have h5' := h5
    obtain ⟨i1, i2, i3, i4, i5, i6, i7, i8, i9, i10, i11, i12, i13, i14, i15⟩ := h5'
    have hB : cB σ nb := h1.2.2.1
    have hT := pu_T (show n + 1 < 201 by omega) (by decide)
    have hC := pu_cl (show n + 1 < 201 by omega) (by decide)
    have n1 : ¬ nI (n + 1) < (1 : Int32) := (nI_nlt (by omega) (by omega) : ¬ nI (n + 1) < nI 1)
    obtain ⟨⟨a1, a2, a3, a4, a5, a6, a7, a8, a9⟩, b⟩ := i15 (n + 1) (by omega) hn
    by_cases ha : σ.1 36 (n + 1) = 0
    · have ha2 : τ.1 23 (n + 1) = 0 := by rw [← i10]; exact ha
      obtain ⟨σ', τ', K, p1, p2, p3⟩ := ih (by omega) σ τ G k ⟨h1, h2, h3, h4, h5, h7⟩ hH
      refine ⟨σ', τ', K, fun f hf => ?_, fun f hf res hk => ?_, p3⟩
      · rw [show f = (f - 28) + 28 by omega, cp_99_h1, if_neg n1, show d + 12 = (d + 11) + 1 from rfl, c_isLiving i1 i3 (by omega) hn]
        simp only [pu_bind, pb_if, ha, decide_true, Bool.not_true, Bool.false_eq_true, if_false, nI_m]
        exact p1 _ (by omega)
      · rw [show f = (f - 20) + 20 by omega, rp_48_h4, if_neg n1]
        simp only [hT, hC, if_true, ha2, nI_m]
        exact p2 _ (by omega) res (fun g hg => hk g (by omega))
    · have ha2 : ¬ τ.1 23 (n + 1) = 0 := by rw [← i10]; exact ha
      obtain ⟨-, -, b3⟩ := b ha
      by_cases hq : O (n + 1) = 0 ∧ σ.1 15 (B (n + 1)) = 0
      · have h24 : ¬ τ.1 24 (n + 1) = 0 := b3.2 hq
        obtain ⟨τ2, k1, k2, k3, k4⟩ := jM_kill (x := n + 1) ⟨h1, h2, h3, h4, h5, h7⟩ (by omega) hn hq.1 ha k d e
        have hnx : ∀ c b, c < 4 → b < 16 → ¬ σ.1 (44 + c) b = nI (n + 1) := by
          intro c b' hc hb qq
          obtain ⟨z, e1, e2, e3⟩ := hH.1 c b' hc hb
          have zl : z ≤ 200 := by rcases e3 with e3 | e3 <;> omega
          have : z = n + 1 := (nI_eq (by omega) (by omega)).1 (e1.symm.trans qq)
          subst this
          rcases e3 with e3 | ⟨-, -, -, -, -, e4, e5⟩
          · omega
          · rw [e4] at hq
            exact e5 hq.2
        have hH2 := jH_kill (τ' := τ2) h5 (show 1 ≤ n + 1 by omega) hn (by rw [k3.1 33 (by decide), kR_o (by decide) (by decide) (by decide)]) hH hnx
        obtain ⟨σ', τ', K, p1, p2, p3, p4, p5, p6⟩ := ih (by omega) _ _ _ (k + (tL N (n + 1)).length) k4 hH2
        refine ⟨σ', τ', (tL N (n + 1)).length + K, fun f hf => ?_, fun f hf res hk => ?_, ?_, p4, fun j hj => ?_, ?_⟩
        · rw [show f = (f - 28) + 28 by omega, cp_99_h1, if_neg n1, show d + 12 = (d + 11) + 1 from rfl, c_isLiving i1 i3 (by omega) hn]
          simp only [pu_bind, pb_if, ha, decide_false, Bool.not_false, if_true, nI_m]
          rw [cp_55_g, show d + 11 = (d + 10) + 1 from rfl, c_isLiving i1 i3 (by omega) hn]
          simp only [pu_bind, pb_if, ha, decide_false, Bool.not_false, if_true, hT, hC, a4, hq.1]
          rw [if_pos (show nI 0 = 0 by decide), cp_54_g, c_isLiving i1 i3 (by omega) hn]
          simp only [pu_bind, pb_if, ha, decide_false, Bool.not_false, if_true, hT, hC, a1]
          rw [show d + 10 + 1 + 1 = (d + 10) + 2 from rfl, c_isDependent hB a2, if_pos hq.2]
          simp only [pu_bind, pu_10, if_false]
          rw [show d + 10 + 2 = d + 12 from rfl, k1]
          simp only [pu_bind]
          exact p1 _ (by omega)
        · rw [show f = (f - 20) + 20 by omega, rp_48_h4, if_neg n1]
          simp only [hT, hC, if_true, ha2, if_false, h24, nI_m]
          rw [k2]
          simp only [pu_bind]
          refine p2 _ (by omega) res (fun g hg => ?_)
          rw [show k + (tL N (n + 1)).length + K = k + ((tL N (n + 1)).length + K) by omega]
          exact hk g (by omega)
        · rw [show G + ((tL N (n + 1)).length + K) = G + (tL N (n + 1)).length + K by omega]
          exact p3
        · rw [p5 j hj, kC_o (by omega) (by omega) (by omega)]
        · rw [p6, k3.1 32 (by decide), kR_o (by decide) (by decide) (by decide)]
      · have h24 : τ.1 24 (n + 1) = 0 := Classical.byContradiction fun q => hq (b3.1 q)
        obtain ⟨σ', τ', K, p1, p2, p3⟩ := ih (by omega) σ τ G k ⟨h1, h2, h3, h4, h5, h7⟩ hH
        refine ⟨σ', τ', K, fun f hf => ?_, fun f hf res hk => ?_, p3⟩
        · rw [show f = (f - 28) + 28 by omega, cp_99_h1, if_neg n1, show d + 12 = (d + 11) + 1 from rfl, c_isLiving i1 i3 (by omega) hn]
          simp only [pu_bind, pb_if, ha, decide_false, Bool.not_false, if_true, nI_m]
          rw [cp_55_g, show d + 11 = (d + 10) + 1 from rfl, c_isLiving i1 i3 (by omega) hn]
          simp only [pu_bind, pb_if, ha, decide_false, Bool.not_false, if_true, hT, hC, a4]
          by_cases h0 : O (n + 1) = 0
          · rw [h0, if_pos (show nI 0 = 0 by decide), cp_54_g, c_isLiving i1 i3 (by omega) hn]
            simp only [pu_bind, pb_if, ha, decide_false, Bool.not_false, if_true, hT, hC, a1]
            rw [show d + 10 + 1 + 1 = (d + 10) + 2 from rfl, c_isDependent hB a2, if_neg (fun q => hq ⟨h0, q⟩)]
            simp only [pu_bind, if_true]
            exact p1 _ (by omega)
          · rw [if_neg (nI_ne0 (by omega) (by omega))]
            exact p1 _ (by omega)
        · rw [show f = (f - 20) + 20 by omega, rp_48_h4, if_neg n1]
          simp only [hT, hC, if_true, ha2, if_false, h24, nI_m]
          exact p2 _ (by omega) res (fun g hg => hk g (by omega))
