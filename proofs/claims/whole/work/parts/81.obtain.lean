/-! obtain, call -/
set_option maxHeartbeats 1000000 in
theorem s_obtain : lq_S_obtain jR := by
  intro x y w σ τ hR
  have hR0 := hR
  obtain ⟨nc, nb, U, G, F1, F2, lv, H, N, O, B, ht, h1, h2, h3, h4, h5, h6, h7⟩ := hR
  have hB := h1.2.2.1
  have hI := rI_of h1 h2
  have hn := hB.2
  have eg : τ.1 1 = σ.1 6 := h2.2.2.1.symm
  by_cases hr : σ.1 0 5 = 0
  · refine ⟨(-3, 0, σ), (-3, 0, τ), ?_, ?_, rfl, hR0⟩
    · rw [show (100 : Nat) = 98 + 1 + 1 from rfl, cp_82_g, if_pos hr]
    · rw [show (100 : Nat) = 98 + 1 + 1 from rfl, rp_45_g, if_pos (by rw [← h7.1]; exact hr)]
  · have hr2 : ¬ τ.1 0 15 = 0 := by rw [← h7.1]; exact hr
    rcases thread_or x with h | ⟨j, hj, rfl⟩
    · refine ⟨(-1, 0, σ), (-1, 0, τ), ?_, ?_, rfl, hR0⟩
      · rw [show (100 : Nat) = 98 + 1 + 1 from rfl, cp_82_g, if_neg hr, c_isThread_n h]; rfl
      · rw [show (100 : Nat) = 98 + 1 + 1 from rfl, rp_45_g, if_neg hr2, r_isThread_n h]; rfl
    · cases hc : pCode nc (σ.1 6) true false 6 y && pAsk w with
      | false =>
        refine ⟨(-1, 0, σ), (-1, 0, τ), ?_, ?_, rfl, hR0⟩
        · rw [show (100 : Nat) = 98 + 1 + 1 from rfl, cp_82_g, if_neg hr, c_isThread hj]
          simp only [pu_bnd, pu_10, if_false]
          rw [show 98 + 1 = 84 + 15 from rfl, c_isRequirement h1.1, hc]
          rfl
        · rw [show (100 : Nat) = 97 + 2 + 1 from rfl, rp_45_g, if_neg hr2, r_isThread hj]
          simp only [pu_bnd, pu_10, if_false]
          rw [r_required (jR_I h1 h2), eg]
          simp only [pu_bnd, pb_if]
          cases hq : pCode nc (σ.1 6) true false 6 y with
          | false => rfl
          | true =>
            rw [hq, Bool.true_and] at hc
            rw [if_pos rfl, r_askable, hc]
            rfl
      | true =>
        rw [Bool.and_eq_true] at hc
        obtain ⟨hy, hw⟩ := hc
        obtain ⟨R, h31, rfl, hv⟩ := pCode_some hy
        obtain ⟨τ1, rq1, hpk⟩ := r_pick hI h31 (by rw [eg]; exact hv) w 94
        rw [eg, ← h2.2.2.2.2.2.2.1, ← h2.2.2.2.2.2.2.2.1, ← h2.2.2.2.2.2.2.2.2.2.1, ← h2.2.2.2.2.2.2.2.2.2.2.1] at hpk
        have hfd := c_find h1 h31 hv w 61
        have hQ := rQ_of rq1
        have hM1 : jM σ τ1 nc nb U G F1 F2 lv H N O B ht := jM_Q hQ ⟨h1, h2, h3, h4, h5, h7⟩
        have hC1 : jC σ τ1 nb U O B := jC_Q (cQ_refl σ) hQ h6
        have hR1 : jR σ τ1 := jR_Q (cQ_refl σ) hQ hR0
        have cbase : ∀ res, ((if 0 ≤ pFd (pCd1 F1 F2 (σ.1 6) (σ.1 13) (σ.1 14) (σ.1 16) (σ.1 17) R w) (pRk (σ.1 16) (σ.1 17)) nb then ((cG 99 16 [.ref 2, .int (pFd (pCd1 F1 F2 (σ.1 6) (σ.1 13) (σ.1 14) (σ.1 16) (σ.1 17) R w) (pRk (σ.1 16) (σ.1 17)) nb)] σ).bind fun u4 => (if u4.1 = 0 then ((cG 99 26 [.ref 1, .int (nI R)] u4.2.2).bind fun u5 => (if u5.1 = 0 then ((cG 99 95 [.ref 0, .int (nI j), .int (pFd (pCd1 F1 F2 (σ.1 6) (σ.1 13) (σ.1 14) (σ.1 16) (σ.1 17) R w) (pRk (σ.1 16) (σ.1 17)) nb)] u5.2.2).bind fun u6 => (some (u6.1, 0, u6.2.2))) else (some ((-6 : Int32), 0, u5.2.2)))) else ((cG 99 96 [.ref 0, .int (pFd (pCd1 F1 F2 (σ.1 6) (σ.1 13) (σ.1 14) (σ.1 16) (σ.1 17) R w) (pRk (σ.1 16) (σ.1 17)) nb)] u4.2.2).bind fun u7 => (some (u7.1, 0, u7.2.2))))) else (some (pFd (pCd1 F1 F2 (σ.1 6) (σ.1 13) (σ.1 14) (σ.1 16) (σ.1 17) R w) (pRk (σ.1 16) (σ.1 17)) nb, 0, σ))) = some res) → cG 100 82 [.ref 0, .int (nI j), .int (nI R), .int w] σ = some res := by
          intro res hres
          rw [show (100 : Nat) = 98 + 1 + 1 from rfl, cp_82_g, if_neg hr, c_isThread hj]
          simp only [pu_bnd, pu_10, if_false]
          rw [show 98 + 1 = 84 + 15 from rfl, c_isRequirement h1.1, hy, hw]
          simp only [pu_bnd, Bool.and_self, pb_if, if_true]
          rw [show 84 + 15 = 61 + 38 from rfl, hfd]
          simp only [pu_bnd]
          rw [show 61 + 38 = 99 from rfl]
          exact hres
        have rbase : ∀ res, ((if 0 ≤ pFd (pCd1 F1 F2 (σ.1 6) (σ.1 13) (σ.1 14) (σ.1 16) (σ.1 17) R w) (pRk (σ.1 16) (σ.1 17)) nb then (if mm_in (pFd (pCd1 F1 F2 (σ.1 6) (σ.1 13) (σ.1 14) (σ.1 16) (σ.1 17) R w) (pRk (σ.1 16) (σ.1 17)) nb) 16 then (if (τ1.1 7 (pFd (pCd1 F1 F2 (σ.1 6) (σ.1 13) (σ.1 14) (σ.1 16) (σ.1 17) R w) (pRk (σ.1 16) (σ.1 17)) nb).toNatClampNeg) = 0 then ((rG 99 36 [.ref 0, .int (pFd (pCd1 F1 F2 (σ.1 6) (σ.1 13) (σ.1 14) (σ.1 16) (σ.1 17) R w) (pRk (σ.1 16) (σ.1 17)) nb)] τ1).bind fun u5 => (if u5.1 ≤ 0 then (some (u5.1, 0, u5.2.2)) else (if mm_in u5.1 201 then (some (u5.1, 0, (mm_w u5.2.2.1 24 (u5.1).toNatClampNeg (1 : Int32), u5.2.2.2))) else none))) else (if mm_in (nI R &&& (31 : Int32)) 32 then (if (τ1.1 2 ((nI R &&& (31 : Int32))).toNatClampNeg) = 0 then ((rG 99 40 [.ref 0, .int (nI j), .int (pFd (pCd1 F1 F2 (σ.1 6) (σ.1 13) (σ.1 14) (σ.1 16) (σ.1 17) R w) (pRk (σ.1 16) (σ.1 17)) nb)] τ1).bind fun u6 => (some (u6.1, 0, u6.2.2))) else (some ((-6 : Int32), 0, τ1))) else none)) else none) else (some (pFd (pCd1 F1 F2 (σ.1 6) (σ.1 13) (σ.1 14) (σ.1 16) (σ.1 17) R w) (pRk (σ.1 16) (σ.1 17)) nb, 0, τ1))) = some res) → rG 100 45 [.ref 0, .int (nI j), .int (nI R), .int w] τ = some res := by
          intro res hres
          rw [show (100 : Nat) = 97 + 2 + 1 from rfl, rp_45_g, if_neg hr2, r_isThread hj]
          simp only [pu_bnd, pu_10, if_false]
          rw [r_required (jR_I h1 h2), eg, hy]
          simp only [pu_bnd, pb_if, if_true]
          rw [r_askable, hw]
          simp only [pu_bnd, pb_if, if_true]
          rw [show 97 + 2 = 94 + 5 from rfl, hpk]
          simp only [pu_bnd]
          rw [show 94 + 5 = 99 from rfl]
          exact hres
        rcases pFd_or (pCd1 F1 F2 (σ.1 6) (σ.1 13) (σ.1 14) (σ.1 16) (σ.1 17) R w) (pRk (σ.1 16) (σ.1 17)) nb with hf | hf | ⟨b, hb, hf, hcd⟩
        · rw [hf] at cbase rbase
          exact ⟨(-4, 0, σ), (-4, 0, τ1), cbase _ (by rw [if_neg (by decide)]), rbase _ (by rw [if_neg (by decide)]), rfl, hR1⟩
        · rw [hf] at cbase rbase
          exact ⟨(-5, 0, σ), (-5, 0, τ1), cbase _ (by rw [if_neg (by decide)]), rbase _ (by rw [if_neg (by decide)]), rfl, hR1⟩
        · rw [hf] at cbase rbase
          have hE : pE (σ.1 16) (σ.1 17) b = true := by
            unfold pCd1 at hcd
            rw [Bool.and_eq_true] at hcd
            exact hcd.1
          have h0b : (0 : Int32) ≤ nI b := nI_pos' (by omega)
          have hT := pu_T (show b < 16 by omega) (by decide)
          have hC := pu_cl (show b < 16 by omega) (by decide)
          have e7 : τ1.1 7 = σ.1 15 := hM1.2.1.2.2.2.2.2.2.2.2.1.symm
          have e2 : τ1.1 2 = σ.1 7 := hM1.2.1.2.2.2.1.symm
          have hdep := c_isDependent hB hb 97
          by_cases hs : σ.1 15 b = 0
          · rw [if_pos hs] at hdep
            rcases mor hM1 hr hb hE 73 96 with ⟨r1, r2⟩ | ⟨σ', τ', n, G', K', ht', q1, q2, q3, q4, q5, q6, q7, q8, q9, q10, q11, q12, q13, q14, q15⟩
            · rw [show 73 + 26 = 99 from rfl] at r1
              rw [show 96 + 3 = 99 from rfl] at r2
              refine ⟨(-2, 0, σ), (-2, 0, τ1), cbase _ ?_, rbase _ ?_, rfl, hR1⟩
              · rw [if_pos h0b, show 99 = 97 + 2 from rfl, hdep]
                simp only [pu_bnd, pu_10, if_false]
                rw [show 97 + 2 = 99 from rfl, r1]
                rfl
              · rw [if_pos h0b]
                simp only [hT, hC, if_true, e7, hs]
                rw [r2]
                rfl
            · rw [show 73 + 26 = 99 from rfl] at q4
              rw [show 96 + 3 = 99 from rfl] at q5
              rw [if_pos hs] at q6
              have hTn := pu_T (show n < 201 by omega) (by decide)
              have hCn := pu_cl (show n < 201 by omega) (by decide)
              refine ⟨(nI n, 0, σ'), (nI n, 0, (mm_w τ'.1 24 n 1, τ'.2)), cbase _ ?_, rbase _ ?_, rfl, ?_⟩
              · rw [if_pos h0b, show 99 = 97 + 2 from rfl, hdep]
                simp only [pu_bnd, pu_10, if_false]
                rw [show 97 + 2 = 99 from rfl, q4]
                rfl
              · rw [if_pos h0b]
                simp only [hT, hC, if_true, e7, hs]
                rw [q5]
                simp only [pu_bnd]
                rw [if_neg (nI_nle (by omega) (by omega))]
                simp only [hTn, hCn, if_true]
              · have hC2 : jC σ' (mm_w τ'.1 24 n 1, τ'.2) nb (U + K') (nO U O σ') (nB U B σ') := jC_new hC1 q10 q14 (q15 15 (by decide) (by decide)) ((show mm_w τ'.1 24 n 1 32 = τ'.1 32 from mm_w_ne (by decide)).trans q11) ((show mm_w τ'.1 24 n 1 33 = τ'.1 33 from mm_w_ne (by decide)).trans q12)
                exact ⟨nc, nb, U + K', G', F1, F2, lv, H, _, _, _, _, q6.1, q6.2.1, q6.2.2.1, q6.2.2.2.1, q6.2.2.2.2.1, hC2, q6.2.2.2.2.2⟩
          · rw [if_neg hs] at hdep
            have hcl := c_isHeadClosed h31 h3.2.2.1 98
            have hTR := pu_T (show R % 32 < 32 by omega) (by decide)
            have hCR := pu_cl (show R % 32 < 32 by omega) (by decide)
            by_cases h7' : σ.1 7 (R % 32) = 0
            · obtain ⟨v, σ', τ', r1, r2, r3⟩ := reach_both hM1 hC1 hr hb hE hs hj 72 95
              rw [show 72 + 27 = 99 from rfl] at r1
              rw [show 95 + 4 = 99 from rfl] at r2
              refine ⟨(v, 0, σ'), (v, 0, τ'), cbase _ ?_, rbase _ ?_, rfl, r3⟩
              · rw [if_pos h0b, show 99 = 97 + 2 from rfl, hdep]
                simp only [pu_bnd, if_true]
                rw [show 97 + 2 = 98 + 1 from rfl, hcl]
                simp only [pu_bnd, h7', if_true]
                rw [show 98 + 1 = 99 from rfl, r1]
                rfl
              · rw [if_pos h0b]
                simp only [hT, hC, if_true, e7, hs, if_false, pu_and5 h31, hTR, hCR, e2, h7']
                rw [r2]
                rfl
            · refine ⟨(-6, 0, σ), (-6, 0, τ1), cbase _ ?_, rbase _ ?_, rfl, hR1⟩
              · rw [if_pos h0b, show 99 = 97 + 2 from rfl, hdep]
                simp only [pu_bnd, if_true]
                rw [show 97 + 2 = 98 + 1 from rfl, hcl]
                simp only [pu_bnd, h7', if_false]
              · rw [if_pos h0b]
                simp only [hT, hC, if_true, e7, hs, if_false, pu_and5 h31, hTR, hCR, e2, h7']
/-- the reference looks for the part: the last that x owns at point p -/
theorem r_findPart {σ τ : mm_S} {nb U G : Nat} {N : Nat → Nat → Nat} {O B ht : Nat → Nat} (h5 : jI σ τ nb U G N O B ht) {x p : Nat} (x1 : 1 ≤ x) (x2 : x ≤ U) (hp : p < 3) {y1 y4 y5 : Int32} (d : Nat) : ∀ (r z f : Nat), z + r = U + 1 → x < z → 20 * (r + 1) ≤ f → mm_ex sr (rG d) 1 rp_46_l f rp_46_r7 [.ref 0, .int y1, .int (nI x), .int (nI p), .int y4, .int y5, .int (nI (if N p x < z then N p x else 0)), .int (nI z)] [] τ = some (nI (N p x), 0, τ) := by
  obtain ⟨i1, i2, i3, i4, i5, i6, i7, i8, i9, i10, i11, i12, i13, i14, i15⟩ := h5
  obtain ⟨⟨a1, a2, a3, a4, a5, a6, a7, a8, a9⟩, -⟩ := i15 x x1 x2
  have hN : N p x ≤ U := by
    rcases a7 p hp with q | q
    · omega
    · exact q.2.1
  intro r
  induction r with
  | zero =>
    intro z f hz hx hf
    rw [show f = (f - 20) + 20 by omega, rp_46_h7, i6, if_pos (nI_lt (by omega) (by omega)), if_pos (by omega)]
  | succ r ih =>
    intro z f hz hx hf
    have hT := pu_T (show z < 201 by omega) (by decide)
    have hC := pu_cl (show z < 201 by omega) (by decide)
    obtain ⟨⟨b1, b2, b3, b4, b5, b6, b7, b8, b9⟩, -⟩ := i15 z (by omega) (by omega)
    rw [show f = (f - 20) + 20 by omega, rp_46_h7, i6, if_neg (nI_nlt (by omega) (by omega))]
    simp only [hT, hC, if_true, nI_1]
    rw [← i9, b4]
    have same : ¬ N p x = z → (if N p x < z then N p x else 0) = (if N p x < z + 1 then N p x else 0) := by
      intro hne
      by_cases q : N p x < z
      · rw [if_pos q, if_pos (by omega)]
      · rw [if_neg q, if_neg (by omega)]
    by_cases ho : O z = x
    · rw [if_pos (by rw [ho])]
      obtain ⟨p', p1, p2, p3⟩ := b9 (by omega)
      rw [ho] at p3
      rw [p2]
      by_cases e : p' = p
      · subst e
        rw [if_pos rfl]
        have := ih (z + 1) (f - 20 + 0) (by omega) (by omega) (by omega)
        rw [p3, if_pos (by omega)] at this
        rw [p3]
        exact this
      · rw [if_neg (fun q => e ((nI_eq (by omega) (by omega)).1 q))]
        have hne : ¬ N p x = z := by
          intro q
          have : ¬ N p x = 0 := by omega
          have h22 := ((a7 p hp).resolve_left this).2.2.2.2
          rw [q, p2] at h22
          exact e ((nI_eq (by omega) (by omega)).1 h22)
        rw [same hne]
        exact ih (z + 1) (f - 20 + 2) (by omega) (by omega) (by omega)
    · rw [if_neg (fun q => ho ((nI_eq (by omega) (by omega)).1 q))]
      have hne : ¬ N p x = z := by
        intro q
        have : ¬ N p x = 0 := by omega
        have := ((a7 p hp).resolve_left this).2.2.2.1
        rw [q] at this
        exact ho this
      rw [same hne]
      exact ih (z + 1) (f - 20 + 8) (by omega) (by omega) (by omega)
set_option maxHeartbeats 1000000 in
theorem s_call : lq_S_call jR := by
  intro x y w σ τ hR
  have hR0 := hR
  obtain ⟨nc, nb, U, G, F1, F2, lv, H, N, O, B, ht, h1, h2, h3, h4, h5, h6, h7⟩ := hR
  have hB := h1.2.2.1
  have hn := hB.2
  have h5' := h5
  obtain ⟨i1, i2, i3, i4, i5, i6, i7, i8, i9, i10, i11, i12, i13, i14, i15⟩ := h5'
  by_cases hr : σ.1 0 5 = 0
  · refine ⟨(-3, 0, σ), (-3, 0, τ), ?_, ?_, rfl, hR0⟩
    · rw [show (100 : Nat) = 98 + 1 + 1 from rfl, cp_83_g, if_pos hr]
    · rw [show (100 : Nat) = 98 + 1 + 1 from rfl, rp_46_g, if_pos (by rw [← h7.1]; exact hr)]
  · have hr2 : ¬ τ.1 0 15 = 0 := by rw [← h7.1]; exact hr
    rcases thread_or x with h | ⟨j, hj, rfl⟩
    · refine ⟨(-1, 0, σ), (-1, 0, τ), ?_, ?_, rfl, hR0⟩
      · rw [show (100 : Nat) = 98 + 1 + 1 from rfl, cp_83_g, if_neg hr, c_isThread_n h]; rfl
      · rw [show (100 : Nat) = 98 + 1 + 1 from rfl, rp_46_g, if_neg hr2, r_isThread_n h]; rfl
    · rcases inst_or U i1 y with h | ⟨n, n1, n2, rfl⟩
      · refine ⟨(-8, 0, σ), (-8, 0, τ), ?_, ?_, rfl, hR0⟩
        · rw [show (100 : Nat) = 98 + 1 + 1 from rfl, cp_83_g, if_neg hr, c_isThread hj]
          simp only [pu_bnd, pu_10, if_false]
          rw [c_isLiving_n (by rw [i3]; exact h)]; rfl
        · rw [show (100 : Nat) = 98 + 1 + 1 from rfl, rp_46_g, if_neg hr2, r_isThread hj]
          simp only [pu_bnd, pu_10, if_false]
          rw [r_living_n (by rw [i6]; exact h)]; rfl
      · have hT := pu_T (show n < 201 by omega) (by decide)
        have hC := pu_cl (show n < 201 by omega) (by decide)
        by_cases ha : σ.1 36 n = 0
        · refine ⟨(-8, 0, σ), (-8, 0, τ), ?_, ?_, rfl, hR0⟩
          · rw [show (100 : Nat) = 98 + 1 + 1 from rfl, cp_83_g, if_neg hr, c_isThread hj]
            simp only [pu_bnd, pu_10, if_false]
            rw [c_isLiving i1 i3 n1 n2]
            simp [ha, pb]
          · rw [show (100 : Nat) = 98 + 1 + 1 from rfl, rp_46_g, if_neg hr2, r_isThread hj]
            simp only [pu_bnd, pu_10, if_false]
            rw [r_living i1 i6 n1 n2, ← i10]
            simp [ha, pb]
        · have ha2 : ¬ τ.1 23 n = 0 := by rw [← i10]; exact ha
          obtain ⟨⟨a1, a2, a3, a4, a5, a6, a7, a8, a9⟩, -⟩ := i15 n n1 n2
          obtain ⟨y1, y2, y3, m, m3, em, -⟩ := h3.2.2.2.1 (B n) a2
          have hTb := pu_T (show B n < 16 by omega) (by decide)
          have hCb := pu_cl (show B n < 16 by omega) (by decide)
          have e20 : τ.1 20 n = nI (B n) := by rw [← i8]; exact a1
          have e11 : τ.1 11 (B n) = nI m := by rw [← h2.2.2.2.2.2.2.2.2.2.2.2.2.1]; exact em
          have cb : ∀ res, (((cG 99 12 [.ref 2, .int (nI (B n)), .int w] σ).bind fun u4 => (if u4.1 = 0 then (some ((-1 : Int32), (0 : Int64), u4.2.2)) else ((cG 99 60 [.ref 3, .int (nI (B n)), .int w] u4.2.2).bind fun u5 => ((cG 99 16 [.ref 2, .int u5.1] u5.2.2).bind fun u6 => (if u6.1 = 0 then ((cG 99 95 [.ref 0, .int (nI j), .int u5.1] u6.2.2).bind fun u7 => (some (u7.1, 0, u7.2.2))) else ((cG 99 56 [.ref 4, .int (nI n), .int w] u6.2.2).bind fun u8 => (some (u8.1, 0, u8.2.2)))))))) = some res) → cG 100 83 [.ref 0, .int (nI j), .int (nI n), .int w] σ = some res := by
            intro res hres
            rw [show (100 : Nat) = 98 + 1 + 1 from rfl, cp_83_g, if_neg hr, c_isThread hj]
            simp only [pu_bnd, pu_10, if_false]
            rw [c_isLiving i1 i3 n1 n2]
            simp only [pu_bnd, pb_if, ha, decide_false, Bool.not_false, if_true]
            rw [cp_54_g, c_isLiving i1 i3 n1 n2]
            simp only [pu_bnd, pb_if, ha, decide_false, Bool.not_false, if_true, hT, hC, a1]
            rw [show 98 + 1 = 99 from rfl]
            exact hres
          have rb : ∀ res, ((if w < 0 then (some ((-1 : Int32), (0 : Int64), τ)) else (if w < nI m then (if mm_in (((3 : Int32) * nI (B n)) + w) 48 then (if mm_in (τ.1 14 ((((3 : Int32) * nI (B n)) + w)).toNatClampNeg) 16 then (if (τ.1 7 ((τ.1 14 ((((3 : Int32) * nI (B n)) + w)).toNatClampNeg)).toNatClampNeg) = 0 then (mm_ex sr (rG 99) 1 rp_46_l (99999957 + 0) rp_46_r7 [.ref 0, .int (nI j), .int (nI n), .int w, .int (nI (B n)), .int (τ.1 14 ((((3 : Int32) * nI (B n)) + w)).toNatClampNeg), .int (0 : Int32), .int (nI (n + 1))] [] τ) else ((rG 99 40 [.ref 0, .int (nI j), .int (τ.1 14 ((((3 : Int32) * nI (B n)) + w)).toNatClampNeg)] τ).bind fun u3 => (some (u3.1, 0, u3.2.2)))) else none) else none) else (some ((-1 : Int32), 0, τ)))) = some res) → rG 100 46 [.ref 0, .int (nI j), .int (nI n), .int w] τ = some res := by
            intro res hres
            rw [show (100 : Nat) = 98 + 1 + 1 from rfl, rp_46_g, if_neg hr2, r_isThread hj]
            simp only [pu_bnd, pu_10, if_false]
            rw [r_living i1 i6 n1 n2]
            simp only [pu_bnd, pb_if, ha2, decide_false, Bool.not_false, if_true, hT, hC, e20, hTb, hCb, e11, nI_1]
            rw [show 98 + 1 = 99 from rfl]
            exact hres
          have hpc := c_pointCount hB a2 96
          rw [em] at hpc
          rcases pk_ix w (n := m) (by omega) with hw | hw | ⟨p, hp, rfl⟩
          · refine ⟨(-1, 0, σ), (-1, 0, τ), cb _ ?_, rb _ ?_, rfl, hR0⟩
            · rw [show (99 : Nat) = 98 + 1 from rfl, cp_12_g, if_pos hw]
              rfl
            · rw [if_pos hw]
          · have h0 : ¬ w < 0 := fun q => nI_pos (show m < 2 ^ 31 by omega) (Int32.lt_of_le_of_lt hw q)
            refine ⟨(-1, 0, σ), (-1, 0, τ), cb _ ?_, rb _ ?_, rfl, hR0⟩
            · rw [show (99 : Nat) = 96 + 2 + 1 from rfl, cp_12_g, if_neg h0, hpc]
              simp only [pu_bnd]
              rw [if_pos hw]
              rfl
            · rw [if_neg h0, if_neg (by rw [Int32.not_lt]; exact hw)]
          · obtain ⟨K, hK⟩ := h4.2 hr
            have ept : pPt σ (B n) = m := by unfold pPt; rw [em, nI_clamp (by omega)]
            obtain ⟨t, t1, t2, t3⟩ := (hK (B n) a2 a3).1 p (by omega)
            have hT2 := pu_T (show 3 * B n + p < 48 by omega) (by decide)
            have hC2 := pu_cl (show 3 * B n + p < 48 by omega) (by decide)
            have e3 : (3 : Int32) * nI (B n) + nI p = nI (3 * B n + p) := by rw [show (3 : Int32) = nI 3 by decide, pk_mul, nI_add]
            have e14 : τ.1 14 (3 * B n + p) = nI t := by rw [← h4.1 (B n) p (by omega)]; exact t3
            have hTt := pu_T (show t < 16 by omega) (by decide)
            have hCt := pu_cl (show t < 16 by omega) (by decide)
            have e7 : τ.1 7 = σ.1 15 := h2.2.2.2.2.2.2.2.2.1.symm
            have hhp := c_hasPoint hB a2 em m3 hp 96
            have htg := c_targetOf hB a2 em m3 hp 95
            rw [t3] at htg
            have hdp := c_isDependent hB t1 97
            have w0 : ¬ nI p < 0 := nI_pos (by omega)
            have wm : nI p < nI m := nI_lt hp (by omega)
            by_cases hs : σ.1 15 t = 0
            · rw [if_pos hs] at hdp
              refine ⟨(nI (N p n), 0, σ), (nI (N p n), 0, τ), cb _ ?_, rb _ ?_, rfl, hR0⟩
              · rw [show (99 : Nat) = 96 + 3 from rfl, hhp]
                simp only [pu_bnd, pu_10, if_false]
                rw [show 96 + 3 = 95 + 4 from rfl, htg]
                simp only [pu_bnd]
                rw [show 95 + 4 = 97 + 2 from rfl, hdp]
                simp only [pu_bnd, pu_10, if_false]
                rw [show 97 + 2 = 98 + 1 from rfl, cp_56_g, show (98 : Nat) = 97 + 1 from rfl, c_isLiving i1 i3 n1 n2]
                simp only [pu_bnd, pb_if, ha, decide_false, Bool.not_false, if_true]
                rw [if_neg w0, if_neg (show ¬ (3 : Int32) ≤ nI p from (nI_ge (by omega) (by decide) : ¬ nI 3 ≤ nI p))]
                simp only [(c_grid37 (show p < 3 by omega)).1, (c_grid37 (show p < 3 by omega)).2, pu_bnd, hT, hC, if_true]
                rw [i14 n p (by omega)]
              · rw [if_neg w0, if_pos wm, e3]
                simp only [hT2, hC2, if_true, e14, hTt, hCt, e7, hs]
                have := r_findPart h5 n1 n2 (show p < 3 by omega) (y1 := nI j) (y4 := nI (B n)) (y5 := nI t) 99 (U - n) (n + 1) (99999957 + 0) (by omega) (by omega) (by omega)
                have e0 : (if N p n < n + 1 then N p n else 0) = 0 := by
                  rcases a7 p (by omega) with q | q
                  · rw [q]; split <;> rfl
                  · rw [if_neg (by omega)]
                rw [e0, nI_0] at this
                exact this
            · rw [if_neg hs] at hdp
              obtain ⟨v, σ', τ', r1, r2, r3⟩ := reach_both ⟨h1, h2, h3, h4, h5, h7⟩ h6 hr t1 t2 hs hj 72 95
              rw [show 72 + 27 = 99 from rfl] at r1
              rw [show 95 + 4 = 99 from rfl] at r2
              refine ⟨(v, 0, σ'), (v, 0, τ'), cb _ ?_, rb _ ?_, rfl, r3⟩
              · rw [show (99 : Nat) = 96 + 3 from rfl, hhp]
                simp only [pu_bnd, pu_10, if_false]
                rw [show 96 + 3 = 95 + 4 from rfl, htg]
                simp only [pu_bnd]
                rw [show 95 + 4 = 97 + 2 from rfl, hdp]
                simp only [pu_bnd, if_true]
                rw [show 97 + 2 = 99 from rfl, r1]
                rfl
              · rw [if_neg w0, if_pos wm, e3]
                simp only [hT2, hC2, if_true, e14, hTt, hCt, e7, hs, if_false]
                rw [r2]
                rfl
