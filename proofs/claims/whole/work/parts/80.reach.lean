theorem jM_Q {σ τ τ' : mm_S} {nc nb U G : Nat} {F1 F2 lv H : Nat → Nat} {N : Nat → Nat → Nat} {O B ht : Nat → Nat} (r : rQ τ τ') (h : jM σ τ nc nb U G F1 F2 lv H N O B ht) : jM σ τ' nc nb U G F1 F2 lv H N O B ht := by
  obtain ⟨h1, h2, h3, h4, h5, h7⟩ := h
  refine ⟨h1, sT_Q (cQ_refl σ) r h2, h3, jP_Q (cQ_refl σ) r (jX_pt h3) h4, jI_Q (cQ_refl σ) r h5, ?_⟩
  rw [r.2 15 (by decide) (by decide) (by decide)]
  exact h7
/-- what a making leaves of the contexts -/
theorem jC_new {σ σ' τ τ' : mm_S} {nb U K' : Nat} {O B : Nat → Nat} (hC : jC σ τ nb U O B) (hs : ∀ k, 41 < k → σ'.1 k = σ.1 k) (h36 : ∀ x, x ≤ U → σ'.1 36 x = σ.1 36 x) (h15 : σ'.1 15 = σ.1 15) (t32 : τ'.1 32 = τ.1 32) (t33 : τ'.1 33 = τ.1 33) : jC σ' τ' nb (U + K') (nO U O σ') (nB U B σ') := by
  refine ⟨fun c hc => by rw [hs 42 (by decide), t32]; exact hC.1 c hc, fun c b hc hb => ?_, jU_A (fun k _ _ => hs k (by omega)) hC.2.2⟩
  obtain ⟨x, e1, e2, e3⟩ := hC.2.1 c b hc hb
  refine ⟨x, by rw [hs (44 + c) (by omega)]; exact e1, by rw [t33]; exact e2, e3.imp id fun ⟨a1, a2, a3, a4, a5, a6, a7, a8⟩ => ⟨a1, by omega, a3, ?_, ?_, ?_, by rw [h15]; exact a7, by rw [hs 42 (by decide)]; exact a8⟩⟩
  · rw [h36 x a2]; exact a4
  · unfold nO; rw [if_pos a2]; exact a5
  · unfold nB; rw [if_pos a2]; exact a6
theorem mor {σ τ : mm_S} {nc nb U G : Nat} {F1 F2 lv H : Nat → Nat} {N : Nat → Nat → Nat} {O B ht : Nat → Nat} (hM : jM σ τ nc nb U G F1 F2 lv H N O B ht) (hr : ¬ σ.1 0 5 = 0) {b : Nat} (hb : b < nb) (hE : pE (σ.1 16) (σ.1 17) b = true) (D d : Nat) : (cG (D + 26) 96 [.ref 0, .int (nI b)] σ = some (-2, 0, σ) ∧ rG (d + 3) 36 [.ref 0, .int (nI b)] τ = some (-2, 0, τ)) ∨ ∃ (σ' τ' : mm_S) (n G' K' : Nat) (ht' : Nat → Nat), U < n ∧ n ≤ 200 ∧ n ≤ U + K' ∧ cG (D + 26) 96 [.ref 0, .int (nI b)] σ = some (nI n, 0, σ') ∧ rG (d + 3) 36 [.ref 0, .int (nI b)] τ = some (nI n, 0, τ') ∧ jM σ' (mm_w τ'.1 24 n (if σ.1 15 b = 0 then 1 else 0), τ'.2) nc nb (U + K') G' F1 F2 lv H (nN U N σ') (nO U O σ') (nB U B σ') ht' ∧ nO U O σ' n = 0 ∧ nB U B σ' n = b ∧ ¬ σ'.1 36 n = 0 ∧ (∀ k, 41 < k → σ'.1 k = σ.1 k) ∧ τ'.1 32 = τ.1 32 ∧ τ'.1 33 = τ.1 33 ∧ τ'.1 24 n = 0 ∧ (∀ x, x ≤ U → σ'.1 36 x = σ.1 36 x) ∧ (∀ k, k ≠ 4 → k < 34 → σ'.1 k = σ.1 k) := by
  obtain ⟨K, hK⟩ := hM.2.2.2.1.2 hr
  obtain ⟨k1, k2, k3, k4⟩ := hK b hb hE
  have hB := hM.1.2.2.1
  have hn := hB.2
  have hU := hM.2.2.2.2.1.1
  have e0 := hM.2.2.2.2.1.2.2.1
  have e24 := hM.2.2.2.2.1.2.2.2.2.2.1
  have hT := pu_T (show b < 16 by omega) (by decide)
  have hC := pu_cl (show b < 16 by omega) (by decide)
  have hco : cG (D + 25) 61 [.ref 3, .int (nI b)] σ = some (nI (min 100 (K b)), 0, σ) := by
    rw [show D + 25 = (D + 23) + 1 + 1 by omega, cp_61_g, c_exists_y hB hb]
    simp only [pu_bnd, pu_10, if_false, hT, hC, if_true, k3]
  have base : cG (D + 26) 96 [.ref 0, .int (nI b)] σ = (if (10 : Int32) < nI (min 100 (K b)) then some (-2, 0, σ) else (if nI (min 100 (K b)) ≤ nI (200 - U) then ((cG (D + 25) 97 [.ref 0, .int (nI b), .int (0 : Int32), .int (0 : Int32)] σ).bind fun u3 => (some (u3.1, 0, u3.2.2))) else some (-2, 0, σ))) := by
    rw [show D + 26 = (D + 25) + 1 by omega, cp_96_g, hco]
    simp only [pu_bnd]
    rw [show D + 25 = (D + 24) + 1 by omega, cp_49_g, e0, show (200 : Int32) = nI 200 by decide, pk_sub hU]
    simp only [pu_bnd]
  by_cases h10 : K b ≤ 10
  · have m100 : min 100 (K b) = K b := by omega
    have m101 : min 101 (K b) = K b := by omega
    have n10 : ¬ (10 : Int32) < nI (K b) := (nI_nlt (by omega) (by decide) : ¬ nI 10 < nI (K b))
    rw [m100] at base
    rw [m101] at k4
    rw [if_neg n10] at base
    by_cases hle : U + K b ≤ 200
    · right
      obtain ⟨σ', τ', n, G', q1, q2, q3, q4, q5, q6, q7, q8, q9, q10, q11, q12, q13, q14⟩ := make_both hM hK hb hE h10 hle (D + 11 - K b) d
      rw [show D + 11 - K b + K b + 14 = D + 25 by omega, nI_0] at q3
      refine ⟨σ', τ', n, G', K b, _, q1, by omega, q2, ?_, q4, q5, q6, q7, q8, q9, q10, q11, q12, q13, q14⟩
      rw [base, if_pos (nI_le (by omega) (by omega)), q3]
      rfl
    · left
      refine ⟨?_, ?_⟩
      · rw [base, if_neg (nI_ge (by omega) (by omega))]
      · rw [show d + 3 = (d + 2) + 1 from rfl, rp_36_g]
        simp only [hT, hC, if_true, k4, e24, nI_add]
        rw [if_neg n10, if_neg (show ¬ nI (U + K b) ≤ (200 : Int32) from (nI_ge (by omega) (by omega) : ¬ nI (U + K b) ≤ nI 200))]
  · left
    refine ⟨?_, ?_⟩
    · rw [base, if_pos (show (10 : Int32) < nI (min 100 (K b)) from (nI_lt (by omega) (by omega) : nI 10 < nI _))]
    · rw [show d + 3 = (d + 2) + 1 from rfl, rp_36_g]
      simp only [hT, hC, if_true, k4]
      rw [if_pos (show (10 : Int32) < nI (min 101 (K b)) from (nI_lt (by omega) (by omega) : nI 10 < nI _))]
set_option maxHeartbeats 2000000 in
/-- a normal bean is reached: both answer alike, and the coupling stays -/
theorem reach_both {σ τ : mm_S} {nc nb U G : Nat} {F1 F2 lv H : Nat → Nat} {N : Nat → Nat → Nat} {O B ht : Nat → Nat} (hM : jM σ τ nc nb U G F1 F2 lv H N O B ht) (hCx : jC σ τ nb U O B) (hr : ¬ σ.1 0 5 = 0) {b j : Nat} (hb : b < nb) (hE : pE (σ.1 16) (σ.1 17) b = true) (hs : ¬ σ.1 15 b = 0) (hj : j < 3) (D d : Nat) : ∃ (v : Int32) (σ' τ' : mm_S), cG (D + 27) 95 [.ref 0, .int (nI j), .int (nI b)] σ = some (v, 0, σ') ∧ rG (d + 4) 40 [.ref 0, .int (nI j), .int (nI b)] τ = some (v, 0, τ') ∧ jR σ' τ' := by
  have hR0 : jR σ τ := ⟨nc, nb, U, G, F1, F2, lv, H, N, O, B, ht, hM.1, hM.2.1, hM.2.2.1, hM.2.2.2.1, hM.2.2.2.2.1, hCx, hM.2.2.2.2.2⟩
  have hB := hM.1.2.2.1
  have hn := hB.2
  have hb16 : b < 16 := by omega
  have hT := pu_T hb16 (by decide)
  have hC := pu_cl hb16 (by decide)
  have e7 : τ.1 7 = σ.1 15 := hM.2.1.2.2.2.2.2.2.2.2.1.symm
  have hU := hM.2.2.2.2.1.1
  -- one context c
  have core : ∀ c, c < 4 → ∃ (v : Int32) (σ' τ' : mm_S), ((cG (D + 26) 40 [.ref 5, .int (nI c)] σ).bind fun u6 => (if u6.1 = 0 then (some ((-7 : Int32), (0 : Int64), u6.2.2)) else ((cG (D + 26) 43 [.ref 5, .int (nI c), .int (nI b)] u6.2.2).bind fun u7 => (if u7.1 ≤ 0 then ((cG (D + 26) 96 [.ref 0, .int (nI b)] u7.2.2).bind fun u8 => (if u8.1 ≤ 0 then (some (u8.1, 0, u8.2.2)) else ((cG (D + 26) 44 [.ref 5, .int (nI c), .int (nI b), .int u8.1] u8.2.2).bind fun u9 => (some (u8.1, 0, u9.2.2))))) else (some (u7.1, 0, u7.2.2)))))) = some (v, 0, σ') ∧ (if τ.1 32 c = 0 then (some ((-7 : Int32), (0 : Int64), τ)) else (if τ.1 33 (16 * c + b) = 0 then ((rG (d + 3) 36 [.ref 0, .int (nI b)] τ).bind fun u2 => (if 0 ≤ u2.1 then (some ((mm_w u2.2.2.1 33 (16 * c + b) u2.1) 33 (16 * c + b), 0, (mm_w u2.2.2.1 33 (16 * c + b) u2.1, u2.2.2.2))) else (some (u2.1, 0, u2.2.2)))) else (some (τ.1 33 (16 * c + b), 0, τ)))) = some (v, 0, τ') ∧ jR σ' τ' := by
    intro c hc
    have ea : τ.1 32 c = σ.1 42 c := (hCx.1 c hc).symm
    obtain ⟨x, x1, x2, x3⟩ := hCx.2.1 c b hc hb16
    rw [show D + 26 = (D + 24) + 2 by omega, c_isActive hc]
    simp only [pu_bnd, pb_if]
    rw [ea, x2]
    by_cases ha : σ.1 42 c = 0
    · refine ⟨-7, σ, τ, ?_, ?_, hR0⟩
      · simp only [ha, decide_true, Bool.not_true, Bool.false_eq_true, if_false]
      · rw [if_pos ha]
    · simp only [ha, decide_false, Bool.not_false, if_true, if_false]
      rw [c_heldFor hc hb16]
      simp only [pu_bnd, x1]
      by_cases hx : x = 0
      · subst hx
        rw [if_pos (show nI 0 ≤ 0 by decide), if_pos (show nI 0 = 0 by decide)]
        rcases mor hM hr hb hE D d with ⟨r1, r2⟩ | ⟨σ', τ', n, G', K', ht', q1, q2, q3, q4, q5, q6, q7, q8, q9, q10, q11, q12, q13, q14, q15⟩
        · refine ⟨-2, σ, τ, ?_, ?_, hR0⟩
          · rw [show D + 24 + 2 = D + 26 by omega, r1]
            rfl
          · rw [r2]
            rfl
        · rw [if_neg hs, mm_w_id q13] at q6
          refine ⟨nI n, (mm_w σ'.1 (44 + c) b (nI n), σ'.2), (mm_w τ'.1 33 (16 * c + b) (nI n), τ'.2), ?_, ?_, ?_⟩
          · rw [show D + 24 + 2 = D + 26 by omega, q4]
            simp only [pu_bnd]
            rw [if_neg (nI_nle (by omega) (by omega)), show D + 26 = (D + 24) + 2 by omega, c_hold hc hb16]
            rfl
          · rw [q5]
            simp only [pu_bnd]
            rw [if_pos (nI_pos' (by omega)), mm_w_at]
          · have hM2 : jM (mm_w σ'.1 (44 + c) b (nI n), σ'.2) (mm_w τ'.1 33 (16 * c + b) (nI n), τ'.2) nc nb (U + K') G' F1 F2 lv H (nN U N σ') (nO U O σ') (nB U B σ') ht' := jM_A (fun k hk => mm_w_ne (by omega)) (fun k hk => mm_w_ne (by omega)) q6
            have hC2 : jC σ' τ' nb (U + K') (nO U O σ') (nB U B σ') := jC_new hCx q10 q14 (q15 15 (by decide) (by decide)) q11 q12
            have o42 : mm_w σ'.1 (44 + c) b (nI n) 42 = σ'.1 42 := mm_w_ne (by omega)
            have o36 : mm_w σ'.1 (44 + c) b (nI n) 36 = σ'.1 36 := mm_w_ne (by omega)
            have o15 : mm_w σ'.1 (44 + c) b (nI n) 15 = σ'.1 15 := mm_w_ne (by omega)
            refine ⟨nc, nb, U + K', G', F1, F2, lv, H, _, _, _, _, hM2.1, hM2.2.1, hM2.2.2.1, hM2.2.2.2.1, hM2.2.2.2.2.1, ⟨fun c' hc' => ?_, fun c' b' hc' hb' => ?_, fun c1 c2 b' h1 h2 h3 h4 h5 => ?_⟩, hM2.2.2.2.2.2⟩
            · show mm_w σ'.1 (44 + c) b (nI n) 42 c' = mm_w τ'.1 33 (16 * c + b) (nI n) 32 c'
              rw [o42, mm_w_off (by decide)]
              exact hC2.1 c' hc'
            · by_cases e0 : c' = c ∧ b' = b
              · obtain ⟨rfl, rfl⟩ := e0
                refine ⟨n, (show mm_w σ'.1 (44 + c') b' (nI n) (44 + c') b' = nI n from mm_w_at), (show mm_w τ'.1 33 (16 * c' + b') (nI n) 33 (16 * c' + b') = nI n from mm_w_at), Or.inr ⟨by omega, q3, hb, ?_, q7, q8, ?_, ?_⟩⟩
                · show ¬ mm_w σ'.1 (44 + c') b' (nI n) 36 n = 0
                  rw [o36]; exact q9
                · show ¬ mm_w σ'.1 (44 + c') b' (nI n) 15 b' = 0
                  rw [o15, q15 15 (by decide) (by decide)]; exact hs
                · show ¬ mm_w σ'.1 (44 + c') b' (nI n) 42 c' = 0
                  rw [o42, q10 42 (by decide)]; exact ha
              · obtain ⟨z, e1, e2, e3⟩ := hC2.2.1 c' b' hc' hb'
                refine ⟨z, ?_, ?_, ?_⟩
                · show mm_w σ'.1 (44 + c) b (nI n) (44 + c') b' = nI z
                  rw [← e1]
                  by_cases ec : c' = c
                  · subst ec; exact mm_w_at2 (fun q => e0 ⟨rfl, q⟩)
                  · exact mm_w_off (by omega)
                · show mm_w τ'.1 33 (16 * c + b) (nI n) 33 (16 * c' + b') = nI z
                  rw [← e2]
                  refine mm_w_at2 (fun q => e0 ?_)
                  omega
                · show z = 0 ∨ (1 ≤ z ∧ z ≤ U + K' ∧ b' < nb ∧ ¬ mm_w σ'.1 (44 + c) b (nI n) 36 z = 0 ∧ nO U O σ' z = 0 ∧ nB U B σ' z = b' ∧ ¬ mm_w σ'.1 (44 + c) b (nI n) 15 b' = 0 ∧ ¬ mm_w σ'.1 (44 + c) b (nI n) 42 c' = 0)
                  rw [o36, o15, o42]
                  exact e3
            · -- no two contexts hold the same
              have old : ∀ c', c' < 4 → ¬ σ'.1 (44 + c') b' = nI n := by
                intro c' hc' q
                rw [q10 (44 + c') (by omega)] at q
                obtain ⟨z, e1, e2, e3⟩ := hCx.2.1 c' b' hc' h3
                have zl : z ≤ U := by rcases e3 with e3 | e3 <;> omega
                have : z = n := (nI_eq (by omega) (by omega)).1 (e1.symm.trans q)
                omega
              have val : ∀ c', c' < 4 → (c' = c ∧ b' = b ∧ mm_w σ'.1 (44 + c) b (nI n) (44 + c') b' = nI n) ∨ (¬ (c' = c ∧ b' = b) ∧ mm_w σ'.1 (44 + c) b (nI n) (44 + c') b' = σ'.1 (44 + c') b') := by
                intro c' hc'
                by_cases e0 : c' = c ∧ b' = b
                · obtain ⟨rfl, rfl⟩ := e0
                  exact Or.inl ⟨rfl, rfl, mm_w_at⟩
                · right
                  refine ⟨e0, ?_⟩
                  by_cases ec : c' = c
                  · subst ec; exact mm_w_at2 (fun q => e0 ⟨rfl, q⟩)
                  · exact mm_w_off (by omega)
              have h5' : ¬ mm_w σ'.1 (44 + c) b (nI n) (44 + c1) b' = 0 := h5
              show ¬ mm_w σ'.1 (44 + c) b (nI n) (44 + c1) b' = mm_w σ'.1 (44 + c) b (nI n) (44 + c2) b'
              rcases val c1 h1 with ⟨v1, v2, v3⟩ | ⟨v1, v3⟩
              · rcases val c2 h2 with ⟨w1, w2, w3⟩ | ⟨w1, w3⟩
                · exact absurd (v1.trans w1.symm) h4
                · rw [v3, w3]; exact fun q => old c2 h2 q.symm
              · rcases val c2 h2 with ⟨w1, w2, w3⟩ | ⟨w1, w3⟩
                · rw [v3, w3]; exact old c1 h1
                · rw [v3] at h5' ⊢
                  rw [w3]
                  exact hC2.2.2 c1 c2 b' h1 h2 h3 h4 h5'
      · have xl : x ≤ 200 := by rcases x3 with x3 | x3 <;> omega
        refine ⟨nI x, σ, τ, ?_, ?_, hR0⟩
        · rw [if_neg (nI_nle (by omega) (by omega))]
        · rw [if_neg (nI_ne0 (by omega) (by omega))]
  have hsc := c_scopeOf hB hb (D + 24)
  obtain ⟨sc3, -⟩ := hM.2.2.1.2.2.2.1 b hb
  by_cases h2 : σ.1 15 b = 2
  · obtain ⟨v, σ', τ', r1, r2, r3⟩ := core 3 (by decide)
    refine ⟨v, σ', τ', ?_, ?_, r3⟩
    · rw [show D + 27 = (D + 26) + 1 by omega, cp_95_g, show D + 26 = (D + 24) + 2 by omega, hsc]
      simp only [pu_bnd]
      rw [if_pos h2, show (3 : Int32) = nI 3 by decide]
      rw [show D + 26 = (D + 24) + 2 by omega] at r1
      exact r1
    · have e48 : (16 : Int32) * 3 + nI b = nI (16 * 3 + b) := by rw [show (16 : Int32) * 3 = nI (16 * 3) by decide, nI_add]
      have hT2 := pu_T (show 16 * 3 + b < 64 by omega) (by decide)
      have hC2 := pu_cl (show 16 * 3 + b < 64 by omega) (by decide)
      rw [show d + 4 = (d + 3) + 1 from rfl, rp_40_g]
      simp only [hT, hC, if_true, e7, h2]
      rw [if_neg (show ¬ (2 : Int32) = 1 by decide), if_pos (show mm_in (3 : Int32) 4 by decide), show ((3 : Int32)).toNatClampNeg = 3 by decide, e48]
      simp only [hT2, hC2, if_true]
      exact r2
  · have h1 : σ.1 15 b = 1 := by
      rcases sc3 with q | q | q
      · exact absurd q hs
      · exact q
      · exact absurd q h2
    have hTj := pu_T (show j < 4 by omega) (by decide)
    have hCj := pu_cl (show j < 4 by omega) (by decide)
    obtain ⟨v, σ', τ', r1, r2, r3⟩ := core j (by omega)
    refine ⟨v, σ', τ', ?_, ?_, r3⟩
    · rw [show D + 27 = (D + 26) + 1 by omega, cp_95_g, show D + 26 = (D + 24) + 2 by omega, hsc]
      simp only [pu_bnd]
      rw [if_neg h2]
      rw [show D + 26 = (D + 24) + 2 by omega] at r1
      exact r1
    · have e16 : (16 : Int32) * nI j + nI b = nI (16 * j + b) := by rw [show (16 : Int32) = nI 16 by decide, pk_mul, nI_add]
      have hT2 := pu_T (show 16 * j + b < 64 by omega) (by decide)
      have hC2 := pu_cl (show 16 * j + b < 64 by omega) (by decide)
      rw [show d + 4 = (d + 3) + 1 from rfl, rp_40_g]
      simp only [hT, hC, if_true, e7, h1, hTj, hCj, e16, hT2, hC2]
      exact r2
