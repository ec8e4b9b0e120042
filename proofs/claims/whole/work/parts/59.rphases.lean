set_option maxHeartbeats 1000000 in
theorem r_judge {σ τ : mm_S} {nc nb : Nat} {F1 F2 lv H : Nat → Nat} (hI0 : cI σ nc nb F1 F2 lv H) (hS : sT σ τ) (hX : jX σ nc nb F1 F2 lv) {b m : Nat} (hb : b < nb) (em : σ.1 19 b = nI m) (hm : m ≤ 3) (d : Nat) : ∃ τ'', rq τ τ'' b (vT σ nb F1 F2 b) m (nMf (vT σ nb F1 F2 b) (σ.1 15) (σ.1 17 b) m) ∧ rG (d + 6) 28 [.ref 0, .int (nI b)] τ = some (oP σ b ||| jPb (eP σ nb F1 F2 b) m, 0, τ'') := by
  have hI := rI_of hI0 hS
  have hn := hI.2.2.1.2
  have hT := pu_T (show b < 16 by omega) (by decide)
  have hC := pu_cl (show b < 16 by omega) (by decide)
  have e7 : τ.1 7 = σ.1 15 := hS.2.2.2.2.2.2.2.2.1.symm
  have e9 : τ.1 9 = σ.1 17 := hS.2.2.2.2.2.2.2.2.2.2.1.symm
  have e5 : τ.1 5 = σ.1 13 := hS.2.2.2.2.2.2.1.symm
  obtain ⟨T, eT, hV⟩ := hI0.2.2.2.2.2.2.2.2.2.2 b hb
  have hT25 := pV_lt hV
  have e25 : 32 ^ (4 + 1) = 2 ^ 25 := by decide
  have hvar := r_hasVar (T := T) hI.2.2.1 hb (by rw [e5]; exact eT) (by omega) (by have := hV.2.1; have := hI0.1.2; omega) (d + 4)
  rw [← eT] at hvar
  have e3 : (3 : Int32) * nI b = nI (3 * b) := by rw [show (3 : Int32) = nI 3 by decide, pk_mul]
  -- the rest, once the first word o stands
  have rest : ∀ (o : Int32) (c : Nat), 500 ≤ c → ∃ τ'', rq τ τ'' b (vT σ nb F1 F2 b) m (nMf (vT σ nb F1 F2 b) (σ.1 15) (σ.1 17 b) m) ∧ mm_ex sr (rG (d + 5)) 1 rp_28_l c rp_28_r2 [.ref 0, .int (nI b), .null, .null, .null] [.int o] τ = some (o ||| jPb (eP σ nb F1 F2 b) m, 0, τ'') := by
    intro o c hc
    have start : ∀ (g : Nat), 400 ≤ g → ∃ τ'', rq τ τ'' b (vT σ nb F1 F2 b) m (nMf (vT σ nb F1 F2 b) (σ.1 15) (σ.1 17 b) m) ∧ mm_ex sr (rG (d + 5)) 1 rp_28_l g rp_28_r5 [.ref 0, .int (nI b), .int o, .int (nI (3 * b)), .null] [] (mm_w τ.1 15 b (nI (nMf (vT σ nb F1 F2 b) (σ.1 15) (σ.1 17 b) 0)), τ.2) = some (o ||| jPb (eP σ nb F1 F2 b) m, 0, τ'') := by
      intro g hg
      have h0 : rq τ (mm_w τ.1 15 b (nI (nMf (vT σ nb F1 F2 b) (σ.1 15) (σ.1 17 b) 0)), τ.2) b (vT σ nb F1 F2 b) 0 (nMf (vT σ nb F1 F2 b) (σ.1 15) (σ.1 17 b) 0) := by
        refine ⟨pr_w τ _ (by decide) (by decide), (show mm_w τ.1 15 b (nI (nMf (vT σ nb F1 F2 b) (σ.1 15) (σ.1 17 b) 0)) 16 = τ.1 16 from mm_w_ne (by decide)), fun b' q hq => ?_, fun b' => ?_⟩
        · show mm_w τ.1 15 b (nI (nMf (vT σ nb F1 F2 b) (σ.1 15) (σ.1 17 b) 0)) 14 (3 * b' + q) = _
          rw [mm_w_off (by decide), if_neg (fun z => absurd z.2 (Nat.not_lt_zero _))]
        · show mm_w τ.1 15 b (nI (nMf (vT σ nb F1 F2 b) (σ.1 15) (σ.1 17 b) 0)) 15 b' = _
          by_cases e : b' = b
          · subst e; rw [mm_w_at, if_pos rfl]
          · rw [mm_w_at2 e, if_neg e]
      obtain ⟨τ'', y1, y2⟩ := r_judge_loop hI0 hS hX hb em hm o d m 0 g _ (by omega) (by omega) h0
      rw [jPb, i_or0, Nat.add_zero] at y2
      exact ⟨τ'', y1, y2⟩
    rcases hI0.2.2.2.2.2.2.2.2.2.1 b hb with h | ⟨k, hk, h⟩
    · obtain ⟨τ'', y1, y2⟩ := start (c - 16 + 6 - 5 + 0) (by omega)
      refine ⟨τ'', y1, ?_⟩
      rw [show c = (c - 16) + 16 by omega, rp_28_h2]
      simp only [hT, hC, if_true, e9, h]
      rw [if_pos (by decide), show c - 16 + 6 = (c - 16 + 6 - 5) + 5 by omega, rp_28_h4]
      simp only [hT, hC, if_true, e3]
      rw [nMf, if_pos h, nI_0] at y2
      exact y2
    · obtain ⟨τ'', y1, y2⟩ := start (c - 16 + 0 - 5 + 0) (by omega)
      refine ⟨τ'', y1, ?_⟩
      rw [show c = (c - 16) + 16 by omega, rp_28_h2]
      simp only [hT, hC, if_true, e9, h]
      rw [if_neg (nI_pos (by omega)), show c - 16 + 0 = (c - 16 + 0 - 5) + 5 by omega, rp_28_h4]
      simp only [hT, hC, if_true, e3]
      rw [nMf, h, if_neg (nI_m1 (by omega)), nI_clamp (by omega)] at y2
      rw [pu_1shl (by omega)]
      exact y2
  by_cases hs : σ.1 15 b = 0
  · have eo : oP σ b = 0 := by unfold oP; rw [if_neg (fun z => z.1 hs)]
    obtain ⟨τ'', y1, y2⟩ := rest 0 (99999994 + 0) (by omega)
    refine ⟨τ'', y1, ?_⟩
    rw [show d + 6 = (d + 5) + 1 from rfl, rp_28_g]
    simp only [hT, hC, if_true, e7, hs]
    rw [show 99999989 + 6 = 99999994 + 1 from rfl, rp_28_h1, eo]
    exact y2
  · cases hvr : pVr (σ.1 13 b) with
    | false =>
      have eo : oP σ b = 0 := by unfold oP; rw [hvr, if_neg (fun z => absurd z.2 (by decide))]
      obtain ⟨τ'', y1, y2⟩ := rest 0 (99999990 + 0) (by omega)
      refine ⟨τ'', y1, ?_⟩
      rw [show d + 6 = (d + 5) + 1 from rfl, rp_28_g]
      simp only [hT, hC, if_true, e7, hs, if_false]
      rw [show d + 5 = (d + 4) + 1 from rfl, hvar, hvr]
      simp only [pu_bind, pb_if, Bool.false_eq_true, if_false]
      rw [show 99999989 + 2 = 99999990 + 1 from rfl, rp_28_h1, eo]
      exact y2
    | true =>
      have eo : oP σ b = 1 := by unfold oP; rw [hvr, if_pos ⟨hs, rfl⟩]
      obtain ⟨τ'', y1, y2⟩ := rest 1 (99999989 + 0) (by omega)
      refine ⟨τ'', y1, ?_⟩
      rw [show d + 6 = (d + 5) + 1 from rfl, rp_28_g]
      simp only [hT, hC, if_true, e7, hs, if_false]
      rw [show d + 5 = (d + 4) + 1 from rfl, hvar, hvr]
      simp only [pu_bind, pb_if, if_true]
      rw [eo]
      exact y2
def rph (σ τ τ' : mm_S) (nb : Nat) (F1 F2 : Nat → Nat) (b : Nat) : Prop := pr τ τ' ∧ (∀ b' q, q < 3 → τ'.1 14 (3 * b' + q) = if b' < b ∧ pE (σ.1 16) (σ.1 17) b' = true ∧ q < pPt σ b' then vT σ nb F1 F2 b' q else τ.1 14 (3 * b' + q)) ∧ (∀ b', b' < b → τ'.1 15 b' = nI (MM σ nb F1 F2 b') ∧ τ'.1 16 b' = 0)
theorem pr_S {σ τ τ' : mm_S} (h : pr τ τ') (hS : sT σ τ) : sT σ τ' := by
  obtain ⟨h1, h2⟩ := h
  obtain ⟨s1, s2, s3, s4, s5, s6, s7, s8, s9, s10, s11, s12, s13, s14⟩ := hS
  have g : ∀ c, c ≠ 0 → c < 14 → τ'.1 c = τ.1 c := fun c a b => h1 c a (Or.inl b)
  refine ⟨?_, ?_, ?_, ?_, ?_, fun h => ?_, ?_, ?_, ?_, ?_, ?_, ?_, ?_, fun b p hp => ?_⟩
  · rw [h2 0 (by decide) (by decide), s1]
  · rw [h2 5 (by decide) (by decide), s2]
  · rw [g 1 (by decide) (by decide), s3]
  · rw [g 2 (by decide) (by decide), s4]
  · rw [g 3 (by decide) (by decide), s5]
  · rw [g 4 (by decide) (by decide)]; exact s6 h
  · rw [g 5 (by decide) (by decide), s7]
  · rw [g 6 (by decide) (by decide), s8]
  · rw [g 7 (by decide) (by decide), s9]
  · rw [g 8 (by decide) (by decide), s10]
  · rw [g 9 (by decide) (by decide), s11]
  · rw [g 10 (by decide) (by decide), s12]
  · rw [g 11 (by decide) (by decide), s13]
  · rw [g 12 (by decide) (by decide), g 13 (by decide) (by decide)]; exact s14 b p hp
set_option maxHeartbeats 1000000 in
theorem r_phase1 {σ τ : mm_S} {nc nb : Nat} {F1 F2 lv H : Nat → Nat} (hI0 : cI σ nc nb F1 F2 lv H) (hS : sT σ τ) (hX : jX σ nc nb F1 F2 lv) (d : Nat) : ∀ (r b f : Nat) (τ' : mm_S), b + r = nb → 30 * (r + 1) ≤ f → rph σ τ τ' nb F1 F2 b → ∃ τ'' g, 30 ≤ g ∧ f ≤ g + 30 * r ∧ rph σ τ τ'' nb F1 F2 nb ∧ ∀ res, mm_ex sr (rG (d + 6)) 1 rp_32_l g rp_32_r2 [.ref 0, .int (PR σ nb F1 F2 nb), .int (nI nb), .null] [] τ'' = some res → mm_ex sr (rG (d + 6)) 1 rp_32_l f rp_32_r2 [.ref 0, .int (PR σ nb F1 F2 b), .int (nI b), .null] [] τ' = some res := by
  have hn := hI0.2.2.1.2
  intro r
  induction r with
  | zero =>
    intro b f τ' hb hf hp
    have e : b = nb := by omega
    subst e
    exact ⟨τ', f, by omega, by omega, hp, fun res h => h⟩
  | succ r ih =>
    intro b f τ' hb hf hp
    have hb' : b < nb := by omega
    have hT := pu_T (show b < 16 by omega) (by decide)
    have hC := pu_cl (show b < 16 by omega) (by decide)
    have p1 : pr τ (mm_w (mm_w τ'.1 15 b 0) 16 b 0, τ'.2) := pr_trans hp.1 (pr_trans (pr_w τ' 0 (by decide) (by decide)) (pr_w (mm_w τ'.1 15 b 0, τ'.2) 0 (by decide) (by decide)))
    have hI1 := pr_I p1 (rI_of hI0 hS)
    have hS1 := pr_S p1 hS
    have hen := r_enabled hI1.2.2.1 hI1.2.2.2.2.2.2.2.1 hb' (d + 5)
    have e16 : mm_w (mm_w τ'.1 15 b 0) 16 b 0 8 = σ.1 16 := hS1.2.2.2.2.2.2.2.2.2.1.symm
    have e17 : mm_w (mm_w τ'.1 15 b 0) 16 b 0 9 = σ.1 17 := hS1.2.2.2.2.2.2.2.2.2.2.1.symm
    simp only [e16, e17] at hen
    have hsz : τ'.1 0 5 = nI nb := (pr_I hp.1 (rI_of hI0 hS)).2.2.1.1
    have o14 : ∀ i, mm_w (mm_w τ'.1 15 b 0) 16 b 0 14 i = τ'.1 14 i := fun i => by rw [mm_w_off (by decide), mm_w_off (by decide)]
    have o15 : ∀ i, i ≠ b → mm_w (mm_w τ'.1 15 b 0) 16 b 0 15 i = τ'.1 15 i := fun i hi => by rw [mm_w_off (by decide), mm_w_at2 hi]
    have o16 : ∀ i, i ≠ b → mm_w (mm_w τ'.1 15 b 0) 16 b 0 16 i = τ'.1 16 i := fun i hi => by rw [mm_w_at2 hi, mm_w_off (by decide)]
    have z15 : mm_w (mm_w τ'.1 15 b 0) 16 b 0 15 b = 0 := by rw [mm_w_off (by decide), mm_w_at]
    have z16 : mm_w (mm_w τ'.1 15 b 0) 16 b 0 16 b = 0 := mm_w_at
    have head : ∀ n, mm_ex sr (rG (d + 6)) 1 rp_32_l (n + 30) rp_32_r2 [.ref 0, .int (PR σ nb F1 F2 b), .int (nI b), .null] [] τ' = ((rG (d + 6) 11 [.ref 0, .int (nI b)] (mm_w (mm_w τ'.1 15 b 0) 16 b 0, τ'.2)).bind fun u4 => (if u4.1 = 0 then (mm_ex sr (rG (d + 6)) 1 rp_32_l (n + 10) rp_32_r2 [.ref 0, .int (PR σ nb F1 F2 b), .int (nI (b + 1)), .null] [] u4.2.2) else ((rG (d + 6) 28 [.ref 0, .int (nI b)] u4.2.2).bind fun u5 => (mm_ex sr (rG (d + 6)) 1 rp_32_l (n + 4) rp_32_r2 [.ref 0, .int (PR σ nb F1 F2 b ||| u5.1), .int (nI (b + 1)), .null] [] u5.2.2)))) := by
      intro n
      rw [rp_32_h2, hsz, if_neg (nI_ge hb' (by omega))]
      simp only [hT, hC, if_true, nI_1]
    cases hE : pE (σ.1 16) (σ.1 17) b with
    | false =>
      rw [hE] at hen
      have hp1 : rph σ τ (mm_w (mm_w τ'.1 15 b 0) 16 b 0, τ'.2) nb F1 F2 (b + 1) := by
        refine ⟨p1, fun b' q hq => ?_, fun b' hb2 => ?_⟩
        · refine (o14 _).trans ?_
          rw [hp.2.1 b' q hq]
          by_cases z : b' < b ∧ pE (σ.1 16) (σ.1 17) b' = true ∧ q < pPt σ b'
          · rw [if_pos z, if_pos ⟨by omega, z.2⟩]
          · rw [if_neg z, if_neg]
            rintro ⟨z1, z2, z3⟩
            by_cases e : b' = b
            · subst e; rw [hE] at z2; exact absurd z2 (by decide)
            · exact z ⟨by omega, z2, z3⟩
        · by_cases e : b' = b
          · subst e
            refine ⟨z15.trans ?_, z16⟩
            unfold MM
            rw [hE, if_neg (by decide)]
            rfl
          · exact ⟨(o15 b' e).trans (hp.2.2 b' (by omega)).1, (o16 b' e).trans (hp.2.2 b' (by omega)).2⟩
      obtain ⟨τ'', g, q1, q1', q2, q3⟩ := ih (b + 1) (f - 30 + 10) _ (by omega) (by omega) hp1
      refine ⟨τ'', g, q1, by omega, q2, fun res h => ?_⟩
      rw [show f = (f - 30) + 30 by omega, head, show d + 6 = (d + 5) + 1 from rfl, hen]
      simp only [pu_bind, Bool.false_eq_true, if_false, if_true]
      have := q3 res h
      rw [PR, hE, if_neg (by decide)] at this
      exact this
    | true =>
      rw [hE] at hen
      obtain ⟨-, -, -, m, m3, em, -⟩ := hX.2.2.2.1 b hb'
      have ept : pPt σ b = m := by unfold pPt; rw [em, nI_clamp (by omega)]
      obtain ⟨τ2, t1, t2⟩ := r_judge hI0 hS1 hX hb' em m3 d
      obtain ⟨t11, t12, t13, t14⟩ := t1
      have hp1 : rph σ τ τ2 nb F1 F2 (b + 1) := by
        refine ⟨pr_trans p1 t11, fun b' q hq => ?_, fun b' hb2 => ?_⟩
        · rw [t13 b' q hq]
          by_cases e : b' = b
          · subst e
            by_cases e2 : q < m
            · rw [if_pos ⟨rfl, e2⟩, if_pos ⟨by omega, hE, by omega⟩]
            · rw [if_neg (fun z => e2 z.2), if_neg (fun z => by omega)]
              refine (o14 _).trans ?_
              rw [hp.2.1 b' q hq, if_neg (fun z => by omega)]
          · rw [if_neg (fun z => e z.1)]
            refine (o14 _).trans ?_
            rw [hp.2.1 b' q hq]
            by_cases z : b' < b ∧ pE (σ.1 16) (σ.1 17) b' = true ∧ q < pPt σ b'
            · rw [if_pos z, if_pos ⟨by omega, z.2⟩]
            · rw [if_neg z, if_neg (fun w => z ⟨by omega, w.2⟩)]
        · rw [t14 b', t12]
          by_cases e : b' = b
          · subst e
            rw [if_pos rfl]
            refine ⟨?_, z16⟩
            unfold MM
            rw [hE, if_pos rfl, ept]
          · rw [if_neg e]
            exact ⟨(o15 b' e).trans (hp.2.2 b' (by omega)).1, (o16 b' e).trans (hp.2.2 b' (by omega)).2⟩
      obtain ⟨τ'', g, q1, q1', q2, q3⟩ := ih (b + 1) (f - 30 + 4) _ (by omega) (by omega) hp1
      refine ⟨τ'', g, q1, by omega, q2, fun res h => ?_⟩
      rw [show f = (f - 30) + 30 by omega, head, show d + 6 = (d + 5) + 1 from rfl, hen]
      simp only [pu_bind, if_true, pu_10, if_false]
      rw [show d + 5 + 1 = d + 6 from rfl, t2]
      simp only [pu_bind]
      have := q3 res h
      rw [PR, hE, if_pos rfl, ept] at this
      exact this
