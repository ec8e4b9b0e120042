/-! PURE: the reference's met: its loop -/
theorem pYes_step {S M : Nat → Int64 → Bool} {R : Nat} {t : Int64} (hR : R < 2 ^ 31) : pStep S M R t = (decide (R % 32 = pHd t) && (decide (pYes (lN (R / 32)) (pArg t)) || (!decide (lN (R / 32) = 0 ∨ pArg t = 0) && (if R / 32 % 32 = 29 then S (R / 1024) (pArg t) else M (R / 32) (pArg t))))) := by
  have q2 : (lN (R / 32) = 0) ↔ R / 32 = 0 := pk_lEQ (b := 0) (by omega) (by decide)
  have q3 : (lN (R / 32) = 1) ↔ R / 32 = 1 := pk_lEQ (b := 1) (by omega) (by decide)
  have q4 : (lN (R / 32) = 30) ↔ R / 32 = 30 := pk_lEQ (b := 30) (by omega) (by decide)
  unfold pStep
  simp only [pYes, q2, q3, q4]
  congr 1
  by_cases h2 : R / 32 = 0
  · rw [if_pos h2]
    simp [h2]
  · rw [if_neg h2]
    by_cases a0 : pArg t = 0
    · rw [if_pos a0]
      simp [a0, h2]
    · rw [if_neg a0]
      by_cases h : pArg t = 31 ∨ R / 32 = 30
      · rw [if_pos h]
        simp [h2, a0, h]
      · rw [if_neg h]
        simp [h2, a0, h]
theorem pSup_pAny {F1 F2 lv : Nat → Nat} {ge : Nat → Int32} (hR : pRow F1 F2 lv) (h1 : lv 1 = 0) (a : Nat → Int64) (t : Int64) (q : Int64 → Bool) : pAny (fun i => q ((pSup F1 F2 ge a t).1 i)) (pSup F1 F2 ge a t).2 = (pTr F1 F2 ge q 4 t || q 1) ∧ (pSup F1 F2 ge a t).2 ≤ 16 := by
  obtain ⟨sa, s16⟩ := pSup_any (ge := ge) hR h1 a t q
  exact ⟨by rw [Bool.eq_iff_iff, pAny_iff]; exact sa, s16⟩
theorem pAny_app {p : Nat → Bool} {k : Nat} : ∀ {n : Nat}, pAny p (k + n) = (pAny p k || pAny (fun i => p (k + i)) n)
  | 0 => by rw [Nat.add_zero]; simp [pAny]
  | n + 1 => by rw [← Nat.add_assoc, pAny, pAny_app (n := n), pAny, Bool.or_assoc]
set_option maxHeartbeats 4000000 in
theorem r_met_loop {τ : mm_S} {nc : Nat} {F1 F2 lv : Nat → Nat} (hn : nc ≤ 13) (hR : pRow F1 F2 lv) (h1 : lv 1 = 0) (hC : rR τ F1 F2) (y1 y3 : Int64) (d : Nat) : ∀ (W k : Nat) (N A : Nat → Nat) (a : Nat → Int64) (n : Nat) (ar ab : Nat → Int64) (x f : Nat), pSum (fun j => pwt (N j)) k ≤ W → (∀ j, j < k → N j ≤ 6 ∧ A j < 2 ^ 31 ∧ (pTA nc (τ.1 1) true false (N j)).1 (A j) = true ∧ ar j = lN (A j) ∧ j + pht (N j) ≤ 64) → k ≤ 64 → x + W < 1000000 → 600 * (W + 1) ≤ f →
    ∃ a' n' ar' ab' k', mm_ex sr (rG (d + 2)) 3 rp_17_l f rp_17_r3 [.ref 0, .long y1, .null, .long y3, .null, .int (nI x), .null, .null, .null, .null, .null, .null, .null, .null] [] (rM τ a n ar ab k) = some (pb (pAny (fun j => pMt F1 F2 (τ.1 1) (N j) (A j) (ab j)) k), 0, rM τ a' n' ar' ab' k') := by
  intro W
  induction W with
  | zero =>
    intro k N A a n ar ab x f hs hj hk hx hf
    cases k with
    | zero =>
      refine ⟨a, n, ar, ab, 0, ?_⟩
      rw [show f = (f - 46) + 46 by omega, rp_17_h3, if_neg (show ¬ (1000000 : Int32) ≤ nI x from (nI_ge (by omega) (by decide) : ¬ nI 1000000 ≤ nI x)), rM_k, if_pos (by decide)]
      rfl
    | succ k =>
      rw [pSum] at hs
      have := pwt_pos (N k)
      omega
  | succ W ih =>
    intro k N A a n ar ab x f hs hj hk hx hf
    cases k with
    | zero =>
      refine ⟨a, n, ar, ab, 0, ?_⟩
      rw [show f = (f - 46) + 46 by omega, rp_17_h3, if_neg (show ¬ (1000000 : Int32) ≤ nI x from (nI_ge (by omega) (by decide) : ¬ nI 1000000 ≤ nI x)), rM_k, if_pos (by decide)]
      rfl
    | succ k =>
      obtain ⟨n6, A31, hv, hlN, hht⟩ := hj k (by omega)
      have hsum : pSum (fun j => pwt (N j)) k + pwt (N k) ≤ W + 1 := hs
      have wp := pwt_pos (N k)
      have h64 := pu_T (show k < 64 by omega) (by decide)
      have e64 := pu_cl (show k < 64 by omega) (by decide)
      have hd32 := (pHd_eq (ab k)).2
      have q1 : (lN (A k % 32) = lN (pHd (ab k))) ↔ A k % 32 = pHd (ab k) := pk_lEQ (by omega) (by omega)
      have q5 : (lN (A k / 32 % 32) = 29) ↔ A k / 32 % 32 = 29 := pk_lEQ (b := 29) (by omega) (by decide)
      have eA : lN (A k) >>> (((5 : Int32)).toInt64 &&& 63) = lN (A k / 32) := pf_shr (d := 5) (by decide) (by omega)
      have eA2 : lN (A k / 32) >>> (((5 : Int32)).toInt64 &&& 63) = lN (A k / 1024) := by
        rw [pf_shr (d := 5) (by decide) (by omega), show A k / 32 / 2 ^ 5 = A k / 1024 by omega]
      have eb : ab k >>> (((5 : Int32)).toInt64 &&& 63) = pArg (ab k) := rfl
      have h0 : ¬ (nI (k + 1) ≤ 0) := nI_nle (by omega) (by omega)
      -- the answer in the question's own terms
      obtain ⟨m, hm, -, -, r3⟩ := pTA_ge1 hv
      -- on with what is left
      have cont : ∀ (g : Nat) (v6 v8 v10 v11 v12 v13 : Value), 600 * (W + 1) ≤ g → pMt F1 F2 (τ.1 1) (N k) (A k) (ab k) = false → ∃ a' n' ar' ab' k', mm_ex sr (rG (d + 2)) 3 rp_17_l g rp_17_r3 [.ref 0, .long y1, .null, .long y3, .null, .int (nI x + 1), v6, .null, v8, .null, v10, v11, v12, v13] [] (rM τ a n ar ab k) = some (pb (pAny (fun j => pMt F1 F2 (τ.1 1) (N j) (A j) (ab j)) (k + 1)), 0, rM τ a' n' ar' ab' k') := by
        intro g v6 v8 v10 v11 v12 v13 hg hno
        obtain ⟨a', n', ar', ab', k', h⟩ := ih k N A a n ar ab (x + 1) g (by omega) (fun j hj2 => hj j (by omega)) (by omega) (by omega) hg
        refine ⟨a', n', ar', ab', k', ?_⟩
        rw [pAny, hno, Bool.or_false]
        exact mm_ref _ _ [.ref 0, .long y1, .null, .long y3, .null, .int (nI (x + 1)), .null, .null, .null, .null, .null, .null, .null, .null] _ _ _ (by simp [mm_rf, nI_1]) h
      have main : ∀ xs : Int32, (xs = if A k % 32 = pHd (ab k) then 1 else 0) → ∀ c, c ≤ 1 → ∃ a' n' ar' ab' k', mm_ex sr (rG (d + 2)) 3 rp_17_l (f - 46 + c) rp_17_r5 [.ref 0, .long y1, .null, .long y3, .null, .int (nI x), .long (lN (A k / 32)), .null, .long (pArg (ab k)), .null, .null, .null, .null, .null] [.int xs] (rM τ a n ar ab k) = some (pb (pAny (fun j => pMt F1 F2 (τ.1 1) (N j) (A j) (ab j)) (k + 1)), 0, rM τ a' n' ar' ab' k') := by
        intro xs hxs c hc
        obtain ⟨g, x11, x12, g1, g2, g3, g4⟩ := r_met5 (rM τ a n ar ab k) (d + 2) (f - 46 + c) (by omega) y1 y3 (nI x) (lN (A k / 32)) (pArg (ab k)) xs
        rw [g4]
        by_cases hh : A k % 32 = pHd (ab k)
        · rw [if_pos hh] at hxs
          have xs1 : ¬ xs = 0 := by rw [hxs]; decide
          by_cases hy : pYes (lN (A k / 32)) (pArg (ab k))
          · refine ⟨a, n, ar, ab, k, ?_⟩
            rw [if_pos ⟨xs1, hy⟩, pAny]
            have : pMt F1 F2 (τ.1 1) (N k) (A k) (ab k) = true := by
              rw [hm]
              cases m with
              | zero => rw [pMt, pYes_step A31]; simp only [hh, hy, decide_true, Bool.true_and, Bool.true_or]
              | succ m => rw [pMt, pYes_step A31]; simp only [hh, hy, decide_true, Bool.true_and, Bool.true_or]
            rw [this, Bool.or_true]
            rfl
          · rw [if_neg (fun h => hy h.2), show g = (g - 16) + 16 by omega, rp_17_h13, if_neg xs1]
            by_cases hz : lN (A k / 32) = 0 ∨ pArg (ab k) = 0
            · rw [if_pos (g3.mpr hz)]
              refine cont _ _ _ _ _ _ _ (by omega) ?_
              rw [hm]
              cases m with
              | zero => rw [pMt, pYes_step A31]; simp only [hy, hz, decide_true, decide_false, Bool.false_or, Bool.not_true, Bool.false_and, Bool.and_false]
              | succ m => rw [pMt, pYes_step A31]; simp only [hy, hz, decide_true, decide_false, Bool.false_or, Bool.not_true, Bool.false_and, Bool.and_false]
            · rw [if_neg (fun h => hz (g3.mp h)), pu_land5 (by omega)]
              simp only [pu_cmp, q5]
              have q2 : (lN (A k / 32) = 0) ↔ A k / 32 = 0 := pk_lEQ (b := 0) (by omega) (by decide)
              have r0 : ¬ A k / 32 = 0 := fun h => hz (Or.inl (q2.mpr h))
              obtain ⟨j, hj', harg⟩ := pTA_arg (by omega) (r3.resolve_left r0).2
              subst hj'
              have n30 : ¬ A k / 32 = 30 := fun h => hy (Or.inr (Or.inr ⟨fun z => hz (Or.inl z), fun z => hz (Or.inr z), Or.inr (by rw [h]; rfl)⟩))
              have hMt : pMt F1 F2 (τ.1 1) (N k) (A k) (ab k) = (if A k / 32 % 32 = 29 then (pTr F1 F2 (τ.1 1) (fun u => pMt F1 F2 (τ.1 1) j (A k / 1024) u) 4 (pArg (ab k)) || pMt F1 F2 (τ.1 1) j (A k / 1024) 1) else pMt F1 F2 (τ.1 1) (j + 1) (A k / 32) (pArg (ab k))) := by
                rw [hm, pMt, pYes_step A31]
                simp only [hh, hy, hz, decide_true, decide_false, Bool.true_and, Bool.false_or, Bool.not_false]
              by_cases h29 : A k / 32 % 32 = 29
              · rw [if_pos h29]
                rw [if_pos h29] at hMt
                have h' := (harg.resolve_left n30).resolve_right (fun z => z.1 h29)
                have hvj := h'.2
                rw [show A k / 32 / 32 = A k / 1024 by omega] at hvj
                have hCM : rR (rM τ a n ar ab k) F1 F2 := by
                  intro h hh2
                  rw [rM_o _ _ _ _ _ _ (by decide)]
                  exact hC h hh2
                have hcl := r_climb hR h1 hCM (pArg (ab k)) d
                rw [hcl]
                simp only [Option.bind_some]
                rw [rM_S, rM_o _ _ _ _ _ _ (by decide), rM_a]
                obtain ⟨sa, s16⟩ := pSup_pAny (ge := τ.1 1) hR h1 a (pArg (ab k)) (fun u => pMt F1 F2 (τ.1 1) j (A k / 1024) u)
                generalize pSup F1 F2 (τ.1 1) a (pArg (ab k)) = sp at sa s16
                have hpht : pht (N k) = pht j + 15 := by
                  rw [hm]; unfold pht; omega
                have hp1 : 1 ≤ pht j := by unfold pht; omega
                have hk64 : k + sp.2 ≤ 64 := by omega
                have hg16 : 15 * (sp.2 + 1) ≤ g - 16 + 1 := by omega
                obtain ⟨g', e1, e2, e3⟩ := r_push14 τ sp.1 s16 hk64 ar ab y1 y3 (nI x) (lN (A k / 32)) (pArg (ab k)) xs x11 x12 (d + 1) sp.2 0 (g - 16 + 1) (Nat.zero_add _) hg16
                rw [pAp_0, pAp_0, Nat.add_zero k, nI_0] at e3
                rw [e3, eA2]
                have hw : pwt (N k) = 1 + pwt (j + 1) + 16 * pwt j := by rw [hm]; rfl
                have hS : pSum (fun i => pwt (pAp N k (fun _ => j) sp.2 i)) (k + sp.2) = pSum (fun i => pwt (N i)) k + sp.2 * pwt j := by
                  refine pSum_ap (fun i hi => ?_) (fun i hi hi2 => ?_)
                  · simp only [pAp]; rw [if_neg (by omega)]
                  · simp only [pAp]; rw [if_pos ⟨hi, hi2⟩]
                have hS2 : sp.2 * pwt j ≤ 16 * pwt j := Nat.mul_le_mul_right _ s16
                obtain ⟨a', n', ar', ab', k', h⟩ := ih (k + sp.2) (pAp N k (fun _ => j) sp.2) (pAp A k (fun _ => A k / 1024) sp.2) sp.1 sp.2 (pAp ar k (fun _ => lN (A k / 1024)) sp.2) (pAp ab k sp.1 sp.2) (x + 1) g' (by rw [hS]; have := pwt_pos (j + 1); omega) (by
                  intro i hi
                  simp only [pAp]
                  by_cases hik : k ≤ i ∧ i < k + sp.2
                  · simp only [if_pos hik]
                    exact ⟨by omega, by omega, hvj, trivial, by omega⟩
                  · simp only [if_neg hik]
                    exact hj i (by omega)) (by have : 1 ≤ pht j := (by unfold pht; omega); omega) (by omega) (by omega)
                refine ⟨a', n', ar', ab', k', ?_⟩
                refine mm_ref _ _ [.ref 0, .long y1, .null, .long y3, .null, .int (nI (x + 1)), .null, .null, .null, .null, .null, .null, .null, .null] _ _ _ (by simp [mm_rf, nI_1]) ?_
                rw [h]
                congr 3
                rw [pAny_app, pAny, hMt, ← sa]
                congr 1
                · refine pAny_ext (fun i hi => ?_)
                  simp only [pAp, if_neg (show ¬ (k ≤ i ∧ i < k + sp.2) by omega)]
                · refine pAny_ext (fun i hi => ?_)
                  simp only [pAp, if_pos (show k ≤ k + i ∧ k + i < k + sp.2 by omega), show k + i - k = i by omega]
              · rw [if_neg h29]
                rw [if_neg h29] at hMt
                have h' := (harg.resolve_left n30).resolve_left (fun z => h29 z.1)
                have hpht : pht (j + 1) ≤ pht (N k) := by
                  rw [hm]; unfold pht; omega
                have hw : pwt (N k) = 1 + pwt (j + 1) + 16 * pwt j := by rw [hm]; rfl
                rw [r_ask _ _ _ _ _ (show k < 64 by omega)]
                simp only [Option.bind_some]
                have hS : pSum (fun i => pwt (pAp N k (fun _ => j + 1) 1 i)) (k + 1) = pSum (fun i => pwt (N i)) k + 1 * pwt (j + 1) := by
                  refine pSum_ap (fun i hi => ?_) (fun i hi hi2 => ?_)
                  · simp only [pAp]; rw [if_neg (by omega)]
                  · simp only [pAp]; rw [if_pos ⟨hi, hi2⟩]
                obtain ⟨a', n', ar', ab', k', h⟩ := ih (k + 1) (pAp N k (fun _ => j + 1) 1) (pAp A k (fun _ => A k / 32) 1) a n (pUp ar k (lN (A k / 32))) (pUp ab k (pArg (ab k))) (x + 1) (g - 16 + 0) (by rw [hS]; have := pwt_pos j; omega) (by
                  intro i hi
                  simp only [pAp, pUp]
                  by_cases hik : i = k
                  · subst hik
                    simp only [if_pos (show i ≤ i ∧ i < i + 1 by omega), if_true]
                    exact ⟨by omega, by omega, h'.2, trivial, by omega⟩
                  · simp only [if_neg (show ¬ (k ≤ i ∧ i < k + 1) by omega), if_neg hik]
                    exact hj i (by omega)) (by omega) (by omega) (by omega)
                refine ⟨a', n', ar', ab', k', ?_⟩
                refine mm_ref _ _ [.ref 0, .long y1, .null, .long y3, .null, .int (nI (x + 1)), .null, .null, .null, .null, .null, .null, .null, .null] _ _ _ (by simp [mm_rf, nI_1]) ?_
                rw [h]
                congr 3
                rw [pAny, pAny, hMt]
                congr 1
                · refine pAny_ext (fun i hi => ?_)
                  simp only [pAp, pUp, if_neg (show ¬ (k ≤ i ∧ i < k + 1) by omega), if_neg (show ¬ i = k by omega)]
                · simp only [pAp, pUp, if_pos (show k ≤ k ∧ k < k + 1 by omega), if_true]
        · rw [if_neg hh] at hxs
          rw [if_neg (fun h => h.1 hxs), show g = (g - 16) + 16 by omega, rp_17_h13, if_pos hxs]
          refine cont _ _ _ _ _ _ _ (by omega) ?_
          rw [Bool.eq_false_iff]
          intro h
          exact hh (pMt_hd h)
      rw [show f = (f - 46) + 46 by omega, rp_17_h3, if_neg (show ¬ (1000000 : Int32) ≤ nI x from (nI_ge (by omega) (by decide) : ¬ nI 1000000 ≤ nI x)), rM_k, if_neg h0, pu_n1, mm_w_at, rM_r, rM_b, rM_pop]
      simp only [h64, if_true, e64, hlN, eA, eb, pu_and31 (ab k), pu_land5 (show A k < 2 ^ 64 by omega), pu_cmp, q1]
      by_cases hh : A k % 32 = pHd (ab k)
      · rw [if_pos hh]
        exact main 1 (by rw [if_pos hh]) 0 (by omega)
      · rw [if_neg hh]
        exact main 0 (by rw [if_neg hh]) 1 (by omega)
theorem r_met {τ : mm_S} {nc : Nat} {F1 F2 lv : Nat → Nat} (hn : nc ≤ 13) (hR : pRow F1 F2 lv) (h1 : lv 1 = 0) (hC : rR τ F1 F2) {R : Nat} (h31 : R < 2 ^ 31) (hv : (pTA nc (τ.1 1) true false 6).1 R = true) (t : Int64) (d : Nat) : ∃ a n ar ab k, rG (d + 3) 17 [.ref 0, .long (lN R), .long t] τ = some (pb (pSm F1 F2 (τ.1 1) 6 R t), 0, rM τ a n ar ab k) := by
  have hC' : rR ((mm_w τ.1 0 23 (0 : Int32), τ.2) : mm_S) F1 F2 := by
    intro h hh
    have : (mm_w τ.1 0 23 (0 : Int32)) 4 = τ.1 4 := mm_w_ne (by decide)
    show mm_w τ.1 0 23 (0 : Int32) 4 _ = _ ∧ mm_w τ.1 0 23 (0 : Int32) 4 _ = _
    rw [this]
    exact hC h hh
  have e6 : mm_w τ.1 0 23 (0 : Int32) 1 = τ.1 1 := mm_w_ne (by decide)
  have hcl := r_climb hR h1 hC' t d
  rw [rp_17_g, hcl]
  simp only [Option.bind_some]
  rw [e6]
  obtain ⟨sa, s16⟩ := pSup_pAny (ge := τ.1 1) hR h1 (τ.2 17) t (pMt F1 F2 (τ.1 1) 6 R)
  generalize pSup F1 F2 (τ.1 1) (τ.2 17) t = sp at sa s16
  have eM : rS ((mm_w τ.1 0 23 (0 : Int32), τ.2) : mm_S) sp.1 sp.2 = rM τ sp.1 sp.2 (τ.2 18) (τ.2 19) 0 := by
    refine Prod.ext ?_ ?_
    · show mm_w (mm_w τ.1 0 23 (0 : Int32)) 0 20 (nI sp.2) = mm_w (mm_w τ.1 0 20 (nI sp.2)) 0 23 (nI 0)
      rw [mm_w_comm (by decide)]
      rfl
    · funext c
      show (if c = 17 then sp.1 else τ.2 c) = (if c = 17 then sp.1 else if c = 18 then τ.2 18 else if c = 19 then τ.2 19 else τ.2 c)
      by_cases h : c = 17
      · rw [if_pos h, if_pos h]
      · rw [if_neg h, if_neg h]
        by_cases h2 : c = 18
        · rw [if_pos h2, h2]
        · rw [if_neg h2]
          by_cases h3 : c = 19
          · rw [if_pos h3, h3]
          · rw [if_neg h3]
  rw [eM]
  obtain ⟨g, e1, e2, e3⟩ := r_push1 τ sp.1 s16 (τ.2 18) (τ.2 19) (lN R) t (d + 1) sp.2 0 (99999992 + 0) (by omega) (by omega)
  rw [pAp_0, pAp_0, Nat.add_zero, nI_0] at e3
  rw [e3, Nat.zero_add]
  have w6 : pwt 6 = 6070 := by decide
  have hS : pSum (fun i => pwt ((fun _ => 6) i)) (0 + sp.2) = pSum (fun _ => pwt 6) 0 + sp.2 * pwt 6 := pSum_ap (fun i hi => absurd hi (Nat.not_lt_zero _)) (fun i _ _ => rfl)
  rw [Nat.zero_add] at hS
  have hS2 : sp.2 * pwt 6 ≤ 16 * pwt 6 := Nat.mul_le_mul_right _ s16
  obtain ⟨a', n', ar', ab', k', h⟩ := r_met_loop hn hR h1 hC (lN R) t d 97120 sp.2 (fun _ => 6) (fun _ => R) sp.1 sp.2 (pAp (τ.2 18) 0 (fun _ => lN R) sp.2) (pAp (τ.2 19) 0 sp.1 sp.2) 0 g (by rw [hS]; show 0 + sp.2 * pwt 6 ≤ 97120; omega) (by
    intro i hi
    refine ⟨by omega, h31, hv, ?_, ?_⟩
    · simp only [pAp]; rw [if_pos (by omega)]
    · have : pht 6 = 46 := by decide
      omega) (by omega) (by omega) (by omega)
  rw [nI_0] at h
  refine ⟨a', n', ar', ab', k', ?_⟩
  rw [h]
  congr 3
  unfold pSm
  rw [← sa]
  refine pAny_ext (fun i hi => ?_)
  simp only [pAp]
  rw [if_pos (by omega)]
  rfl
