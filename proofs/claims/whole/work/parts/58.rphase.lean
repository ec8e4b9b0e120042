/-! deploy, the reference: the same of each bean -/
def pr (τ τ' : mm_S) : Prop := (∀ k, k ≠ 0 → (k < 14 ∨ 16 < k) → τ'.1 k = τ.1 k) ∧ (∀ j, j ≠ 20 → j ≠ 23 → τ'.1 0 j = τ.1 0 j)
theorem pr_refl (τ : mm_S) : pr τ τ := ⟨fun _ _ _ => rfl, fun _ _ _ => rfl⟩
theorem pr_trans {a b c : mm_S} (h : pr a b) (h' : pr b c) : pr a c := ⟨fun k x y => (h'.1 k x y).trans (h.1 k x y), fun j x y => (h'.2 j x y).trans (h.2 j x y)⟩
theorem pr_w (τ : mm_S) {c j : Nat} (v : Int32) (h1 : 14 ≤ c) (h2 : c ≤ 16) : pr τ (mm_w τ.1 c j v, τ.2) := ⟨fun k a b => mm_w_ne (by omega), fun i _ _ => by
  show mm_w τ.1 c j v 0 i = τ.1 0 i
  rw [mm_w_off (by omega)]⟩
theorem pr_eq {τ τ' : mm_S} (h : rEq τ τ') : pr τ τ' := ⟨fun k a _ => h.1 k a, fun j a b => h.2 j a b⟩
theorem pr_I {τ τ' : mm_S} {nc nb : Nat} {F1 F2 lv : Nat → Nat} (h : pr τ τ') (hI : rI τ nc nb F1 F2 lv) : rI τ' nc nb F1 F2 lv := by
  obtain ⟨h1, h2⟩ := h
  obtain ⟨i1, i2, i3, i4, i5, i6, i7, i8, i9⟩ := hI
  refine ⟨by rw [h2 0 (by decide) (by decide)]; exact i1, i2, ⟨by rw [h2 5 (by decide) (by decide)]; exact i3.1, i3.2⟩, i4, i5, ?_, by rw [h1 1 (by decide) (by decide)]; exact i7, ?_, ?_⟩
  · intro h hh; rw [h1 4 (by decide) (by decide)]; exact i6 h hh
  · intro j hj; rw [h1 9 (by decide) (by decide)]; exact i8 j hj
  · intro j hj; rw [h1 5 (by decide) (by decide)]; exact i9 j hj
/-- the target rows of bean b up to p, its needs, all else as before -/
def rq (τ τ' : mm_S) (b : Nat) (v : Nat → Int32) (p : Nat) (M : Nat) : Prop := pr τ τ' ∧ τ'.1 16 = τ.1 16 ∧ (∀ b' q, q < 3 → τ'.1 14 (3 * b' + q) = if b' = b ∧ q < p then v q else τ.1 14 (3 * b' + q)) ∧ (∀ b', τ'.1 15 b' = if b' = b then nI M else τ.1 15 b')
set_option maxHeartbeats 2000000 in
theorem r_judge_loop {σ τ : mm_S} {nc nb : Nat} {F1 F2 lv H : Nat → Nat} (hI0 : cI σ nc nb F1 F2 lv H) (hS : sT σ τ) (hX : jX σ nc nb F1 F2 lv) {b m : Nat} (hb : b < nb) (em : σ.1 19 b = nI m) (hm : m ≤ 3) (o : Int32) (d : Nat) : ∀ (r p f : Nat) (τ' : mm_S), p + r = m → 100 * (r + 1) ≤ f → rq τ τ' b (vT σ nb F1 F2 b) p (nMf (vT σ nb F1 F2 b) (σ.1 15) (σ.1 17 b) p) → ∃ τ'', rq τ τ'' b (vT σ nb F1 F2 b) m (nMf (vT σ nb F1 F2 b) (σ.1 15) (σ.1 17 b) m) ∧ mm_ex sr (rG (d + 5)) 1 rp_28_l f rp_28_r5 [.ref 0, .int (nI b), .int (o ||| jPb (eP σ nb F1 F2 b) p), .int (nI (3 * b + p)), .null] [] τ' = some (o ||| jPb (eP σ nb F1 F2 b) m, 0, τ'') := by
  have hI := rI_of hI0 hS
  have hn := hI.2.2.1.2
  obtain ⟨s1, s2, s3, s4, s5, s6, s7, s8, s9, s10, s11, s12, s13, s14⟩ := hS
  have e3 : (3 : Int32) * nI b = nI (3 * b) := by rw [show (3 : Int32) = nI 3 by decide, pk_mul]
  intro r
  induction r with
  | zero =>
    intro p f τ' hp hf hq
    have e : p = m := by omega
    subst e
    obtain ⟨q1, q2, q3, q4⟩ := hq
    have hT := pu_T (show b < 16 by omega) (by decide)
    have hC := pu_cl (show b < 16 by omega) (by decide)
    refine ⟨τ', ⟨q1, q2, q3, q4⟩, ?_⟩
    rw [show f = (f - 35) + 35 by omega, rp_28_h5]
    simp only [hT, hC, if_true, q1.1 11 (by decide) (by decide), ← s13, em, e3, nI_add]
    rw [if_pos (nI_le (Nat.le_refl _) (by omega))]
  | succ r ih =>
    intro p f τ' hp hf hq
    obtain ⟨q1, q2, q3, q4⟩ := hq
    have hp3 : p < 3 := by omega
    have hI' := pr_I q1 hI
    have hT := pu_T (show b < 16 by omega) (by decide)
    have hC := pu_cl (show b < 16 by omega) (by decide)
    have hT2 := pu_T (show 3 * b + p < 48 by omega) (by decide)
    have hC2 := pu_cl (show 3 * b + p < 48 by omega) (by decide)
    obtain ⟨-, -, -, m', m3, e5, e6⟩ := hX.2.2.2.1 b hb
    have : m' = m := (nI_eq (by omega) (by omega)).1 (e5.symm.trans em)
    subst this
    obtain ⟨R, R31, eR, hv⟩ := e6 p (by omega)
    have e12 : τ'.1 12 (3 * b + p) = nI R := by rw [q1.1 12 (by decide) (by decide), ← (s14 b p hp3).1]; exact eR
    have e13 : τ'.1 13 (3 * b + p) = σ.1 (25 + p) b := by rw [q1.1 13 (by decide) (by decide), ← (s14 b p hp3).2]
    have hv' : (pTA nc (τ'.1 1) true false 6).1 R = true := by rw [q1.1 1 (by decide) (by decide), ← s3]; exact hv
    obtain ⟨τ2, w1, w2⟩ := r_pick hI' R31 hv' (σ.1 (25 + p) b) d
    have ev : pFd (pCd1 F1 F2 (τ'.1 1) (τ'.1 5) (τ'.1 6) (τ'.1 8) (τ'.1 9) R (σ.1 (25 + p) b)) (pRk (τ'.1 8) (τ'.1 9)) nb = vT σ nb F1 F2 b p := by
      unfold vT
      rw [q1.1 1 (by decide) (by decide), q1.1 5 (by decide) (by decide), q1.1 6 (by decide) (by decide), q1.1 8 (by decide) (by decide), q1.1 9 (by decide) (by decide), ← s3, ← s7, ← s8, ← s10, ← s11, eR, nI_clamp R31]
    rw [ev] at w2
    have lt : nMf (vT σ nb F1 F2 b) (σ.1 15) (σ.1 17 b) p < 2 ^ nb := nMf_lt hn (hI0.2.2.2.2.2.2.2.2.2.1 b hb) (fun q _ => vT_neg)
    have l16 : 2 ^ nb ≤ 2 ^ 16 := Nat.pow_le_pow_right (by decide) hn
    -- the state with the target written
    have k1 : ∀ k, k ≠ 0 → k ≠ 14 → τ2.1 k = τ'.1 k := fun k a _ => w1.1 k a
    have rq1 : ∀ M', (∀ b', τ2.1 15 b' = τ'.1 15 b') → (M' = nMf (vT σ nb F1 F2 b) (σ.1 15) (σ.1 17 b) p) → rq τ (mm_w τ2.1 14 (3 * b + p) (vT σ nb F1 F2 b p), τ2.2) b (vT σ nb F1 F2 b) (p + 1) M' := by
      intro M' h15 hM
      subst hM
      refine ⟨pr_trans q1 (pr_trans (pr_eq w1) (pr_w τ2 _ (by decide) (by decide))), ?_, fun b' q hq3 => ?_, fun b' => ?_⟩
      · show mm_w τ2.1 14 (3 * b + p) (vT σ nb F1 F2 b p) 16 = τ.1 16
        rw [mm_w_ne (by decide), k1 16 (by decide) (by decide), q2]
      · show mm_w τ2.1 14 (3 * b + p) (vT σ nb F1 F2 b p) 14 (3 * b' + q) = _
        by_cases e : b' = b ∧ q = p
        · obtain ⟨rfl, rfl⟩ := e
          rw [mm_w_at, if_pos ⟨rfl, by omega⟩]
        · rw [mm_w_at2 (by omega), w1.1 14 (by decide), q3 b' q hq3]
          by_cases z : b' = b ∧ q < p
          · rw [if_pos z, if_pos ⟨z.1, by omega⟩]
          · rw [if_neg z, if_neg (fun w => z ⟨w.1, by omega⟩)]
      · show mm_w τ2.1 14 (3 * b + p) (vT σ nb F1 F2 b p) 15 b' = _
        rw [mm_w_off (by decide), h15 b', q4 b']
    have h15 : ∀ b', τ2.1 15 b' = τ'.1 15 b' := fun b' => by rw [w1.1 15 (by decide)]
    have head : ∀ n, mm_ex sr (rG (d + 5)) 1 rp_28_l (n + 35) rp_28_r5 [.ref 0, .int (nI b), .int (o ||| jPb (eP σ nb F1 F2 b) p), .int (nI (3 * b + p)), .null] [] τ' = (if vT σ nb F1 F2 b p = (-4 : Int32) then (mm_ex sr (rG (d + 5)) 1 rp_28_l (n + 3) rp_28_r8 [.ref 0, .int (nI b), .int (o ||| jPb (eP σ nb F1 F2 b) p), .int (nI (3 * b + p)), .int (vT σ nb F1 F2 b p)] [.int (2 : Int32), .int (o ||| jPb (eP σ nb F1 F2 b) p)] (mm_w τ2.1 14 (3 * b + p) (vT σ nb F1 F2 b p), τ2.2)) else (if vT σ nb F1 F2 b p = (-5 : Int32) then (mm_ex sr (rG (d + 5)) 1 rp_28_l (n + 0) rp_28_r8 [.ref 0, .int (nI b), .int (o ||| jPb (eP σ nb F1 F2 b) p), .int (nI (3 * b + p)), .int (vT σ nb F1 F2 b p)] [.int (4 : Int32), .int (o ||| jPb (eP σ nb F1 F2 b) p)] (mm_w τ2.1 14 (3 * b + p) (vT σ nb F1 F2 b p), τ2.2)) else (mm_ex sr (rG (d + 5)) 1 rp_28_l (n + 1) rp_28_r8 [.ref 0, .int (nI b), .int (o ||| jPb (eP σ nb F1 F2 b) p), .int (nI (3 * b + p)), .int (vT σ nb F1 F2 b p)] [.int (0 : Int32), .int (o ||| jPb (eP σ nb F1 F2 b) p)] (mm_w τ2.1 14 (3 * b + p) (vT σ nb F1 F2 b p), τ2.2)))) := by
      intro n
      rw [rp_28_h5]
      simp only [hT, hC, if_true, q1.1 11 (by decide) (by decide), ← s13, em, e3, nI_add]
      rw [if_neg (nI_ge (show 3 * b + p < 3 * b + m' by omega) (by omega))]
      simp only [hT2, hC2, if_true, e12, e13]
      rw [w2]
      simp only [pu_bind]
    have go : ∀ (c : Nat) (z : Int32) (τ3 : mm_S), 100 * (r + 1) ≤ c → z = o ||| jPb (eP σ nb F1 F2 b) (p + 1) → rq τ τ3 b (vT σ nb F1 F2 b) (p + 1) (nMf (vT σ nb F1 F2 b) (σ.1 15) (σ.1 17 b) (p + 1)) → ∃ τ'', rq τ τ'' b (vT σ nb F1 F2 b) m' (nMf (vT σ nb F1 F2 b) (σ.1 15) (σ.1 17 b) m') ∧ mm_ex sr (rG (d + 5)) 1 rp_28_l c rp_28_r5 [.ref 0, .int (nI b), .int z, .int (nI (3 * b + p + 1)), .int (vT σ nb F1 F2 b p)] [] τ3 = some (o ||| jPb (eP σ nb F1 F2 b) m', 0, τ'') := by
      intro c z τ3 hc hz h3
      obtain ⟨τ'', y1, y2⟩ := ih (p + 1) c τ3 (by omega) hc h3
      exact ⟨τ'', y1, mm_ref _ _ [.ref 0, .int (nI b), .int (o ||| jPb (eP σ nb F1 F2 b) (p + 1)), .int (nI (3 * b + (p + 1))), .null] _ _ _ (by simp [mm_rf, hz, show 3 * b + p + 1 = 3 * b + (p + 1) by omega]) y2⟩
    by_cases h4 : vT σ nb F1 F2 b p = -4
    · have hneg : vT σ nb F1 F2 b p < 0 := by rw [h4]; decide
      obtain ⟨τ'', y1, y2⟩ := go (f - 35 + 3 - 23 + 19 - 21 + 17) (o ||| jPb (eP σ nb F1 F2 b) p ||| 2) _ (by omega) (by rw [jPb, ← Int32.or_assoc]; unfold eP; rw [if_pos h4]) (rq1 _ h15 (by rw [nMf, if_pos (Or.inl hneg)]))
      refine ⟨τ'', y1, ?_⟩
      rw [show f = (f - 35) + 35 by omega, head, if_pos h4, show f - 35 + 3 = (f - 35 + 3 - 23) + 23 by omega, rp_28_h8, if_pos hneg, show f - 35 + 3 - 23 + 19 = (f - 35 + 3 - 23 + 19 - 21) + 21 by omega, rp_28_h9, if_pos hneg, nI_1]
      exact y2
    · by_cases h5 : vT σ nb F1 F2 b p = -5
      · have hneg : vT σ nb F1 F2 b p < 0 := by rw [h5]; decide
        obtain ⟨τ'', y1, y2⟩ := go (f - 35 + 0 - 23 + 19 - 21 + 17) (o ||| jPb (eP σ nb F1 F2 b) p ||| 4) _ (by omega) (by rw [jPb, ← Int32.or_assoc]; unfold eP; rw [if_neg h4, if_pos h5]) (rq1 _ h15 (by rw [nMf, if_pos (Or.inl hneg)]))
        refine ⟨τ'', y1, ?_⟩
        rw [show f = (f - 35) + 35 by omega, head, if_neg h4, if_pos h5, show f - 35 + 0 = (f - 35 + 0 - 23) + 23 by omega, rp_28_h8, if_pos hneg, show f - 35 + 0 - 23 + 19 = (f - 35 + 0 - 23 + 19 - 21) + 21 by omega, rp_28_h9, if_pos hneg, nI_1]
        exact y2
      · obtain ⟨y, hy, ey, -⟩ := ((vT_or σ nb F1 F2 b p).resolve_left h4).resolve_left h5
        have ce : (vT σ nb F1 F2 b p).toNatClampNeg = y := by rw [ey, nI_clamp (by omega)]
        have hnn : ¬ nI y < 0 := nI_pos (by omega)
        have hTy := pu_T (show y < 16 by omega) (by decide)
        have hCy := pu_cl (show y < 16 by omega) (by decide)
        have c7 : ∀ v, mm_w τ2.1 14 (3 * b + p) v 7 = σ.1 15 := fun v => by rw [mm_w_ne (by decide), w1.1 7 (by decide), q1.1 7 (by decide) (by decide), s9]
        have c12 : ∀ v, mm_w τ2.1 14 (3 * b + p) v 12 (3 * b + p) = nI R := fun v => by rw [mm_w_off (by decide), w1.1 12 (by decide)]; exact e12
        have c2 : ∀ v, mm_w τ2.1 14 (3 * b + p) v 2 = σ.1 7 := fun v => by rw [mm_w_ne (by decide), w1.1 2 (by decide), q1.1 2 (by decide) (by decide), s4]
        have hTR := pu_T (show R % 32 < 32 by omega) (by decide)
        have hCR := pu_cl (show R % 32 < 32 by omega) (by decide)
        by_cases hs : σ.1 15 y = 0
        · -- dependent: the need is noted
          have c15 : mm_w τ2.1 14 (3 * b + p) (nI y) 15 b = nI (nMf (vT σ nb F1 F2 b) (σ.1 15) (σ.1 17 b) p) := by rw [mm_w_off (by decide), h15, q4 b, if_pos rfl]
          have eM : nMf (vT σ nb F1 F2 b) (σ.1 15) (σ.1 17 b) (p + 1) = nMf (vT σ nb F1 F2 b) (σ.1 15) (σ.1 17 b) p ||| 2 ^ y := by
            rw [nMf, ce, if_neg (by rw [ey]; exact fun q => q.elim hnn (fun z => z hs))]
          have hr3 : rq τ (mm_w (mm_w τ2.1 14 (3 * b + p) (nI y)) 15 b (nI (nMf (vT σ nb F1 F2 b) (σ.1 15) (σ.1 17 b) (p + 1))), τ2.2) b (vT σ nb F1 F2 b) (p + 1) (nMf (vT σ nb F1 F2 b) (σ.1 15) (σ.1 17 b) (p + 1)) := by
            obtain ⟨g1, g2, g3, g4⟩ := rq1 _ h15 rfl
            rw [ey] at g1 g2 g3 g4
            refine ⟨pr_trans g1 (pr_w (mm_w τ2.1 14 (3 * b + p) (nI y), τ2.2) _ (by decide) (by decide)), ?_, fun b' q hq3 => ?_, fun b' => ?_⟩
            · show mm_w (mm_w τ2.1 14 (3 * b + p) (nI y)) 15 b (nI (nMf (vT σ nb F1 F2 b) (σ.1 15) (σ.1 17 b) (p + 1))) 16 = _
              rw [mm_w_ne (by decide)]; exact g2
            · show mm_w (mm_w τ2.1 14 (3 * b + p) (nI y)) 15 b (nI (nMf (vT σ nb F1 F2 b) (σ.1 15) (σ.1 17 b) (p + 1))) 14 (3 * b' + q) = _
              rw [mm_w_off (by decide)]; exact g3 b' q hq3
            · show mm_w (mm_w τ2.1 14 (3 * b + p) (nI y)) 15 b (nI (nMf (vT σ nb F1 F2 b) (σ.1 15) (σ.1 17 b) (p + 1))) 15 b' = _
              by_cases e : b' = b
              · subst e; rw [mm_w_at, if_pos rfl]
              · rw [mm_w_at2 e, if_neg e]
                have := g4 b'
                rw [if_neg e] at this
                exact this
          obtain ⟨τ'', y1, y2⟩ := go (f - 35 + 1 - 23 + 14 - 21 + 0) (o ||| jPb (eP σ nb F1 F2 b) p ||| 0) _ (by omega) (by rw [jPb, ← Int32.or_assoc]; unfold eP; rw [if_neg h4, if_neg h5, ce, if_pos hs]) hr3
          refine ⟨τ'', y1, ?_⟩
          rw [show f = (f - 35) + 35 by omega, head, if_neg h4, if_neg h5, show f - 35 + 1 = (f - 35 + 1 - 23) + 23 by omega, rp_28_h8, ey, if_neg hnn]
          simp only [hTy, hCy, if_true, c7, hs]
          rw [show f - 35 + 1 - 23 + 14 = (f - 35 + 1 - 23 + 14 - 21) + 21 by omega, rp_28_h9, if_neg hnn]
          simp only [hTy, hCy, if_true, c7, hs, hT, hC, c15, nI_1]
          rw [pu_1shl (show y < 16 by omega), nI_or (by omega) (by have : 2 ^ y ≤ 2 ^ 16 := Nat.pow_le_pow_right (by decide) (by omega); omega), ← eM]
          rw [ey] at y2
          exact y2
        · have eM : nMf (vT σ nb F1 F2 b) (σ.1 15) (σ.1 17 b) (p + 1) = nMf (vT σ nb F1 F2 b) (σ.1 15) (σ.1 17 b) p := by
            rw [nMf, ce, if_pos (Or.inr hs)]
          have hr3 := rq1 _ h15 eM
          by_cases h7 : σ.1 7 (R % 32) = 0
          · obtain ⟨τ'', y1, y2⟩ := go (f - 35 + 1 - 23 + 4 - 21 + 12) (o ||| jPb (eP σ nb F1 F2 b) p ||| 0) _ (by omega) (by rw [jPb, ← Int32.or_assoc]; unfold eP; rw [if_neg h4, if_neg h5, ce, if_neg hs, eR, nI_clamp R31, if_pos h7]) hr3
            refine ⟨τ'', y1, ?_⟩
            rw [show f = (f - 35) + 35 by omega, head, if_neg h4, if_neg h5, show f - 35 + 1 = (f - 35 + 1 - 23) + 23 by omega, rp_28_h8, ey, if_neg hnn]
            simp only [hTy, hCy, if_true, c7, hs, if_false, hT2, hC2, c12, pu_and5 R31, hTR, hCR, c2, h7]
            rw [show f - 35 + 1 - 23 + 4 = (f - 35 + 1 - 23 + 4 - 21) + 21 by omega, rp_28_h9, if_neg hnn]
            simp only [hTy, hCy, if_true, c7, hs, if_false, nI_1]
            rw [ey] at y2
            exact y2
          · obtain ⟨τ'', y1, y2⟩ := go (f - 35 + 1 - 23 + 0 - 21 + 12) (o ||| jPb (eP σ nb F1 F2 b) p ||| 0 ||| 8) _ (by omega) (by rw [jPb, ← Int32.or_assoc, i_or0]; unfold eP; rw [if_neg h4, if_neg h5, ce, if_neg hs, eR, nI_clamp R31, if_neg h7]) hr3
            refine ⟨τ'', y1, ?_⟩
            rw [show f = (f - 35) + 35 by omega, head, if_neg h4, if_neg h5, show f - 35 + 1 = (f - 35 + 1 - 23) + 23 by omega, rp_28_h8, ey, if_neg hnn]
            simp only [hTy, hCy, if_true, c7, hs, if_false, hT2, hC2, c12, pu_and5 R31, hTR, hCR, c2, h7]
            rw [show f - 35 + 1 - 23 + 0 = (f - 35 + 1 - 23 + 0 - 21) + 21 by omega, rp_28_h9, if_neg hnn]
            simp only [hTy, hCy, if_true, c7, hs, if_false, nI_1]
            rw [ey] at y2
            exact y2
