theorem uq_uq {f : Nat → Int32} {j : Nat} {a b : Int32} : uq (uq f j a) j b = uq f j b := by
  funext i
  unfold uq
  split <;> rfl
theorem aC_18 {σ σ1 : mm_S} {nb : Nat} {T W s c h m : Int32} (q : aC σ σ1 nb T W s c h m) (v : Int32) : aC σ (mm_w σ1.1 18 nb v, σ1.2) nb T W s c h v := by
  obtain ⟨q0, qn, q13, q14, q15, q16, q17, q18⟩ := q
  refine ⟨fun k a b => (mm_w_ne (by omega)).trans (q0 k a b), qn, q13, q14, q15, q16, q17, ?_⟩
  show mm_w σ1.1 18 nb v 18 = _
  rw [mm_w_eq, q18]
  exact uq_uq
theorem aC_17 {σ σ1 : mm_S} {nb : Nat} {T W s c h m : Int32} (q : aC σ σ1 nb T W s c h m) (v : Int32) : aC σ (mm_w σ1.1 17 nb v, σ1.2) nb T W s c v m := by
  obtain ⟨q0, qn, q13, q14, q15, q16, q17, q18⟩ := q
  refine ⟨fun k a b => (mm_w_ne (by omega)).trans (q0 k a b), qn, q13, q14, q15, q16, ?_, q18⟩
  show mm_w σ1.1 17 nb v 17 = _
  rw [mm_w_eq, q17]
  exact uq_uq
theorem aC_B {σ σ1 : mm_S} {nb : Nat} {T W s c h m : Int32} (q : aC σ σ1 nb T W s c h m) (hn : nb < 16) : cB σ1 (nb + 1) := ⟨q.2.1, by omega⟩
theorem c_isFull_n {σ : mm_S} {nb : Nat} (hB : cB σ nb) (hn : nb < 16) (d : Nat) : cG (d + 1) 0 [.ref 2] σ = some (0, 0, σ) := by
  rw [c_isFull, hB.1, if_neg (show ¬ (16 : Int32) ≤ nI nb from (nI_ge hn (by decide) : ¬ nI 16 ≤ nI nb))]
theorem c_isFull_y {σ : mm_S} (hB : cB σ 16) (d : Nat) : cG (d + 1) 0 [.ref 2] σ = some (1, 0, σ) := by
  rw [c_isFull, hB.1, if_pos (show (16 : Int32) ≤ nI 16 by decide)]
theorem c_ownType {σ : mm_S} {j : Nat} (hj : j < 32) (d : Nat) : cG (d + 1) 32 [.ref 1, .int (nI j)] σ = some (nI (if σ.1 6 j = 0 then j else j + 992), 0, σ) := by
  have hT := pu_T hj (by decide)
  have hC := pu_cl hj (by decide)
  rw [cp_32_g, pu_and5 (by omega), Nat.mod_eq_of_lt hj]
  simp only [hT, if_true, hC]
  by_cases h : σ.1 6 j = 0
  · rw [if_pos h, if_pos h]
  · rw [if_neg h, if_neg h, show (992 : Int32) = nI 992 by decide, nI_add]
theorem c_setManaged {σ : mm_S} {n j : Nat} (hB : cB σ n) (hj : j < n) (d : Nat) : cG (d + 2) 4 [.ref 2, .int (nI j)] σ = some (0, 0, (mm_w σ.1 18 j 1, σ.2)) := by
  have hn := hB.2
  have hT := pu_T (show j < 16 by omega) (by decide)
  have hC := pu_cl (show j < 16 by omega) (by decide)
  rw [cp_4_g, c_exists_y hB hj]
  simp only [pu_bind, pu_10, if_false, hT, if_true, hC]
theorem pV_own {nc j : Nat} (h1 : 1 ≤ j) (h2 : j ≤ nc) (hn : nc ≤ 13) (b : Prop) [Decidable b] : pV nc 4 (if b then j else j + 992) := by
  split
  · exact ⟨by omega, by omega, Or.inl (by omega)⟩
  · exact ⟨by omega, by omega, Or.inr (Or.inl (by omega))⟩
theorem s_manage : lq_S_manage jR := by
  intro x w s c σ τ hR
  have hR0 := hR
  obtain ⟨nc, nb, U, G, F1, F2, lv, H, N, O, B, ht, h1, h2, h3, h4, h5, h6, h7⟩ := hR
  have hB := h1.2.2.1
  have hI := rI_of h1 h2
  have hn := hB.2
  have hnc := h1.1.2
  by_cases hr : σ.1 0 5 = 0
  · have hr2 : τ.1 0 15 = 0 := by rw [← h7.1]; exact hr
    by_cases hf : nb < 16
    · have hlt : nI nb < (16 : Int32) := (nI_lt hf (by decide) : nI nb < nI 16)
      have hT := pu_T hf (by decide)
      have hC := pu_cl hf (by decide)
      rcases inst_or nc (by omega) x with h | ⟨j, n1, n2, rfl⟩
      · refine ⟨(-1, 0, σ), (-1, 0, τ), ?_, ?_, rfl, hR0⟩
        · rw [show (100 : Nat) = 98 + 1 + 1 from rfl, cp_71_g, if_pos hr, c_isFull_n hB hf]
          simp only [pu_bind, if_true]
          rw [cp_25_g, h1.1.1]
          by_cases h0 : x < 1
          · rw [if_pos h0]; rfl
          · rw [if_neg h0, if_pos (h.resolve_left h0)]; rfl
        · rw [show (100 : Nat) = 98 + 1 + 1 from rfl, rp_7_g, if_pos hr2, hI.2.2.1.1, if_pos hlt, hI.1]
          by_cases h0 : x < 1
          · rw [if_pos h0]
          · rw [if_neg h0, if_pos (h.resolve_left h0)]
      · have hj32 := pu_T (show j < 32 by omega) (by decide)
        have hjC := pu_cl (show j < 32 by omega) (by decide)
        have a1 : ¬ nI j < (1 : Int32) := (nI_nlt n1 (by omega) : ¬ nI j < nI 1)
        have a2 : ¬ nI nc < nI j := nI_nlt n2 (by omega)
        cases hc : pFine w && pTt s c with
        | false =>
          refine ⟨(-1, 0, σ), (-1, 0, τ), ?_, ?_, rfl, hR0⟩
          · rw [show (100 : Nat) = 96 + 3 + 1 from rfl, cp_71_g, if_pos hr, c_isFull_n hB hf]
            simp only [pu_bind, if_true]
            rw [c_isClass h1.1 (by omega)]
            simp only [pu_bind, pb_if, n1, n2, and_self, decide_true, if_true]
            rw [c_traits, hc]
            rfl
          · rw [show (100 : Nat) = 98 + 1 + 1 from rfl, rp_7_g, if_pos hr2, hI.2.2.1.1, if_pos hlt, hI.1, if_neg a1, if_neg a2, r_fine]
            simp only [pu_bind, pb_if, pTt_if]
            cases hp : pFine w with
            | false => rfl
            | true =>
              rw [hp] at hc
              rw [Bool.true_and] at hc
              rw [hc]
              rfl
        | true =>
          rw [Bool.and_eq_true] at hc
          obtain ⟨hp, ht2⟩ := hc
          have hB1 : cB (cA σ nb (nI (if σ.1 6 j = 0 then j else j + 992)) (pW w) s c (-1)) (nb + 1) := aC_B aC_A hf
          refine ⟨(nI nb, 0, (mm_w (cA σ nb (nI (if σ.1 6 j = 0 then j else j + 992)) (pW w) s c (-1)).1 18 nb 1, (cA σ nb (nI (if σ.1 6 j = 0 then j else j + 992)) (pW w) s c (-1)).2)), (nI nb, 0, rA (mm_w τ.1 10 nb 1, τ.2) nb (nI (if σ.1 6 j = 0 then j else j + 992)) (pW w) s c (-1)), ?_, ?_, rfl, ?_⟩
          · rw [show (100 : Nat) = 96 + 3 + 1 from rfl, cp_71_g, if_pos hr, c_isFull_n hB hf]
            simp only [pu_bind, if_true]
            rw [c_isClass h1.1 (by omega)]
            simp only [pu_bind, pb_if, n1, n2, and_self, decide_true, if_true]
            rw [c_traits, hp, ht2]
            simp only [pu_bind, pb_if, Bool.and_self, if_true]
            rw [c_ownType (by omega)]
            simp only [pu_bind]
            rw [show 96 + 3 = 97 + 2 from rfl, c_add hB hf]
            simp only [pu_bind]
            rw [c_setManaged hB1 (by omega)]
            rfl
          · have hB2 : rB ((mm_w τ.1 10 nb 1, τ.2) : mm_S) nb := ⟨hI.2.2.1.1, hn⟩
            have eg : mm_w τ.1 10 nb (1 : Int32) 1 j = σ.1 6 j := by rw [mm_w_off (by decide), ← h2.2.2.1]
            rw [show (100 : Nat) = 98 + 1 + 1 from rfl, rp_7_g, if_pos hr2, hI.2.2.1.1, if_pos hlt, hI.1, if_neg a1, if_neg a2, r_fine, hp]
            simp only [pu_bind, pb_if, pTt_if, ht2, if_true, hI.2.2.1.1, hT, hC, hj32, hjC, eg]
            by_cases hg : σ.1 6 j = 0
            · rw [if_pos hg, if_pos hg, r_enter hB2 hf _ hp]
              rfl
            · rw [if_neg hg, if_neg hg, show (992 : Int32) = nI 992 by decide, nI_add, r_enter hB2 hf _ hp]
              rfl
          · exact jR_add h1 h2 h3 h4 h5 h6 h7 hr hf (aC_18 aC_A 1) aR_A (pV_own n1 n2 hnc _) (pTt_s ht2) (fun _ => rfl) (Or.inl rfl)
    · have e16 : nb = 16 := by omega
      subst e16
      refine ⟨(-2, 0, σ), (-2, 0, τ), ?_, ?_, rfl, hR0⟩
      · rw [show (100 : Nat) = 98 + 1 + 1 from rfl, cp_71_g, if_pos hr, c_isFull_y hB]
        rfl
      · rw [show (100 : Nat) = 98 + 1 + 1 from rfl, rp_7_g, if_pos hr2, hI.2.2.1.1, if_neg (show ¬ nI 16 < (16 : Int32) by decide)]
  · have hr2 : ¬ τ.1 0 15 = 0 := by rw [← h7.1]; exact hr
    refine ⟨(-3, 0, σ), (-3, 0, τ), ?_, ?_, rfl, hR0⟩
    · rw [show (100 : Nat) = 98 + 1 + 1 from rfl, cp_71_g, if_neg hr]
    · rw [show (100 : Nat) = 98 + 1 + 1 from rfl, rp_7_g, if_neg hr2]
