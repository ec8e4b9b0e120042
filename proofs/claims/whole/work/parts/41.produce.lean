theorem pTA_V {nc : Nat} {g : Nat → Int32} {v : Bool} : ∀ k, (∀ c, (pTA nc g false v k).1 c = true → pV nc k c) ∧ (∀ a, (pTA nc g false v k).2 a = true → a = 31 ∨ pV nc k a)
  | 0 => ⟨fun c h => by simp [pTA] at h, fun a h => by simp [pTA] at h⟩
  | k + 1 => by
    have ih := pTA_V (nc := nc) (g := g) (v := v) k
    have h1 : ∀ c, (pTA nc g false v (k + 1)).1 c = true → pV nc (k + 1) c := by
      intro c h
      obtain ⟨m, e, a1, a2, a3⟩ := pTA_ge1 h
      have : m = k := by omega
      subst this
      refine ⟨a1, a2, ?_⟩
      rcases a3 with a3 | ⟨-, a3⟩
      · exact Or.inl a3
      · exact Or.inr (ih.2 _ a3)
    refine ⟨h1, fun a h => ?_⟩
    by_cases h31 : a % 32 = 31
    · left
      simp only [pTA, if_pos h31, Bool.and_eq_true, decide_eq_true_eq] at h
      exact h.2
    · right
      apply h1
      simp only [pTA, if_neg h31] at h ⊢
      by_cases h30 : a % 32 = 30
      · rw [if_pos h30] at h
        simp at h
      · rw [if_neg h30] at h
        by_cases h29 : a % 32 = 29
        · rw [if_pos h29] at h
          simp at h
        · rw [if_neg h29] at h
          exact h
theorem pCode_some' {nc : Nat} {g : Nat → Int32} {w v : Bool} {k : Nat} {x : Int32} (h : pCode nc g w v k x = true) : ∃ R, R < 2 ^ 31 ∧ 0 < R ∧ x = nI R ∧ (pTA nc g w v k).1 R = true := by
  obtain ⟨R, a, e, b⟩ := pCode_some h
  refine ⟨R, a, ?_, e, b⟩
  subst e
  unfold pCode at h
  rw [Bool.and_eq_true, Bool.not_eq_true', decide_eq_false_iff_not] at h
  rcases Nat.eq_zero_or_pos R with rfl | h0
  · exact absurd (show nI 0 ≤ 0 by decide) h.1
  · exact h0
theorem c_isProduct {σ : mm_S} {nc : Nat} (hK : cK σ nc) (x : Int32) (d : Nat) : cG (d + 10) 28 [.ref 1, .int x] σ = some (pb (pCode nc (σ.1 6) false true 4 x), 0, σ) := by
  have h := c_isTypeCode hK false true (k := 4) (by decide) x d
  rw [show nI 4 = (4 : Int32) by decide, pb_t, pb_f] at h
  rw [cp_28_g, h]
  simp only [Option.bind_some]
  rw [if_pos (pb_01 _)]
theorem r_product {τ : mm_S} {nc : Nat} (hK : rK τ nc) (x : Int32) (d : Nat) : rG (d + 1) 0 [.ref 0, .int x, .int (4 : Int32), .int (0 : Int32), .int (1 : Int32)] τ = some (pb (pCode nc (τ.1 1) false true 4 x), 0, τ) := by
  have h := r_written hK false true (k := 4) (by decide) x d
  rw [show nI 4 = (4 : Int32) by decide, pb_t, pb_f] at h
  exact h
theorem c_setHome_n {σ : mm_S} {n j : Nat} (hB : cB σ n) (hj : j < n) (d : Nat) : cG (d + 3) 5 [.ref 2, .int (nI j), .int (-1)] σ = some (0, 0, σ) := by
  rw [cp_5_g, c_exists_y hB hj]
  simp only [pu_bind, pu_10, if_false]
  rw [c_mayBeHome_n (Or.inl (by decide))]
  rfl
theorem c_setHome {σ : mm_S} {n j k : Nat} (hB : cB σ n) (hj : j < n) (hk : k < n) (hm : ¬ σ.1 18 k = 0) (hs : σ.1 15 k = 0) (d : Nat) : cG (d + 3) 5 [.ref 2, .int (nI j), .int (nI k)] σ = some (0, 0, (mm_w σ.1 17 j (nI k), σ.2)) := by
  have hn := hB.2
  have hT := pu_T (show j < 16 by omega) (by decide)
  have hC := pu_cl (show j < 16 by omega) (by decide)
  rw [cp_5_g, c_exists_y hB hj]
  simp only [pu_bind, pu_10, if_false]
  rw [c_mayBeHome hB hk, if_neg hm, if_pos hs]
  simp only [pu_bind, pu_10, if_false, hT, if_true, hC]
theorem m1_of {x : Int32} (h : x < 0) (h' : ¬ x < -1) : x = -1 := by
  rw [Int32.lt_iff_toInt_lt] at h h'
  apply Int32.toInt_inj.1
  have e1 : (0 : Int32).toInt = 0 := by decide
  have e2 : (-1 : Int32).toInt = -1 := by decide
  omega
set_option maxHeartbeats 1000000 in
theorem s_produce : lq_S_produce jR := by
  intro x y w s c σ τ hR
  have hR0 := hR
  obtain ⟨nc, nb, U, G, F1, F2, lv, H, N, O, B, ht, h1, h2, h3, h4, h5, h6, h7⟩ := hR
  have hB := h1.2.2.1
  have hI := rI_of h1 h2
  have hn := hB.2
  have hnc := h1.1.2
  have eg : τ.1 1 = σ.1 6 := h2.2.2.1.symm
  have em : τ.1 10 = σ.1 18 := h2.2.2.2.2.2.2.2.2.2.2.2.1.symm
  have es : τ.1 7 = σ.1 15 := h2.2.2.2.2.2.2.2.2.1.symm
  by_cases hr : σ.1 0 5 = 0
  · have hr2 : τ.1 0 15 = 0 := by rw [← h7.1]; exact hr
    by_cases hf : nb < 16
    · have hlt : nI nb < (16 : Int32) := (nI_lt hf (by decide) : nI nb < nI 16)
      have hT := pu_T hf (by decide)
      have hC := pu_cl hf (by decide)
      have hB2 : rB ((mm_w τ.1 10 nb 0, τ.2) : mm_S) nb := ⟨hI.2.2.1.1, hn⟩
      cases hp : pCode nc (σ.1 6) false true 4 y && (pFine w && pTt s c) with
      | false =>
        have tail : ∀ (n : Nat) (x0 : Int32), mm_ex sc (cG 99) 1 cp_72_l (n + 28) cp_72_r5 [.ref 0, .int x, .int y, .int w, .int s, .int c, .null, .null] [.int x0] σ = some (-1, 0, σ) := by
          intro n x0
          rw [cp_72_h5]
          by_cases hx : x0 = 0
          · rw [if_pos hx]
          · rw [if_neg hx, show (99 : Nat) = 89 + 10 from rfl, c_isProduct h1.1]
            simp only [pu_bind, pb_if]
            cases hq : pCode nc (σ.1 6) false true 4 y with
            | false => rfl
            | true =>
              rw [hq, Bool.true_and] at hp
              rw [if_pos rfl, show 89 + 10 = 96 + 3 from rfl, c_traits, hp]
              rfl
        refine ⟨(-1, 0, σ), (-1, 0, τ), ?_, ?_, rfl, hR0⟩
        · rw [show (100 : Nat) = 99 + 1 from rfl, cp_72_g, if_pos hr, show (99 : Nat) = 98 + 1 from rfl, c_isFull_n hB hf]
          simp only [pu_bind, if_true]
          rw [show 99999983 + 5 = 99999960 + 28 from rfl, tail, show 99999983 + 1 = 99999956 + 28 from rfl, show 99999983 + 0 = 99999955 + 28 from rfl]
          by_cases hx : x = -1
          · rw [if_pos hx]
          · rw [if_neg hx]
            rcases c_bean_or hB x with h | ⟨k, hk, rfl⟩
            · rw [show 98 + 1 = 97 + 2 from rfl, c_mayBeHome_n h]
              simp only [pu_bind, if_true]
              exact tail _ _
            · rw [show 98 + 1 = 97 + 2 from rfl, c_mayBeHome hB hk]
              simp only [pu_bind]
              have t1 := tail 99999956 0
              have t2 := tail 99999955 1
              by_cases z1 : σ.1 18 k = 0
              · rw [if_pos z1, if_pos rfl]; exact t1
              · rw [if_neg z1]
                by_cases z2 : σ.1 15 k = 0
                · rw [if_pos z2, if_neg (by decide)]; exact t2
                · rw [if_neg z2, if_pos rfl]; exact t1
        · rw [show (100 : Nat) = 98 + 1 + 1 from rfl, rp_8_g, if_pos hr2, hI.2.2.1.1, if_pos hlt]
          by_cases a1 : x < -1
          · rw [if_pos a1]
          · rw [if_neg a1]
            by_cases a2 : nI nb ≤ x
            · rw [if_pos a2]
            · rw [if_neg a2, r_product (jR_I h1 h2), eg]
              simp only [pu_bind, pb_if]
              cases hq : pCode nc (σ.1 6) false true 4 y with
              | false => rfl
              | true =>
                rw [hq, Bool.true_and] at hp
                rw [if_pos rfl, r_fine]
                simp only [pu_bind, pb_if, pTt_if]
                cases hw : pFine w with
                | false => rfl
                | true =>
                  rw [hw, Bool.true_and] at hp
                  rw [hp]
                  rfl
      | true =>
        rw [Bool.and_eq_true, Bool.and_eq_true] at hp
        obtain ⟨hy, hw, ht2⟩ := hp
        obtain ⟨T, hT31, rfl, hv⟩ := pCode_some hy
        have hV := (pTA_V 4).1 _ hv
        have hB1 : cB (cA σ nb (nI T) (pW w) s c (-1)) (nb + 1) := aC_B aC_A hf
        have tail0 : ∀ (n : Nat), mm_ex sc (cG 99) 1 cp_72_l (n + 28) cp_72_r5 [.ref 0, .int x, .int (nI T), .int w, .int s, .int c, .null, .null] [.int 0] σ = some (-1, 0, σ) := by
          intro n
          rw [cp_72_h5, if_pos rfl]
        by_cases hx : x = -1
        · subst hx
          refine ⟨(nI nb, 0, cA σ nb (nI T) (pW w) s c (-1)), (nI nb, 0, rA (mm_w τ.1 10 nb 0, τ.2) nb (nI T) (pW w) s c (-1)), ?_, ?_, rfl, ?_⟩
          · rw [show (100 : Nat) = 98 + 1 + 1 from rfl, cp_72_g, if_pos hr, c_isFull_n hB hf]
            simp only [pu_bind, if_true]
            rw [show 99999983 + 5 = 99999960 + 28 from rfl, cp_72_h5, if_neg (by decide), show 98 + 1 = 89 + 10 from rfl, c_isProduct h1.1, hy]
            simp only [pu_bind, pb_if, if_true]
            rw [show 89 + 10 = 96 + 3 from rfl, c_traits, hw, ht2]
            simp only [pu_bind, pb_if, Bool.and_self, if_true]
            rw [show 96 + 3 = 97 + 2 from rfl, c_add hB hf]
            simp only [pu_bind]
            rw [show 97 + 2 = 96 + 3 from rfl, c_setHome_n hB1 (by omega)]
            rfl
          · rw [show (100 : Nat) = 98 + 1 + 1 from rfl, rp_8_g, if_pos hr2, hI.2.2.1.1, if_pos hlt, if_neg (by decide), if_neg (fun q => nI_pos (show nb < 2 ^ 31 by omega) (Int32.lt_of_le_of_lt q (by decide))), r_product (jR_I h1 h2), eg, hy]
            simp only [pu_bind, pb_if, if_true]
            rw [r_fine, hw]
            simp only [pu_bind, pb_if, if_true, pTt_if, ht2, hI.2.2.1.1, hT, hC]
            rw [if_pos (by decide), r_enter hB2 hf _ hw]
            rfl
          · refine jR_add h1 h2 h3 h4 h5 h6 h7 hr hf (m := 0) ?_ aR_A hV (pTt_s ht2) (fun q => absurd rfl q) (Or.inl rfl)
            have := aC_A (σ := σ) (nb := nb) (T := nI T) (W := pW w) (s := s) (c := c) (h := -1)
            rw [(h3.2.2.2.2 nb (Nat.le_refl _)).1] at this
            exact this
        · rcases c_bean_or hB x with h | ⟨k, hk, rfl⟩
          · refine ⟨(-1, 0, σ), (-1, 0, τ), ?_, ?_, rfl, hR0⟩
            · rw [show (100 : Nat) = 99 + 1 from rfl, cp_72_g, if_pos hr, show (99 : Nat) = 98 + 1 from rfl, c_isFull_n hB hf]
              simp only [pu_bind, if_true]
              rw [if_neg hx, show 98 + 1 = 97 + 2 from rfl, c_mayBeHome_n h]
              simp only [pu_bind, if_true]
              rw [show 99999983 + 1 = 99999956 + 28 from rfl]
              exact tail0 _
            · rw [show (100 : Nat) = 98 + 1 + 1 from rfl, rp_8_g, if_pos hr2, hI.2.2.1.1, if_pos hlt]
              by_cases a1 : x < -1
              · rw [if_pos a1]
              · rw [if_neg a1, if_pos]
                rw [hB.1] at h
                exact h.resolve_left (fun q => hx (m1_of q a1))
          · have k16 := pu_T (show k < 16 by omega) (by decide)
            have kC := pu_cl (show k < 16 by omega) (by decide)
            have b1 : ¬ nI k < (-1 : Int32) := fun q => nI_pos (show k < 2 ^ 31 by omega) (Int32.lt_trans q (by decide))
            have b2 : ¬ nI nb ≤ nI k := nI_ge hk (by omega)
            have b3 : ¬ nI k < 0 := nI_pos (by omega)
            by_cases hm : σ.1 18 k = 0
            · refine ⟨(-1, 0, σ), (-1, 0, τ), ?_, ?_, rfl, hR0⟩
              · rw [show (100 : Nat) = 99 + 1 from rfl, cp_72_g, if_pos hr, show (99 : Nat) = 98 + 1 from rfl, c_isFull_n hB hf]
                simp only [pu_bind, if_true]
                rw [if_neg hx, show 98 + 1 = 97 + 2 from rfl, c_mayBeHome hB hk, if_pos hm]
                simp only [pu_bind, if_true]
                rw [show 99999983 + 1 = 99999956 + 28 from rfl]
                exact tail0 _
              · rw [show (100 : Nat) = 98 + 1 + 1 from rfl, rp_8_g, if_pos hr2, hI.2.2.1.1, if_pos hlt, if_neg b1, if_neg b2, r_product (jR_I h1 h2), eg, hy]
                simp only [pu_bind, pb_if, if_true]
                rw [r_fine, hw]
                simp only [pu_bind, pb_if, if_true, pTt_if, ht2]
                rw [if_neg b3]
                simp only [k16, if_true, kC, em, hm]
            · by_cases hs : σ.1 15 k = 0
              · refine ⟨(nI nb, 0, (mm_w (cA σ nb (nI T) (pW w) s c (-1)).1 17 nb (nI k), (cA σ nb (nI T) (pW w) s c (-1)).2)), (nI nb, 0, rA (mm_w τ.1 10 nb 0, τ.2) nb (nI T) (pW w) s c (nI k)), ?_, ?_, rfl, ?_⟩
                · have am := aC_A (σ := σ) (nb := nb) (T := nI T) (W := pW w) (s := s) (c := c) (h := -1)
                  have hm' : ¬ (cA σ nb (nI T) (pW w) s c (-1)).1 18 k = 0 := by
                    rw [am.2.2.2.2.2.2.2, uq_ne (by omega)]; exact hm
                  have hs' : (cA σ nb (nI T) (pW w) s c (-1)).1 15 k = 0 := by
                    rw [am.2.2.2.2.1, uq_ne (by omega)]; exact hs
                  rw [show (100 : Nat) = 98 + 1 + 1 from rfl, cp_72_g, if_pos hr, c_isFull_n hB hf]
                  simp only [pu_bind, if_true]
                  rw [if_neg hx, show 98 + 1 = 97 + 2 from rfl, c_mayBeHome hB hk, if_neg hm, if_pos hs]
                  simp only [pu_bind, pu_10, if_false]
                  rw [show 99999983 + 0 = 99999955 + 28 from rfl, cp_72_h5, if_neg (by decide), show 97 + 2 = 89 + 10 from rfl, c_isProduct h1.1, hy]
                  simp only [pu_bind, pb_if, if_true]
                  rw [show 89 + 10 = 96 + 3 from rfl, c_traits, hw, ht2]
                  simp only [pu_bind, pb_if, Bool.and_self, if_true]
                  rw [show 96 + 3 = 97 + 2 from rfl, c_add hB hf]
                  simp only [pu_bind]
                  rw [show 97 + 2 = 96 + 3 from rfl, c_setHome hB1 (by omega) (by omega) hm' hs']
                  rfl
                · rw [show (100 : Nat) = 98 + 1 + 1 from rfl, rp_8_g, if_pos hr2, hI.2.2.1.1, if_pos hlt, if_neg b1, if_neg b2, r_product (jR_I h1 h2), eg, hy]
                  simp only [pu_bind, pb_if, if_true]
                  rw [r_fine, hw]
                  simp only [pu_bind, pb_if, if_true, pTt_if, ht2]
                  rw [if_neg b3]
                  simp only [k16, if_true, kC, em, hm, if_false, es, hs, hI.2.2.1.1, hT, hC]
                  rw [r_enter hB2 hf _ hw]
                  rfl
                · refine jR_add h1 h2 h3 h4 h5 h6 h7 hr hf (m := 0) (aC_17 (h := -1) ?_ (nI k)) aR_A hV (pTt_s ht2) (fun q => absurd rfl q) (Or.inr ⟨k, hk, rfl, hm, hs⟩)
                  have := aC_A (σ := σ) (nb := nb) (T := nI T) (W := pW w) (s := s) (c := c) (h := -1)
                  rw [(h3.2.2.2.2 nb (Nat.le_refl _)).1] at this
                  exact this
              · refine ⟨(-1, 0, σ), (-1, 0, τ), ?_, ?_, rfl, hR0⟩
                · rw [show (100 : Nat) = 99 + 1 from rfl, cp_72_g, if_pos hr, show (99 : Nat) = 98 + 1 from rfl, c_isFull_n hB hf]
                  simp only [pu_bind, if_true]
                  rw [if_neg hx, show 98 + 1 = 97 + 2 from rfl, c_mayBeHome hB hk, if_neg hm, if_neg hs]
                  simp only [pu_bind, if_true]
                  rw [show 99999983 + 1 = 99999956 + 28 from rfl]
                  exact tail0 _
                · rw [show (100 : Nat) = 98 + 1 + 1 from rfl, rp_8_g, if_pos hr2, hI.2.2.1.1, if_pos hlt, if_neg b1, if_neg b2, r_product (jR_I h1 h2), eg, hy]
                  simp only [pu_bind, pb_if, if_true]
                  rw [r_fine, hw]
                  simp only [pu_bind, pb_if, if_true, pTt_if, ht2]
                  rw [if_neg b3]
                  simp only [k16, if_true, kC, em, hm, if_false, es, hs]
    · have e16 : nb = 16 := by omega
      subst e16
      refine ⟨(-2, 0, σ), (-2, 0, τ), ?_, ?_, rfl, hR0⟩
      · rw [show (100 : Nat) = 98 + 1 + 1 from rfl, cp_72_g, if_pos hr, c_isFull_y hB]
        rfl
      · rw [show (100 : Nat) = 98 + 1 + 1 from rfl, rp_8_g, if_pos hr2, hI.2.2.1.1, if_neg (show ¬ nI 16 < (16 : Int32) by decide)]
  · have hr2 : ¬ τ.1 0 15 = 0 := by rw [← h7.1]; exact hr
    refine ⟨(-3, 0, σ), (-3, 0, τ), ?_, ?_, rfl, hR0⟩
    · rw [show (100 : Nat) = 98 + 1 + 1 from rfl, cp_72_g, if_neg hr]
    · rw [show (100 : Nat) = 98 + 1 + 1 from rfl, rp_8_g, if_neg hr2]
