/-! inject -/
theorem c_grid20 {p : Nat} (h : p < 3) : mm_grid sc 20 (nI p) = some (21 + p) ∧ mm_arr sc (21 + p) 0 = some 16 := by
  rcases (show p = 0 ∨ p = 1 ∨ p = 2 by omega) with rfl | rfl | rfl <;> exact ⟨rfl, rfl⟩
theorem c_grid24 {p : Nat} (h : p < 3) : mm_grid sc 24 (nI p) = some (25 + p) ∧ mm_arr sc (25 + p) 0 = some 16 := by
  rcases (show p = 0 ∨ p = 1 ∨ p = 2 by omega) with rfl | rfl | rfl <;> exact ⟨rfl, rfl⟩
theorem c_grid28 {p : Nat} (h : p < 3) : mm_grid sc 28 (nI p) = some (29 + p) ∧ mm_arr sc (29 + p) 0 = some 16 := by
  rcases (show p = 0 ∨ p = 1 ∨ p = 2 by omega) with rfl | rfl | rfl <;> exact ⟨rfl, rfl⟩
theorem c_grid37 {p : Nat} (h : p < 3) : mm_grid sc 37 (nI p) = some (38 + p) ∧ mm_arr sc (38 + p) 0 = some 201 := by
  rcases (show p = 0 ∨ p = 1 ∨ p = 2 by omega) with rfl | rfl | rfl <;> exact ⟨rfl, rfl⟩
theorem jR_inj {σ σ' τ τ' : mm_S} {nc nb U G : Nat} {F1 F2 lv H : Nat → Nat} {N : Nat → Nat → Nat} {O B ht : Nat → Nat} (h1 : cI σ nc nb F1 F2 lv H) (h2 : sT σ τ) (h3 : jX σ nc nb F1 F2 lv) (h4 : jP σ τ nb) (h5 : jI σ τ nb U G N O B ht) (h6 : jC σ τ nb U O B) (h7 : σ.1 0 5 = τ.1 0 15 ∧ (σ.1 0 5 = 0 ∨ σ.1 0 5 = 1)) (hr : σ.1 0 5 = 0) {j m R : Nat} {w : Int32} (hj : j < nb) (hm : m < 3) (e19 : σ.1 19 j = nI m) (hR : R < 2 ^ 31) (hv : (pTA nc (σ.1 6) true false 6).1 R = true)
    (q : ∀ k, k ≠ 21 + m → k ≠ 25 + m → k ≠ 19 → σ'.1 k = σ.1 k) (q1 : σ'.1 (21 + m) = uq (σ.1 (21 + m)) j (nI R)) (q2 : σ'.1 (25 + m) = uq (σ.1 (25 + m)) j w) (q3 : σ'.1 19 = uq (σ.1 19) j (nI (m + 1)))
    (r : ∀ k, k ≠ 11 → k ≠ 12 → k ≠ 13 → τ'.1 k = τ.1 k) (r1 : τ'.1 12 = uq (τ.1 12) (3 * j + m) (nI R)) (r2 : τ'.1 13 = uq (τ.1 13) (3 * j + m) w) (r3 : τ'.1 11 = uq (τ.1 11) j (nI (m + 1))) : jR σ' τ' := by
  have hr' : σ'.1 0 5 = 0 := by rw [q 0 (by omega) (by omega) (by decide)]; exact hr
  obtain ⟨s1, s2, s3, s4, s5, s6, s7, s8, s9, s10, s11, s12, s13, s14⟩ := h2
  obtain ⟨x1, x2, x3, x4, x5⟩ := h3
  refine ⟨nc, nb, U, G, F1, F2, lv, H, N, O, B, ht, ?_, ⟨?_, ?_, ?_, ?_, ?_, ?_, ?_, ?_, ?_, ?_, ?_, ?_, ?_, ?_⟩, ⟨x1, ?_, ?_, ?_, ?_⟩, ⟨?_, fun hq => absurd hr' hq⟩, jI_A (fun c hc => q c (by omega) (by omega) (by omega)) (fun c _ _ => r c (by omega) (by omega) (by omega)) (by rw [r 0 (by decide) (by decide) (by decide)]) (by rw [r 0 (by decide) (by decide) (by decide)]) h5, jC_A (fun c hc => q c (by omega) (by omega) (by omega)) (r 32 (by decide) (by decide) (by decide)) (r 33 (by decide) (by decide) (by decide)) h6, ?_⟩
  · unfold cI cK cB cR cH cHo at *
    rw [q 1 (by omega) (by omega) (by decide), q 2 (by omega) (by omega) (by decide), q 6 (by omega) (by omega) (by decide), q 9 (by omega) (by omega) (by decide), q 10 (by omega) (by omega) (by decide), q 11 (by omega) (by omega) (by decide), q 13 (by omega) (by omega) (by decide), q 17 (by omega) (by omega) (by decide)]
    exact h1
  · rw [q 1 (by omega) (by omega) (by decide), r 0 (by decide) (by decide) (by decide), s1]
  · rw [q 2 (by omega) (by omega) (by decide), r 0 (by decide) (by decide) (by decide), s2]
  · rw [q 6 (by omega) (by omega) (by decide), r 1 (by decide) (by decide) (by decide), s3]
  · rw [q 7 (by omega) (by omega) (by decide), r 2 (by decide) (by decide) (by decide), s4]
  · rw [q 8 (by omega) (by omega) (by decide), r 3 (by decide) (by decide) (by decide), s5]
  · intro h; rw [q 9 (by omega) (by omega) (by decide), q 10 (by omega) (by omega) (by decide), r 4 (by decide) (by decide) (by decide)]; exact s6 h
  · rw [q 13 (by omega) (by omega) (by decide), r 5 (by decide) (by decide) (by decide), s7]
  · rw [q 14 (by omega) (by omega) (by decide), r 6 (by decide) (by decide) (by decide), s8]
  · rw [q 15 (by omega) (by omega) (by decide), r 7 (by decide) (by decide) (by decide), s9]
  · rw [q 16 (by omega) (by omega) (by decide), r 8 (by decide) (by decide) (by decide), s10]
  · rw [q 17 (by omega) (by omega) (by decide), r 9 (by decide) (by decide) (by decide), s11]
  · rw [q 18 (by omega) (by omega) (by decide), r 10 (by decide) (by decide) (by decide), s12]
  · rw [q3, r3, s13]
  · intro b p hp
    rw [r1, r2]
    by_cases hpm : p = m
    · subst hpm
      rw [q1, q2]
      by_cases hb : b = j
      · subst hb
        rw [uq_at, uq_at, uq_at, uq_at]
        exact ⟨rfl, rfl⟩
      · rw [uq_ne hb, uq_ne hb, uq_ne (by omega), uq_ne (by omega)]
        exact s14 b p hp
    · rw [q (21 + p) (by omega) (by omega) (by omega), q (25 + p) (by omega) (by omega) (by omega), uq_ne (by omega), uq_ne (by omega)]
      exact s14 b p hp
  · rw [q 8 (by omega) (by omega) (by decide)]; exact x2
  · rw [q 7 (by omega) (by omega) (by decide)]; exact x3
  · intro b hb
    obtain ⟨y1, y2, y3, mm, y4, y5, y6⟩ := x4 b hb
    rw [q 15 (by omega) (by omega) (by decide), q 17 (by omega) (by omega) (by decide), q 18 (by omega) (by omega) (by decide), q 6 (by omega) (by omega) (by decide), q3]
    refine ⟨y1, y2, y3, ?_⟩
    by_cases hbj : b = j
    · subst hbj
      have : mm = m := (nI_eq (by omega) (by omega)).1 (y5.symm.trans e19)
      subst this
      refine ⟨mm + 1, by omega, uq_at, fun p hp => ?_⟩
      by_cases hpm : p = mm
      · subst hpm
        exact ⟨R, hR, by rw [q1, uq_at], hv⟩
      · rw [q (21 + p) (by omega) (by omega) (by omega)]
        exact y6 p (by omega)
    · refine ⟨mm, y4, by rw [uq_ne hbj]; exact y5, fun p hp => ?_⟩
      by_cases hpm : p = m
      · subst hpm
        rw [q1, uq_ne hbj]
        exact y6 p hp
      · rw [q (21 + p) (by omega) (by omega) (by omega)]
        exact y6 p hp
  · intro b hb
    rw [q 18 (by omega) (by omega) (by decide), q3, uq_ne (by omega)]
    exact x5 b hb
  · intro b p hp
    rw [q (29 + p) (by omega) (by omega) (by omega), r 14 (by decide) (by decide) (by decide)]
    exact h4.1 b p hp
  · rw [q 0 (by omega) (by omega) (by decide), r 0 (by decide) (by decide) (by decide)]
    exact h7
theorem s_inject : lq_S_inject jR := by
  intro x y w σ τ hR
  have hR0 := hR
  obtain ⟨nc, nb, U, G, F1, F2, lv, H, N, O, B, ht, h1, h2, h3, h4, h5, h6, h7⟩ := hR
  have hB := h1.2.2.1
  have hI := rI_of h1 h2
  have hn := hB.2
  have eg : τ.1 1 = σ.1 6 := h2.2.2.1.symm
  have ep : τ.1 11 = σ.1 19 := h2.2.2.2.2.2.2.2.2.2.2.2.2.1.symm
  by_cases hr : σ.1 0 5 = 0
  · have hr2 : τ.1 0 15 = 0 := by rw [← h7.1]; exact hr
    rcases c_bean_or hB x with h | ⟨j, hj, rfl⟩
    · refine ⟨(-1, 0, σ), (-1, 0, τ), ?_, ?_, rfl, hR0⟩
      · rw [show (100 : Nat) = 98 + 1 + 1 from rfl, cp_73_g, if_pos hr, c_exists_n h]; rfl
      · rw [show (100 : Nat) = 98 + 1 + 1 from rfl, rp_10_g, if_pos hr2, r_isBean_n (by rw [← h2.2.1]; exact h)]; rfl
    · cases hc : pCode nc (σ.1 6) true false 6 y && pAsk w with
      | false =>
        refine ⟨(-1, 0, σ), (-1, 0, τ), ?_, ?_, rfl, hR0⟩
        · rw [show (100 : Nat) = 98 + 1 + 1 from rfl, cp_73_g, if_pos hr, c_exists_y hB hj]
          simp only [pu_bind, pu_10, if_false]
          rw [show 98 + 1 = 84 + 15 from rfl, c_isRequirement h1.1, hc]
          rfl
        · rw [show (100 : Nat) = 97 + 2 + 1 from rfl, rp_10_g, if_pos hr2, r_isBean_y hI.2.2.1 hj]
          simp only [pu_bind, pu_10, if_false]
          rw [r_required (jR_I h1 h2), eg]
          simp only [pu_bind, pb_if]
          cases hq : pCode nc (σ.1 6) true false 6 y with
          | false => rfl
          | true =>
            rw [hq, Bool.true_and] at hc
            rw [if_pos rfl, r_askable, hc]
            rfl
      | true =>
        rw [Bool.and_eq_true] at hc
        obtain ⟨hy, hw⟩ := hc
        obtain ⟨R, h31, rfl, hv⟩ := pCode_some hy
        obtain ⟨-, -, -, m, m3, em, -⟩ := h3.2.2.2.1 j hj
        have hT := pu_T (show j < 16 by omega) (by decide)
        have hC := pu_cl (show j < 16 by omega) (by decide)
        by_cases hm : m < 3
        · have hlt : nI m < (3 : Int32) := (nI_lt hm (by decide) : nI m < nI 3)
          have e48 : (3 : Int32) * nI j + nI m = nI (3 * j + m) := by
            rw [show (3 : Int32) = nI 3 by decide, pk_mul, nI_add]
          have hT2 := pu_T (show 3 * j + m < 48 by omega) (by decide)
          have hC2 := pu_cl (show 3 * j + m < 48 by omega) (by decide)
          have z1 : ∀ v : Int32, mm_w (mm_w σ.1 (21 + m) j (nI R)) (25 + m) j v 19 j + 1 = nI (m + 1) := fun v => by
            rw [mm_w_off (by omega), mm_w_off (by omega), em, nI_1]
          have z2 : ∀ v : Int32, mm_w (mm_w τ.1 12 (3 * j + m) (nI R)) 13 (3 * j + m) v 11 j + 1 = nI (m + 1) := fun v => by
            rw [mm_w_off (by decide), mm_w_off (by decide), ep, em, nI_1]
          refine ⟨(nI m, 0, (mm_w (mm_w (mm_w σ.1 (21 + m) j (nI R)) (25 + m) j w) 19 j (nI (m + 1)), σ.2)), (nI m, 0, (mm_w (mm_w (mm_w τ.1 12 (3 * j + m) (nI R)) 13 (3 * j + m) w) 11 j (nI (m + 1)), τ.2)), ?_, ?_, rfl, ?_⟩
          · rw [show (100 : Nat) = 98 + 1 + 1 from rfl, cp_73_g, if_pos hr, c_exists_y hB hj]
            simp only [pu_bind, pu_10, if_false]
            rw [show 98 + 1 = 84 + 15 from rfl, c_isRequirement h1.1, hy, hw]
            simp only [pu_bind, pb_if, Bool.and_self, if_true]
            rw [show 84 + 15 = 97 + 2 from rfl, c_pointCount hB hj]
            simp only [pu_bind, em, hlt, if_true]
            rw [cp_6_g, c_exists_y hB hj]
            simp only [pu_bind, pu_10, if_false, hT, if_true, hC, em, hlt, (c_grid20 hm).1, (c_grid20 hm).2, (c_grid24 hm).1, (c_grid24 hm).2, z1]
          · rw [show (100 : Nat) = 97 + 2 + 1 from rfl, rp_10_g, if_pos hr2, r_isBean_y hI.2.2.1 hj]
            simp only [pu_bind, pu_10, if_false]
            rw [r_required (jR_I h1 h2), eg, hy]
            simp only [pu_bind, pb_if, if_true]
            rw [r_askable, hw]
            simp only [pu_bind, pb_if, if_true, hT, hC, ep, em, hlt, e48, hT2, hC2]
            rw [← ep] at *
            simp only [z2]
          · refine jR_inj h1 h2 h3 h4 h5 h6 h7 hr hj hm em h31 hv (w := w) (fun k a b c => ?_) ?_ ?_ ?_ (fun k a b c => ?_) ?_ ?_ ?_
            · show mm_w (mm_w (mm_w σ.1 (21 + m) j (nI R)) (25 + m) j w) 19 j (nI (m + 1)) k = σ.1 k
              rw [mm_w_ne c, mm_w_ne b, mm_w_ne a]
            · show mm_w (mm_w (mm_w σ.1 (21 + m) j (nI R)) (25 + m) j w) 19 j (nI (m + 1)) (21 + m) = _
              rw [mm_w_ne (by omega), mm_w_ne (by omega), mm_w_eq]; rfl
            · show mm_w (mm_w (mm_w σ.1 (21 + m) j (nI R)) (25 + m) j w) 19 j (nI (m + 1)) (25 + m) = _
              rw [mm_w_ne (by omega), mm_w_eq, mm_w_ne (by omega)]; rfl
            · show mm_w (mm_w (mm_w σ.1 (21 + m) j (nI R)) (25 + m) j w) 19 j (nI (m + 1)) 19 = _
              rw [mm_w_eq, mm_w_ne (by omega), mm_w_ne (by omega)]; rfl
            · show mm_w (mm_w (mm_w τ.1 12 (3 * j + m) (nI R)) 13 (3 * j + m) w) 11 j (nI (m + 1)) k = τ.1 k
              rw [mm_w_ne a, mm_w_ne c, mm_w_ne b]
            · show mm_w (mm_w (mm_w τ.1 12 (3 * j + m) (nI R)) 13 (3 * j + m) w) 11 j (nI (m + 1)) 12 = _
              rw [mm_w_ne (by decide), mm_w_ne (by decide), mm_w_eq]; rfl
            · show mm_w (mm_w (mm_w τ.1 12 (3 * j + m) (nI R)) 13 (3 * j + m) w) 11 j (nI (m + 1)) 13 = _
              rw [mm_w_ne (by decide), mm_w_eq, mm_w_ne (by decide)]; rfl
            · show mm_w (mm_w (mm_w τ.1 12 (3 * j + m) (nI R)) 13 (3 * j + m) w) 11 j (nI (m + 1)) 11 = _
              rw [mm_w_eq, mm_w_ne (by decide), mm_w_ne (by decide)]; rfl
        · have e3 : m = 3 := by omega
          subst e3
          refine ⟨(-2, 0, σ), (-2, 0, τ), ?_, ?_, rfl, hR0⟩
          · rw [show (100 : Nat) = 98 + 1 + 1 from rfl, cp_73_g, if_pos hr, c_exists_y hB hj]
            simp only [pu_bind, pu_10, if_false]
            rw [show 98 + 1 = 84 + 15 from rfl, c_isRequirement h1.1, hy, hw]
            simp only [pu_bind, pb_if, Bool.and_self, if_true]
            rw [show 84 + 15 = 97 + 2 from rfl, c_pointCount hB hj]
            simp only [pu_bind, em]
            rfl
          · rw [show (100 : Nat) = 97 + 2 + 1 from rfl, rp_10_g, if_pos hr2, r_isBean_y hI.2.2.1 hj]
            simp only [pu_bind, pu_10, if_false]
            rw [r_required (jR_I h1 h2), eg, hy]
            simp only [pu_bind, pb_if, if_true]
            rw [r_askable, hw]
            simp only [pu_bind, pb_if, if_true, hT, hC, ep, em]
            rfl
  · have hr2 : ¬ τ.1 0 15 = 0 := by rw [← h7.1]; exact hr
    refine ⟨(-3, 0, σ), (-3, 0, τ), ?_, ?_, rfl, hR0⟩
    · rw [show (100 : Nat) = 98 + 1 + 1 from rfl, cp_73_g, if_neg hr]
    · rw [show (100 : Nat) = 98 + 1 + 1 from rfl, rp_10_g, if_neg hr2]
