theorem dC_f {σ : mm_S} {m P Q : Nat} {g c : Int32} {L K : Nat} : (∀ k, k ≠ 1 → (k < 6 ∨ 11 < k) → (dC σ m P Q g c L K).1 k = σ.1 k) ∧ (dC σ m P Q g c L K).1 1 0 = nI m ∧ (dC σ m P Q g c L K).1 6 = uq (σ.1 6) m g ∧ (dC σ m P Q g c L K).1 7 = uq (σ.1 7) m c ∧ (dC σ m P Q g c L K).1 8 = uq (σ.1 8) m (nI L) ∧ (dC σ m P Q g c L K).1 9 = uq (σ.1 9) m (nI P) ∧ (dC σ m P Q g c L K).1 10 = uq (σ.1 10) m (nI Q) ∧ (dC σ m P Q g c L K).1 11 = uq (σ.1 11) m (nI K) := by
  unfold dC
  simp only
  refine ⟨fun k h1 h2 => ?_, ?_, ?_, ?_, ?_, ?_, ?_, ?_⟩
  · rw [mm_w_ne (by omega), mm_w_ne (by omega), mm_w_ne (by omega), mm_w_ne (by omega), mm_w_ne (by omega), mm_w_ne (by omega), mm_w_ne h1]
  · simp (decide := true) only [mm_w_off, mm_w_at]
  · simp (decide := true) only [mm_w_ne, mm_w_eq]; rfl
  · simp (decide := true) only [mm_w_ne, mm_w_eq]; rfl
  · simp (decide := true) only [mm_w_ne, mm_w_eq]; rfl
  · simp (decide := true) only [mm_w_ne, mm_w_eq]; rfl
  · simp (decide := true) only [mm_w_ne, mm_w_eq]; rfl
  · simp (decide := true) only [mm_w_ne, mm_w_eq]; rfl
theorem dR_f {τ : mm_S} {m P Q : Nat} {g c : Int32} {L : Nat} : (∀ k, 4 < k → (dR τ m P Q g c L).1 k = τ.1 k) ∧ (∀ i, i ≠ 0 → (dR τ m P Q g c L).1 0 i = τ.1 0 i) ∧ (dR τ m P Q g c L).1 0 0 = nI m ∧ (dR τ m P Q g c L).1 1 = uq (τ.1 1) m g ∧ (dR τ m P Q g c L).1 2 = uq (τ.1 2) m c ∧ (dR τ m P Q g c L).1 3 = uq (τ.1 3) m (nI L) ∧ (dR τ m P Q g c L).1 4 = uq (uq (τ.1 4) (2 * m) (nI P)) (2 * m + 1) (nI Q) := by
  unfold dR
  simp only
  refine ⟨fun k h1 => ?_, fun i hi => ?_, ?_, ?_, ?_, ?_, ?_⟩
  · rw [mm_w_ne (by omega), mm_w_ne (by omega), mm_w_ne (by omega), mm_w_ne (by omega), mm_w_ne (by omega), mm_w_ne (by omega)]
  · rw [mm_w_off (by decide), mm_w_off (by decide), mm_w_off (by decide), mm_w_off (by decide), mm_w_off (by decide), mm_w_at2 hi]
  · simp (decide := true) only [mm_w_off, mm_w_at]
  · simp (decide := true) only [mm_w_ne, mm_w_eq]; rfl
  · simp (decide := true) only [mm_w_ne, mm_w_eq]; rfl
  · simp (decide := true) only [mm_w_ne, mm_w_eq]; rfl
  · simp (decide := true) only [mm_w_ne, mm_w_eq]; rfl
theorem uqN_at {f : Nat → Nat} {j v : Nat} : uqN f j v j = v := by simp [uqN]
theorem uqN_ne {f : Nat → Nat} {j i v : Nat} (h : i ≠ j) : uqN f j v i = f i := by simp [uqN, h]
set_option maxHeartbeats 1000000 in
theorem jR_decl {σ τ : mm_S} {nc nb U G : Nat} {F1 F2 lv H : Nat → Nat} {N : Nat → Nat → Nat} {O B ht : Nat → Nat} (h1 : cI σ nc nb F1 F2 lv H) (h2 : sT σ τ) (h3 : jX σ nc nb F1 F2 lv) (h4 : jP σ τ nb) (h5 : jI σ τ nb U G N O B ht) (h6 : jC σ τ nb U O B) (h7 : σ.1 0 5 = τ.1 0 15 ∧ (σ.1 0 5 = 0 ∨ σ.1 0 5 = 1)) (hr : σ.1 0 5 = 0) (hn : nc < 13) {P Q : Nat} {g c : Int32} (hc : c = 0 ∨ c = 1) (hP : P = 0 ∨ pV nc 3 P) (hP' : P < 32768) (hQ : Q = 0 ∨ pV nc 3 Q) (hQ' : Q < 32768) (hL : max (pLv lv P) (pLv lv Q) ≤ 3) : jR (dC σ (nc + 1) P Q g c (max (pLv lv P) (pLv lv Q)) (pHn H (nc + 1) P Q)) (dR τ (nc + 1) P Q g c (max (pLv lv P) (pLv lv Q))) := by
  obtain ⟨q0, q10, q6, q7, q8, q9, qq, q11⟩ := dC_f (σ := σ) (m := nc + 1) (P := P) (Q := Q) (g := g) (c := c) (L := max (pLv lv P) (pLv lv Q)) (K := pHn H (nc + 1) P Q)
  obtain ⟨r0, r00, rn, r1, r2, r3, r4⟩ := dR_f (τ := τ) (m := nc + 1) (P := P) (Q := Q) (g := g) (c := c) (L := max (pLv lv P) (pLv lv Q))
  generalize hσ : dC σ (nc + 1) P Q g c (max (pLv lv P) (pLv lv Q)) (pHn H (nc + 1) P Q) = σ' at *
  generalize hτ : dR τ (nc + 1) P Q g c (max (pLv lv P) (pLv lv Q)) = τ' at *
  obtain ⟨i1, i2, i3, i4, i5, i6, i7, i8, i9, i10, i11⟩ := h1
  obtain ⟨s1, s2, s3, s4, s5, s6, s7, s8, s9, s10, s11, s12, s13, s14⟩ := h2
  obtain ⟨x1, x2, x3, x4, x5⟩ := h3
  have e' : ∀ k, 11 < k → σ'.1 k = σ.1 k := fun k a => q0 k (by omega) (Or.inr a)
  have hr' : σ'.1 0 5 = 0 := by rw [q0 0 (by decide) (Or.inl (by decide))]; exact hr
  have hd : ∀ h, h < 32 → (F1 h = 0 ∨ F1 h % 32 ≤ nc) ∧ (F2 h = 0 ∨ F2 h % 32 ≤ nc) := by
    intro h hh
    by_cases hz : h = 0 ∨ nc < h
    · exact ⟨Or.inl (x1 h hz).1, Or.inl (x1 h hz).2⟩
    · obtain ⟨a, b, -⟩ := i7 h (by omega) (by omega)
      exact ⟨a.imp id fun v => v.2.1, b.imp id fun v => v.2.1⟩
  have hPd : P = 0 ∨ P % 32 ≤ nc := hP.imp id fun v => v.2.1
  have hQd : Q = 0 ∨ Q % 32 ≤ nc := hQ.imp id fun v => v.2.1
  have pP : pPar P := by
    rcases hP with rfl | v
    · exact ⟨by decide, by decide, by decide⟩
    · exact pPar_of i1.2 v (by have e3 : 32 ^ 3 = 32768 := by decide
                               omega)
  have pQ : pPar Q := by
    rcases hQ with rfl | v
    · exact ⟨by decide, by decide, by decide⟩
    · exact pPar_of i1.2 v (by have e3 : 32 ^ 3 = 32768 := by decide
                               omega)
  have hp : 2 ^ (nc + 1) ≤ 2 ^ 13 := Nat.pow_le_pow_right (by decide) (by omega)
  have b1 : 2 ^ (nc + 1) ||| 2 < 2 ^ 31 := Nat.or_lt_two_pow (by omega) (by decide)
  have b2 := Nat.or_lt_two_pow b1 (i8 (P % 32) (by omega)).2
  have b3 := Nat.or_lt_two_pow b2 (i8 (Q % 32) (by omega)).2
  refine ⟨nc + 1, nb, U, G, uqN F1 (nc + 1) P, uqN F2 (nc + 1) Q, uqN lv (nc + 1) (max (pLv lv P) (pLv lv Q)), uqN H (nc + 1) (pHn H (nc + 1) P Q), N, O, B, ht, ⟨⟨q10, by omega⟩, by omega, ?_, ?_, ?_, ?_, ?_, ?_, ?_, ?_, ?_⟩, ⟨?_, ?_, ?_, ?_, ?_, ?_, ?_, ?_, ?_, ?_, ?_, ?_, ?_, ?_⟩, ⟨?_, ?_, ?_, ?_, ?_⟩, ⟨?_, fun hq => absurd hr' hq⟩, jI_A (fun k hk => q0 k (by omega) (by omega)) (fun k _ _ => r0 k (by omega)) (r00 24 (by decide)) (r00 31 (by decide)) h5, jC_A (fun k hk => q0 k (by omega) (by omega)) (r0 32 (by decide)) (r0 33 (by decide)) h6, ?_⟩
  · exact ⟨by rw [q0 2 (by decide) (Or.inl (by decide))]; exact i3.1, i3.2⟩
  · intro h hh
    obtain ⟨a1, a2, a3, a4, a5⟩ := i4 h hh
    obtain ⟨d1, d2⟩ := hd h hh
    by_cases hm : h = nc + 1
    · subst hm
      rw [uqN_at, uqN_at, uqN_at]
      refine ⟨pP, pQ, hL, ?_, ?_⟩
      · rcases hP with h0 | v
        · exact Or.inl h0
        · right
          have v1 := v.1
          have v2 := v.2.1
          rw [uqN_ne (by omega)]
          have : pLv lv P = lv (P % 32) + 1 := by unfold pLv; rw [if_neg (by omega)]
          omega
      · rcases hQ with h0 | v
        · exact Or.inl h0
        · right
          have v1 := v.1
          have v2 := v.2.1
          rw [uqN_ne (by omega)]
          have : pLv lv Q = lv (Q % 32) + 1 := by unfold pLv; rw [if_neg (by omega)]
          omega
    · rw [uqN_ne hm, uqN_ne hm, uqN_ne hm]
      refine ⟨a1, a2, a3, ?_, ?_⟩
      · rcases d1 with d1 | d1
        · exact Or.inl d1
        · rw [uqN_ne (by omega)]; exact a4
      · rcases d2 with d2 | d2
        · exact Or.inl d2
        · rw [uqN_ne (by omega)]; exact a5
  · rw [uqN_ne (by omega)]; exact i5
  · intro h hh
    rw [q9, qq]
    by_cases hm : h = nc + 1
    · subst hm; rw [uq_at, uq_at, uqN_at, uqN_at]; exact ⟨rfl, rfl⟩
    · rw [uq_ne hm, uq_ne hm, uqN_ne hm, uqN_ne hm]; exact i6 h hh
  · intro h l1 l2
    by_cases hm : h = nc + 1
    · subst hm
      rw [uqN_at, uqN_at, uqN_at]
      refine ⟨hP.imp id pV_nc, hQ.imp id pV_nc, ?_, ?_, fun h0 i hi => ?_, fun h0 i hi => ?_⟩
      · unfold pHn; simp [Nat.testBit_or, Nat.testBit_two_pow_self]
      · unfold pHn; simp [Nat.testBit_or, show Nat.testBit 2 1 = true by decide]
      · rw [uqN_ne (by have := hPd.resolve_left h0; omega)] at hi
        unfold pHn; simp [Nat.testBit_or, hi]
      · rw [uqN_ne (by have := hQd.resolve_left h0; omega)] at hi
        unfold pHn; simp [Nat.testBit_or, hi]
    · obtain ⟨a1, a2, a3, a4, a5, a6⟩ := i7 h l1 (by omega)
      obtain ⟨d1, d2⟩ := hd h (by omega)
      rw [uqN_ne hm, uqN_ne hm, uqN_ne hm]
      refine ⟨a1.imp id pV_nc, a2.imp id pV_nc, a3, a4, fun h0 i hi => ?_, fun h0 i hi => ?_⟩
      · rw [uqN_ne (by have := d1.resolve_left h0; omega)] at hi; exact a5 h0 i hi
      · rw [uqN_ne (by have := d2.resolve_left h0; omega)] at hi; exact a6 h0 i hi
  · intro h hh
    rw [q11]
    by_cases hm : h = nc + 1
    · subst hm; rw [uq_at, uqN_at]; exact ⟨rfl, b3⟩
    · rw [uq_ne hm, uqN_ne hm]; exact i8 h hh
  · rw [q6, uq_ne (by omega)]; exact i9
  · intro j hj; rw [e' 17 (by decide)]; exact i10 j hj
  · intro j hj
    rw [e' 13 (by decide)]
    obtain ⟨T, a, b⟩ := i11 j hj
    exact ⟨T, a, pV_nc b⟩
  · rw [q10, rn]
  · rw [q0 2 (by decide) (Or.inl (by decide)), r00 5 (by decide)]; exact s2
  · rw [q6, r1, s3]
  · rw [q7, r2, s4]
  · rw [q8, r3, s5]
  · intro h
    rw [q9, qq, r4]
    by_cases hm : h = nc + 1
    · subst hm
      rw [uq_at, uq_at, uq_at, uq_ne (by omega), uq_at]
      exact ⟨rfl, rfl⟩
    · rw [uq_ne hm, uq_ne hm, uq_ne (by omega), uq_ne (by omega), uq_ne (by omega), uq_ne (by omega)]
      exact s6 h
  · rw [e' 13 (by decide), r0 5 (by decide)]; exact s7
  · rw [e' 14 (by decide), r0 6 (by decide)]; exact s8
  · rw [e' 15 (by decide), r0 7 (by decide)]; exact s9
  · rw [e' 16 (by decide), r0 8 (by decide)]; exact s10
  · rw [e' 17 (by decide), r0 9 (by decide)]; exact s11
  · rw [e' 18 (by decide), r0 10 (by decide)]; exact s12
  · rw [e' 19 (by decide), r0 11 (by decide)]; exact s13
  · intro b p hp; rw [e' (21 + p) (by omega), e' (25 + p) (by omega), r0 12 (by decide), r0 13 (by decide)]; exact s14 b p hp
  · intro h hh
    rw [uqN_ne (by omega), uqN_ne (by omega)]
    exact x1 h (by omega)
  · intro h hh
    rw [q8]
    by_cases hm : h = nc + 1
    · subst hm; rw [uq_at, uqN_at]
    · rw [uq_ne hm, uqN_ne hm]; exact x2 h hh
  · intro h
    rw [q7]
    by_cases hm : h = nc + 1
    · subst hm; rw [uq_at]; exact hc
    · rw [uq_ne hm]; exact x3 h
  · intro j hj
    obtain ⟨y1, y2, y3, m, y4, y5, y6⟩ := x4 j hj
    rw [e' 15 (by decide), e' 17 (by decide), e' 18 (by decide), e' 19 (by decide), q6]
    refine ⟨y1, y2, y3, m, y4, y5, fun p hp => ?_⟩
    obtain ⟨R, z1, z2, z3⟩ := y6 p hp
    refine ⟨R, z1, by rw [e' (21 + p) (by omega)]; exact z2, ?_⟩
    exact (pTA_nc (fun i hi => uq_ne (by omega)) 6).1 R z3
  · rw [e' 18 (by decide), e' 19 (by decide)]; exact x5
  · intro b p hp; rw [e' (29 + p) (by omega), r0 14 (by decide)]; exact h4.1 b p hp
  · rw [q0 0 (by decide) (Or.inl (by decide)), r00 15 (by decide)]; exact h7
theorem s_declare : lq_S_declare jR := by
  intro x y g c hg hc σ τ hR
  have hR0 := hR
  obtain ⟨nc, nb, U, G, F1, F2, lv, H, N, O, B, ht, h1, h2, h3, h4, h5, h6, h7⟩ := hR
  have hI := rI_of h1 h2
  have hK := h1.1
  have hK2 := jR_I h1 h2
  have hnc := h1.1.2
  have eg : τ.1 1 = σ.1 6 := h2.2.2.1.symm
  have ec : τ.1 2 = σ.1 7 := h2.2.2.2.1.symm
  have el : τ.1 3 = σ.1 8 := h2.2.2.2.2.1.symm
  have h8 := h3.2.1
  have hl : ∀ h, h < 32 → lv h ≤ 3 := fun h hh => (h1.2.2.2.1 h hh).2.2.1
  obtain ⟨v, rfl⟩ : ∃ v, g = pb v := by
    rcases hg with rfl | rfl
    · exact ⟨false, rfl⟩
    · exact ⟨true, rfl⟩
  by_cases hr : σ.1 0 5 = 0
  · have hr2 : τ.1 0 15 = 0 := by rw [← h7.1]; exact hr
    by_cases hn : nc < 13
    · have lt13 : nI nc < (13 : Int32) := (nI_lt hn (by decide) : nI nc < nI 13)
      cases hx : pPok nc (σ.1 6) (σ.1 7) v x with
      | false =>
        refine ⟨(-1, 0, σ), (-1, 0, τ), ?_, ?_, rfl, hR0⟩
        · unfold pPok at hx
          rw [Bool.or_eq_false_iff, decide_eq_false_iff_not] at hx
          rw [show (100 : Nat) = 91 + 8 + 1 from rfl, cp_70_g, if_pos hr, show 91 + 8 = 98 + 1 from rfl, cp_24_g, hK.1, if_pos lt13]
          simp only [pu_bind, if_true]
          rw [if_neg hx.1, show 98 + 1 = 91 + 8 from rfl, c_isParent hK, hx.2]
          rfl
        · rw [show (100 : Nat) = 97 + 2 + 1 from rfl, rp_5_g, if_pos hr2, hK2.1, if_pos lt13, r_parental hK2, eg, ec, hx]
          rfl
      | true =>
        obtain ⟨P, rfl, hP', hP⟩ := pPok_some hx
        cases hy : pPok nc (σ.1 6) (σ.1 7) v y with
        | false =>
          refine ⟨(-1, 0, σ), (-1, 0, τ), ?_, ?_, rfl, hR0⟩
          · unfold pPok at hy
            rw [Bool.or_eq_false_iff, decide_eq_false_iff_not] at hy
            rw [show (100 : Nat) = 91 + 8 + 1 from rfl, cp_70_g, if_pos hr, show 91 + 8 = 98 + 1 from rfl, cp_24_g, hK.1, if_pos lt13]
            simp only [pu_bind, if_true]
            rw [if_neg hy.1]
            by_cases h0 : nI P = 0
            · rw [if_pos h0, show 98 + 1 = 91 + 8 from rfl, c_isParent hK, hy.2]
              rfl
            · unfold pPok at hx
              rw [decide_eq_false h0, Bool.false_or] at hx
              rw [if_neg h0, show 98 + 1 = 91 + 8 from rfl, c_isParent hK, hx]
              simp only [pu_bind, pb_if, if_true]
              rw [if_neg hy.1, c_isParent hK, hy.2]
              rfl
          · rw [show (100 : Nat) = 97 + 2 + 1 from rfl, rp_5_g, if_pos hr2, hK2.1, if_pos lt13, r_parental hK2, eg, ec, hx]
            simp only [pu_bind, pb_if, if_true]
            rw [r_parental hK2, eg, ec, hy]
            rfl
        | true =>
          obtain ⟨Q, rfl, hQ', hQ⟩ := pPok_some hy
          have lP : pLv lv P ≤ 4 := by
            have := hl (P % 32) (by omega)
            unfold pLv
            split <;> omega
          have lQ : pLv lv Q ≤ 4 := by
            have := hl (Q % 32) (by omega)
            unfold pLv
            split <;> omega
          have c3 : (nI (max (pLv lv P) (pLv lv Q)) ≤ (3 : Int32)) ↔ max (pLv lv P) (pLv lv Q) ≤ 3 := (nI_leI (by omega) (by decide) : nI _ ≤ nI 3 ↔ _)
          have tail : ((cG (97 + 1 + 1) 30 [.ref 1, .int (nI P), .int (nI Q)] σ).bind fun u2 => (if u2.1 ≤ (3 : Int32) then ((cG (97 + 1 + 1) 31 [.ref 1, .int (nI P), .int (nI Q), .int (pb v), .int c] u2.2.2).bind fun u3 => (some (u3.1, 0, u3.2.2))) else (some ((-1 : Int32), 0, u2.2.2)))) = (if max (pLv lv P) (pLv lv Q) ≤ 3 then some (nI (nc + 1), (0 : Int64), dC σ (nc + 1) P Q (pb v) c (max (pLv lv P) (pLv lv Q)) (pHn H (nc + 1) P Q)) else some (-1, 0, σ)) := by
            rw [c_level h8 hl hP' hQ']
            simp only [pu_bind, c3]
            by_cases h3' : max (pLv lv P) (pLv lv Q) ≤ 3
            · rw [if_pos h3', if_pos h3', c_addC hK hn h8 hl h1.2.2.2.2.2.2.2.1 hP' hQ' hg hc]
              rfl
            · rw [if_neg h3', if_neg h3']
          have eC : cG 100 70 [.ref 0, .int (nI P), .int (nI Q), .int (pb v), .int c] σ = (if max (pLv lv P) (pLv lv Q) ≤ 3 then some (nI (nc + 1), (0 : Int64), dC σ (nc + 1) P Q (pb v) c (max (pLv lv P) (pLv lv Q)) (pHn H (nc + 1) P Q)) else some (-1, 0, σ)) := by
            rw [show (100 : Nat) = 97 + 1 + 1 + 1 from rfl, cp_70_g, if_pos hr, cp_24_g, hK.1, if_pos lt13]
            simp only [pu_bind, if_true]
            by_cases h0 : nI P = 0
            · rw [if_pos h0]
              by_cases h0' : nI Q = 0
              · rw [if_pos h0']
                exact tail
              · unfold pPok at hy
                rw [decide_eq_false h0', Bool.false_or] at hy
                rw [if_neg h0', show 97 + 1 + 1 = 91 + 8 from rfl, c_isParent hK, hy]
                simp only [pu_bind, pb_if, if_true]
                exact tail
            · unfold pPok at hx
              rw [decide_eq_false h0, Bool.false_or] at hx
              rw [if_neg h0, show 97 + 1 + 1 = 91 + 8 from rfl, c_isParent hK, hx]
              simp only [pu_bind, pb_if, if_true]
              by_cases h0' : nI Q = 0
              · rw [if_pos h0']
                exact tail
              · unfold pPok at hy
                rw [decide_eq_false h0', Bool.false_or] at hy
                rw [if_neg h0', c_isParent hK, hy]
                simp only [pu_bind, pb_if, if_true]
                exact tail
          have eR : rG 100 5 [.ref 0, .int (nI P), .int (nI Q), .int (pb v), .int c] τ = (if max (pLv lv P) (pLv lv Q) ≤ 3 then some (nI (nc + 1), (0 : Int64), dR τ (nc + 1) P Q (pb v) c (max (pLv lv P) (pLv lv Q))) else some (-1, 0, τ)) := by
            have h8' : ∀ h, h < 32 → τ.1 3 h = nI (lv h) := by rw [el]; exact h8
            have rt := r_declTail hK2 hn h8' hl hP' hQ' hg hc (97 + 2)
            rw [show (100 : Nat) = 97 + 2 + 1 from rfl, rp_5_g, if_pos hr2, hK2.1, if_pos lt13, r_parental hK2, eg, ec, hx]
            simp only [pu_bind, pb_if, if_true]
            rw [r_parental hK2, eg, ec, hy]
            simp only [pu_bind, pb_if, if_true]
            rw [pu_and5 (show P < 2 ^ 31 by omega)]
            have tP := pu_T (show P % 32 < 32 by omega) (by decide)
            have cP := pu_cl (show P % 32 < 32 by omega) (by decide)
            simp only [tP, cP, if_true, pu_eq0 (show P < 2 ^ 31 by omega), h8' _ (show P % 32 < 32 by omega), nI_1]
            by_cases h0 : P = 0
            · have e0 : pLv lv P = 0 := by unfold pLv; rw [if_pos h0]
              rw [if_pos h0, show 99999960 + 19 = 99999978 + 1 from rfl, rp_5_h5, show 99999978 + 0 = 99999907 + 71 from rfl]
              have := rt 99999907 0
              rw [e0] at this
              rw [e0]
              exact this
            · have e0 : pLv lv P = lv (P % 32) + 1 := by unfold pLv; rw [if_neg h0]
              rw [if_neg h0, if_neg (show ¬ nI (lv (P % 32) + 1) ≤ (0 : Int32) from nI_nle (by omega) (by omega)), show 99999960 + 0 = 99999889 + 71 from rfl]
              have := rt 99999889 0
              rw [e0] at this
              rw [e0]
              exact this
          by_cases hm : max (pLv lv P) (pLv lv Q) ≤ 3
          · rw [if_pos hm] at eC eR
            exact ⟨_, _, eC, eR, rfl, jR_decl h1 h2 h3 h4 h5 h6 h7 hr hn hc hP hP' hQ hQ' hm⟩
          · rw [if_neg hm] at eC eR
            exact ⟨_, _, eC, eR, rfl, hR0⟩
    · have e13 : nc = 13 := by omega
      subst e13
      refine ⟨(-2, 0, σ), (-2, 0, τ), ?_, ?_, rfl, hR0⟩
      · rw [show (100 : Nat) = 98 + 1 + 1 from rfl, cp_70_g, if_pos hr, cp_24_g, hK.1, if_neg (show ¬ nI 13 < (13 : Int32) by decide)]
        rfl
      · rw [show (100 : Nat) = 98 + 1 + 1 from rfl, rp_5_g, if_pos hr2, hK2.1, if_neg (show ¬ nI 13 < (13 : Int32) by decide)]
  · have hr2 : ¬ τ.1 0 15 = 0 := by rw [← h7.1]; exact hr
    refine ⟨(-3, 0, σ), (-3, 0, τ), ?_, ?_, rfl, hR0⟩
    · rw [show (100 : Nat) = 98 + 1 + 1 from rfl, cp_70_g, if_neg hr]
    · rw [show (100 : Nat) = 98 + 1 + 1 from rfl, rp_5_g, if_neg hr2]
