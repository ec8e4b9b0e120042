/-! a bean is added: manage, produce -/
def uq (f : Nat → Int32) (j : Nat) (v : Int32) : Nat → Int32 := fun i => if i = j then v else f i
theorem uq_at {f : Nat → Int32} {j : Nat} {v : Int32} : uq f j v j = v := by simp [uq]
theorem uq_ne {f : Nat → Int32} {j i : Nat} {v : Int32} (h : i ≠ j) : uq f j v i = f i := by simp [uq, h]
theorem uq_id {f : Nat → Int32} {j : Nat} {v : Int32} (h : f j = v) : uq f j v = f := by
  funext i
  unfold uq
  split
  · next e => rw [e, h]
  · rfl
theorem nI_m1 {k : Nat} (h : k < 2 ^ 31) : ¬ nI k = -1 := by
  intro q
  have := congrArg Int32.toInt q
  rw [nI_toInt h] at this
  simp at this
theorem pE_uq {ch ho : Nat → Int32} {nb b : Nat} {c h : Int32} (hb : b < nb) (hn : nb ≤ 16) (hh : ho b = -1 ∨ ∃ k, k < nb ∧ ho b = nI k) : pE (uq ch nb c) (uq ho nb h) b = pE ch ho b := by
  unfold pE
  rw [uq_ne (show b ≠ nb by omega), uq_ne (show b ≠ nb by omega)]
  rcases hh with e | ⟨k, hk, e⟩
  · rw [e]; simp
  · rw [e, nI_clamp (by omega), uq_ne (show k ≠ nb by omega)]
def aC (σ σ' : mm_S) (nb : Nat) (T W s c h m : Int32) : Prop := (∀ k, k ≠ 2 → (k < 13 ∨ 18 < k) → σ'.1 k = σ.1 k) ∧ σ'.1 2 1 = nI (nb + 1) ∧ σ'.1 13 = uq (σ.1 13) nb T ∧ σ'.1 14 = uq (σ.1 14) nb W ∧ σ'.1 15 = uq (σ.1 15) nb s ∧ σ'.1 16 = uq (σ.1 16) nb c ∧ σ'.1 17 = uq (σ.1 17) nb h ∧ σ'.1 18 = uq (σ.1 18) nb m
def aR (τ τ' : mm_S) (nb : Nat) (T W s c h m : Int32) : Prop := (∀ k, k ≠ 0 → (k < 5 ∨ 11 < k) → τ'.1 k = τ.1 k) ∧ (∀ i, i ≠ 5 → τ'.1 0 i = τ.1 0 i) ∧ τ'.1 0 5 = nI (nb + 1) ∧ τ'.1 5 = uq (τ.1 5) nb T ∧ τ'.1 6 = uq (τ.1 6) nb W ∧ τ'.1 7 = uq (τ.1 7) nb s ∧ τ'.1 8 = uq (τ.1 8) nb c ∧ τ'.1 9 = uq (τ.1 9) nb h ∧ τ'.1 10 = uq (τ.1 10) nb m ∧ τ'.1 11 = uq (τ.1 11) nb 0
theorem jR_add {σ σ' τ τ' : mm_S} {nc nb U G : Nat} {F1 F2 lv H : Nat → Nat} {N : Nat → Nat → Nat} {O B ht : Nat → Nat} (h1 : cI σ nc nb F1 F2 lv H) (h2 : sT σ τ) (h3 : jX σ nc nb F1 F2 lv) (h4 : jP σ τ nb) (h5 : jI σ τ nb U G N O B ht) (h6 : jC σ τ nb U O B) (h7 : σ.1 0 5 = τ.1 0 15 ∧ (σ.1 0 5 = 0 ∨ σ.1 0 5 = 1)) (hr : σ.1 0 5 = 0) (hnb : nb < 16) {T : Nat} {W s c h m : Int32} (q : aC σ σ' nb (nI T) W s c h m) (r : aR τ τ' nb (nI T) W s c h m) (hT : pV nc 4 T) (hs : s = 0 ∨ s = 1 ∨ s = 2) (hm : ¬ m = 0 → h = -1) (hh : h = -1 ∨ ∃ k, k < nb ∧ h = nI k ∧ ¬ σ.1 18 k = 0 ∧ σ.1 15 k = 0) : jR σ' τ' := by
  obtain ⟨q0, qn, q13, q14, q15, q16, q17, q18⟩ := q
  obtain ⟨r0, r00, rn, r5, r6, r7, r8, r9, r10, r11⟩ := r
  obtain ⟨i1, i2, i3, i4, i5, i6, i7, i8, i9, i10, i11⟩ := h1
  obtain ⟨s1, s2, s3, s4, s5, s6, s7, s8, s9, s10, s11, s12, s13, s14⟩ := h2
  obtain ⟨x1, x2, x3, x4, x5⟩ := h3
  have e : ∀ k, k ≠ 2 → k < 13 → σ'.1 k = σ.1 k := fun k a b => q0 k a (Or.inl b)
  have e' : ∀ k, 18 < k → σ'.1 k = σ.1 k := fun k a => q0 k (by omega) (Or.inr a)
  have g : ∀ k, k ≠ 0 → k < 5 → τ'.1 k = τ.1 k := fun k a b => r0 k a (Or.inl b)
  have g' : ∀ k, 11 < k → τ'.1 k = τ.1 k := fun k a => r0 k (by omega) (Or.inr a)
  have epE : ∀ b, b < nb → pE (σ'.1 16) (σ'.1 17) b = pE (σ.1 16) (σ.1 17) b := fun b hb => by rw [q16, q17]; exact pE_uq hb (by omega) (i10 b hb)
  have hr' : σ'.1 0 5 = 0 := by rw [e 0 (by decide) (by decide)]; exact hr
  refine ⟨nc, nb + 1, U, G, F1, F2, lv, H, N, O, B, ht, ⟨?_, i2, ?_, i4, i5, ?_, i7, ?_, ?_, ?_, ?_⟩, ⟨?_, ?_, ?_, ?_, ?_, ?_, ?_, ?_, ?_, ?_, ?_, ?_, ?_, ?_⟩, ⟨x1, ?_, ?_, ?_, ?_⟩, ⟨?_, fun hq => absurd hr' hq⟩, ?_, ?_, ?_⟩
  · exact ⟨by rw [e 1 (by decide) (by decide)]; exact i1.1, i1.2⟩
  · exact ⟨qn, by omega⟩
  · intro y hy; rw [e 9 (by decide) (by decide), e 10 (by decide) (by decide)]; exact i6 y hy
  · intro y hy; rw [e 11 (by decide) (by decide)]; exact i8 y hy
  · rw [e 6 (by decide) (by decide)]; exact i9
  · intro j hj
    rw [q17]
    by_cases hjn : j = nb
    · subst hjn
      rw [uq_at]
      rcases hh with a | ⟨k, a, b, -⟩
      · exact Or.inl a
      · exact Or.inr ⟨k, by omega, b⟩
    · rw [uq_ne hjn]
      rcases i10 j (by omega) with a | ⟨k, a, b⟩
      · exact Or.inl a
      · exact Or.inr ⟨k, by omega, b⟩
  · intro j hj
    rw [q13]
    by_cases hjn : j = nb
    · subst hjn
      rw [uq_at]
      exact ⟨T, rfl, hT⟩
    · rw [uq_ne hjn]
      exact i11 j (by omega)
  · rw [e 1 (by decide) (by decide), r00 0 (by decide), s1]
  · rw [qn, rn]
  · rw [e 6 (by decide) (by decide), g 1 (by decide) (by decide), s3]
  · rw [e 7 (by decide) (by decide), g 2 (by decide) (by decide), s4]
  · rw [e 8 (by decide) (by decide), g 3 (by decide) (by decide), s5]
  · intro y; rw [e 9 (by decide) (by decide), e 10 (by decide) (by decide), g 4 (by decide) (by decide)]; exact s6 y
  · rw [q13, r5, s7]
  · rw [q14, r6, s8]
  · rw [q15, r7, s9]
  · rw [q16, r8, s10]
  · rw [q17, r9, s11]
  · rw [q18, r10, s12]
  · rw [e' 19 (by decide), r11, uq_id (by rw [← s13]; exact (x5 nb (Nat.le_refl _)).2), s13]
  · intro b p hp; rw [e' (21 + p) (by omega), e' (25 + p) (by omega), g' 12 (by decide), g' 13 (by decide)]; exact s14 b p hp
  · rw [e 8 (by decide) (by decide)]; exact x2
  · rw [e 7 (by decide) (by decide)]; exact x3
  · intro j hj
    rw [q15, q17, q18, e' 19 (by decide), e 6 (by decide) (by decide)]
    by_cases hjn : j = nb
    · subst hjn
      rw [uq_at, uq_at, uq_at]
      refine ⟨hs, hm, fun k hk ek => ?_, 0, by decide, (x5 j (Nat.le_refl _)).2, fun p hp => absurd hp (Nat.not_lt_zero _)⟩
      rcases hh with a | ⟨k', a, b, c1, c2⟩
      · exact absurd (ek.symm.trans a) (nI_m1 (by omega))
      · have : k' = k := by
          have h0 := b.symm.trans ek
          exact (nI_eq (by omega) (by omega)).1 h0
        subst this
        rw [uq_ne (by omega), uq_ne (by omega)]
        exact ⟨c1, c2⟩
    · rw [uq_ne hjn, uq_ne hjn, uq_ne hjn]
      obtain ⟨y1, y2, y3, mm, y4, y5, y6⟩ := x4 j (by omega)
      refine ⟨y1, y2, fun k hk ek => ?_, mm, y4, y5, fun p hp => ?_⟩
      · have hk' : k < nb := by
          rcases i10 j (by omega) with a | ⟨k', a, b⟩
          · exact absurd (ek.symm.trans a) (nI_m1 (by omega))
          · have : k' = k := (nI_eq (by omega) (by omega)).1 (b.symm.trans ek)
            omega
        rw [uq_ne (by omega), uq_ne (by omega)]
        exact y3 k hk' ek
      · rw [e' (21 + p) (by omega)]
        exact y6 p hp
  · intro j hj
    rw [q18, e' 19 (by decide), uq_ne (by omega)]
    exact x5 j (by omega)
  · intro b p hp
    rw [e' (29 + p) (by omega), g' 14 (by decide)]
    exact h4.1 b p hp
  · obtain ⟨j1, j2, j3, j4, j5, j6, j7, j8, j9, j10, j11, j12, j13, j14, j15⟩ := h5
    refine ⟨j1, j2, ?_, ?_, ?_, ?_, ?_, ?_, ?_, ?_, ?_, ?_, ?_, ?_, fun x hx1 hx2 => ?_⟩
    · rw [e 4 (by decide) (by decide)]; exact j3
    · rw [e 4 (by decide) (by decide)]; exact j4
    · rw [e 4 (by decide) (by decide)]; exact j5
    · rw [r00 24 (by decide)]; exact j6
    · rw [r00 31 (by decide)]; exact j7
    · rw [e' 34 (by decide), g' 20 (by decide)]; exact j8
    · rw [e' 35 (by decide), g' 21 (by decide)]; exact j9
    · rw [e' 36 (by decide), g' 23 (by decide)]; exact j10
    · rw [e' 41 (by decide), g' 25 (by decide)]; exact j11
    · rw [e' 36 (by decide)]; exact j12
    · rw [e' 36 (by decide), g' 24 (by decide)]; exact j13
    · intro x p hp; rw [e' (38 + p) (by omega)]; exact j14 x p hp
    · obtain ⟨⟨a1, a2, a3, a4⟩, b1⟩ := j15 x hx1 hx2
      refine ⟨⟨?_, by omega, ?_, ?_⟩, ?_⟩
      · rw [e' 34 (by decide)]; exact a1
      · rw [epE _ a2]; exact a3
      · rw [e' 35 (by decide), g' 22 (by decide)]; exact a4
      · unfold jI2 at b1 ⊢
        rw [e' 36 (by decide), g' 24 (by decide), q15, uq_ne (show B x ≠ nb by omega)]
        exact b1
  · refine ⟨fun c hc => ?_, fun c b hc hb => ?_, jU_A (fun k _ _ => e' k (by omega)) h6.2.2⟩
    · rw [e' 42 (by decide), g' 32 (by decide)]; exact h6.1 c hc
    · obtain ⟨n, e1, e2, e3⟩ := h6.2.1 c b hc hb
      refine ⟨n, by rw [e' (44 + c) (by omega)]; exact e1, by rw [g' 33 (by decide)]; exact e2, e3.imp id fun ⟨a1, a2, a3, a4, a5, a6, a7, a8⟩ => ⟨a1, a2, by omega, ?_, a5, a6, ?_, ?_⟩⟩
      · rw [e' 36 (by decide)]; exact a4
      · rw [q15, uq_ne (by omega)]; exact a7
      · rw [e' 42 (by decide)]; exact a8
  · rw [e 0 (by decide) (by decide), r00 15 (by decide)]; exact h7
/-! the two programs add alike -/
def cA (σ : mm_S) (nb : Nat) (T W s c h : Int32) : mm_S := (mm_w (mm_w (mm_w (mm_w (mm_w (mm_w σ.1 13 nb T) 14 nb W) 15 nb s) 16 nb c) 17 nb h) 2 1 (nI (nb + 1)), σ.2)
def rA (τ : mm_S) (nb : Nat) (T W s c h : Int32) : mm_S := (mm_w (mm_w (mm_w (mm_w (mm_w (mm_w (mm_w τ.1 5 nb T) 6 nb W) 7 nb s) 8 nb c) 9 nb h) 11 nb 0) 0 5 (nI (nb + 1)), τ.2)
def pW (w : Int32) : Int32 := if w >>> ((3 : Int32) &&& 31) = 0 then w ||| 8 else w
theorem pW_add {w : Int32} (hf : pFine w = true) (h : w >>> ((3 : Int32) &&& 31) = 0) : w + 8 = w ||| 8 := by
  have h0 : ¬ w < 0 := by
    intro q
    unfold pFine at hf
    simp [q] at hf
  obtain ⟨k, hk, rfl⟩ := nI_of (x := w) h0
  rw [pk_shrN hk _ 3 (by decide), pu_eq0 (by omega)] at h
  have h8 : k < 8 := by omega
  rcases (show k = 0 ∨ k = 1 ∨ k = 2 ∨ k = 3 ∨ k = 4 ∨ k = 5 ∨ k = 6 ∨ k = 7 by omega) with rfl | rfl | rfl | rfl | rfl | rfl | rfl | rfl <;> decide
theorem c_add {σ : mm_S} {nb : Nat} (hB : cB σ nb) (hn : nb < 16) (T w s c : Int32) (d : Nat) : cG (d + 2) 3 [.ref 2, .int T, .int w, .int s, .int c] σ = some (nI nb, 0, cA σ nb T (pW w) s c (-1)) := by
  have hT := pu_T hn (by decide)
  have hC := pu_cl hn (by decide)
  have hf : ¬ (16 : Int32) ≤ nI nb := (nI_ge hn (by decide) : ¬ nI 16 ≤ nI nb)
  have e : ∀ W : Int32, (mm_w (mm_w (mm_w (mm_w (mm_w σ.1 13 nb T) 14 nb W) 15 nb s) 16 nb c) 17 nb (-1)) 2 1 + 1 = nI (nb + 1) := fun W => by
    rw [mm_w_off (by decide), mm_w_off (by decide), mm_w_off (by decide), mm_w_off (by decide), mm_w_off (by decide), hB.1, nI_1]
  rw [cp_3_g, c_isFull, hB.1, if_neg hf]
  simp only [pu_bind, if_true, hB.1, hT, hC]
  unfold pW cA
  by_cases hw : w >>> ((3 : Int32) &&& 31) = 0
  · rw [if_pos hw, if_pos hw, show 99999973 + 0 = 99999949 + 24 from rfl, cp_3_h5]
    simp only [hT, if_true, hC, e]
  · rw [if_neg hw, if_neg hw, show 99999973 + 4 = 99999953 + 24 from rfl, cp_3_h5]
    simp only [hT, if_true, hC, e]
theorem r_enter {τ : mm_S} {nb : Nat} (hB : rB τ nb) (hn : nb < 16) (T : Int32) {w : Int32} (hf : pFine w = true) (s c h : Int32) (d : Nat) : rG (d + 1) 6 [.ref 0, .int T, .int w, .int s, .int c, .int h] τ = some (nI nb, 0, rA τ nb T (pW w) s c h) := by
  have hT := pu_T hn (by decide)
  have hC := pu_cl hn (by decide)
  have e : ∀ W : Int32, (mm_w (mm_w (mm_w (mm_w (mm_w (mm_w τ.1 5 nb T) 6 nb W) 7 nb s) 8 nb c) 9 nb h) 11 nb 0) 0 5 + 1 = nI (nb + 1) := fun W => by
    rw [mm_w_off (by decide), mm_w_off (by decide), mm_w_off (by decide), mm_w_off (by decide), mm_w_off (by decide), mm_w_off (by decide), hB.1, nI_1]
  rw [rp_6_g, hB.1]
  simp only [hT, if_true, hC]
  unfold pW rA
  by_cases hw : w >>> ((3 : Int32) &&& 31) = 0
  · rw [if_pos hw, if_pos hw, show 99999981 + 0 = 99999952 + 29 from rfl, rp_6_h2]
    simp only [hT, if_true, hC, e, pW_add hf hw]
  · rw [if_neg hw, if_neg hw, show 99999981 + 3 = 99999955 + 29 from rfl, rp_6_h2]
    simp only [hT, if_true, hC, e]
def pTt (s c : Int32) : Bool := !decide (s < 0) && (!decide (2 < s) && (!decide (c < -1) && !decide (100 < c)))
theorem pTt_if {α : Type} {s c : Int32} {x y : α} : (if s < 0 then y else if 2 < s then y else if c < -1 then y else if c ≤ 100 then x else y) = (if pTt s c = true then x else y) := by
  unfold pTt
  by_cases h1 : s < 0
  · simp [h1]
  · by_cases h2 : 2 < s
    · simp [h1, h2]
    · by_cases h3 : c < -1
      · simp [h1, h2, h3]
      · by_cases h4 : 100 < c
        · have h5 : ¬ c ≤ 100 := by rw [Int32.not_le]; exact h4
          simp [h1, h2, h3, h4, h5]
        · have h5 : c ≤ 100 := Int32.not_lt.1 h4
          simp [h1, h2, h3, h4, h5]
theorem c_traits {σ : mm_S} (w s c : Int32) (d : Nat) : cG (d + 3) 93 [.int w, .int s, .int c] σ = some (pb (pFine w && pTt s c), 0, σ) := by
  rw [cp_93_g, c_areMarks]
  simp only [pu_bind, pb_if]
  cases pFine w with
  | false => rfl
  | true =>
    rw [if_pos rfl]
    unfold pTt
    by_cases h1 : s < 0
    · simp [h1, pb]
    · by_cases h2 : 2 < s
      · simp [h1, h2, pb]
      · by_cases h3 : c < -1
        · simp [h1, h2, h3, pb]
        · by_cases h4 : 100 < c
          · simp [h1, h2, h3, h4, pb]
          · simp [h1, h2, h3, h4, pb]
theorem pTt_s {s c : Int32} (h : pTt s c = true) : s = 0 ∨ s = 1 ∨ s = 2 := by
  unfold pTt at h
  rw [Bool.and_eq_true, Bool.and_eq_true, Bool.not_eq_true', decide_eq_false_iff_not, Bool.not_eq_true', decide_eq_false_iff_not] at h
  rcases pk_ix s (n := 3) (by decide) with a | a | ⟨j, a, rfl⟩
  · exact absurd a h.1
  · exact absurd (Int32.lt_of_lt_of_le (show (2 : Int32) < nI 3 by decide) a) h.2.1
  · rcases (show j = 0 ∨ j = 1 ∨ j = 2 by omega) with rfl | rfl | rfl
    · exact Or.inl rfl
    · exact Or.inr (Or.inl rfl)
    · exact Or.inr (Or.inr rfl)
theorem aC_A {σ : mm_S} {nb : Nat} {T W s c h : Int32} : aC σ (cA σ nb T W s c h) nb T W s c h (σ.1 18 nb) := by
  unfold cA
  refine ⟨fun k h1 h2 => ?_, ?_, ?_, ?_, ?_, ?_, ?_, ?_⟩
  · simp only
    rw [mm_w_ne h1, mm_w_ne (by omega), mm_w_ne (by omega), mm_w_ne (by omega), mm_w_ne (by omega), mm_w_ne (by omega)]
  · simp only [mm_w_at]
  · simp only
    rw [mm_w_ne (by decide), mm_w_ne (by decide), mm_w_ne (by decide), mm_w_ne (by decide), mm_w_ne (by decide), mm_w_eq]; rfl
  · simp only
    rw [mm_w_ne (by decide), mm_w_ne (by decide), mm_w_ne (by decide), mm_w_ne (by decide), mm_w_eq, mm_w_ne (by decide)]; rfl
  · simp only
    rw [mm_w_ne (by decide), mm_w_ne (by decide), mm_w_ne (by decide), mm_w_eq, mm_w_ne (by decide), mm_w_ne (by decide)]; rfl
  · simp only
    rw [mm_w_ne (by decide), mm_w_ne (by decide), mm_w_eq, mm_w_ne (by decide), mm_w_ne (by decide), mm_w_ne (by decide)]; rfl
  · simp only
    rw [mm_w_ne (by decide), mm_w_eq, mm_w_ne (by decide), mm_w_ne (by decide), mm_w_ne (by decide), mm_w_ne (by decide)]; rfl
  · simp only
    rw [mm_w_ne (by decide), mm_w_ne (by decide), mm_w_ne (by decide), mm_w_ne (by decide), mm_w_ne (by decide), mm_w_ne (by decide)]
    exact (uq_id rfl).symm
theorem aR_A {τ : mm_S} {nb : Nat} {T W s c h m : Int32} : aR τ (rA (mm_w τ.1 10 nb m, τ.2) nb T W s c h) nb T W s c h m := by
  unfold rA
  refine ⟨fun k h1 h2 => ?_, fun i hi => ?_, ?_, ?_, ?_, ?_, ?_, ?_, ?_, ?_⟩
  · simp only
    rw [mm_w_ne h1, mm_w_ne (by omega), mm_w_ne (by omega), mm_w_ne (by omega), mm_w_ne (by omega), mm_w_ne (by omega), mm_w_ne (by omega), mm_w_ne (by omega)]
  · simp only
    rw [mm_w_at2 hi, mm_w_off (by decide), mm_w_off (by decide), mm_w_off (by decide), mm_w_off (by decide), mm_w_off (by decide), mm_w_off (by decide), mm_w_off (by decide)]
  · simp only [mm_w_at]
  · simp only
    rw [mm_w_ne (by decide), mm_w_ne (by decide), mm_w_ne (by decide), mm_w_ne (by decide), mm_w_ne (by decide), mm_w_ne (by decide), mm_w_eq, mm_w_ne (by decide)]; rfl
  · simp only
    rw [mm_w_ne (by decide), mm_w_ne (by decide), mm_w_ne (by decide), mm_w_ne (by decide), mm_w_ne (by decide), mm_w_eq, mm_w_ne (by decide), mm_w_ne (by decide)]; rfl
  · simp only
    rw [mm_w_ne (by decide), mm_w_ne (by decide), mm_w_ne (by decide), mm_w_ne (by decide), mm_w_eq, mm_w_ne (by decide), mm_w_ne (by decide), mm_w_ne (by decide)]; rfl
  · simp only
    rw [mm_w_ne (by decide), mm_w_ne (by decide), mm_w_ne (by decide), mm_w_eq, mm_w_ne (by decide), mm_w_ne (by decide), mm_w_ne (by decide), mm_w_ne (by decide)]; rfl
  · simp only
    rw [mm_w_ne (by decide), mm_w_ne (by decide), mm_w_eq, mm_w_ne (by decide), mm_w_ne (by decide), mm_w_ne (by decide), mm_w_ne (by decide), mm_w_ne (by decide)]; rfl
  · simp only
    rw [mm_w_ne (by decide), mm_w_ne (by decide), mm_w_ne (by decide), mm_w_ne (by decide), mm_w_ne (by decide), mm_w_ne (by decide), mm_w_ne (by decide), mm_w_eq]; rfl
  · simp only
    rw [mm_w_ne (by decide), mm_w_eq, mm_w_ne (by decide), mm_w_ne (by decide), mm_w_ne (by decide), mm_w_ne (by decide), mm_w_ne (by decide), mm_w_ne (by decide)]; rfl
