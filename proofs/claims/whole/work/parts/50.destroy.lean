/-! destroy -/
def lG (σ : mm_S) (b x : Nat) : Nat → mm_S
  | 0 => σ
  | c + 1 => if (lG σ b x c).1 (44 + c) b = nI x then (mm_w (lG σ b x c).1 (44 + c) b 0, (lG σ b x c).2) else lG σ b x c
def rl (τ : mm_S) (x : Nat) : Nat → mm_S
  | 0 => τ
  | k + 1 => if (rl τ x k).1 33 k = nI x then (mm_w (rl τ x k).1 33 k 0, (rl τ x k).2) else rl τ x k
theorem lG_f {σ : mm_S} {b x : Nat} : ∀ n, (∀ k, k < 44 ∨ 44 + n ≤ k → (lG σ b x n).1 k = σ.1 k) ∧ ∀ c, c < n → ∀ b', (lG σ b x n).1 (44 + c) b' = if b' = b ∧ σ.1 (44 + c) b = nI x then 0 else σ.1 (44 + c) b'
  | 0 => ⟨fun _ _ => rfl, fun c hc => absurd hc (Nat.not_lt_zero _)⟩
  | n + 1 => by
    obtain ⟨i1, i2⟩ := lG_f (σ := σ) (b := b) (x := x) n
    have e := i1 (44 + n) (Or.inr (Nat.le_refl _))
    by_cases h : (lG σ b x n).1 (44 + n) b = nI x
    · rw [lG, if_pos h]
      rw [e] at h
      refine ⟨fun k hk => ?_, fun c hc b' => ?_⟩
      · simp only
        rw [mm_w_ne (by omega)]
        exact i1 k (by omega)
      · simp only
        by_cases hcn : c = n
        · subst hcn
          by_cases hb : b' = b
          · subst hb
            rw [mm_w_at, if_pos ⟨rfl, h⟩]
          · rw [mm_w_at2 hb, e, if_neg (fun q => hb q.1)]
        · rw [mm_w_off (by omega)]
          exact i2 c (by omega) b'
    · rw [lG, if_neg h]
      rw [e] at h
      refine ⟨fun k hk => i1 k (by omega), fun c hc b' => ?_⟩
      by_cases hcn : c = n
      · subst hcn
        rw [e, if_neg (fun q => h q.2)]
      · exact i2 c (by omega) b'
theorem rl_f {τ : mm_S} {x : Nat} : ∀ n, (∀ k, k ≠ 33 → (rl τ x n).1 k = τ.1 k) ∧ ∀ k, (rl τ x n).1 33 k = if k < n ∧ τ.1 33 k = nI x then 0 else τ.1 33 k
  | 0 => ⟨fun _ _ => rfl, fun k => by rw [if_neg (fun q => absurd q.1 (Nat.not_lt_zero _))]; rfl⟩
  | n + 1 => by
    obtain ⟨i1, i2⟩ := rl_f (τ := τ) (x := x) n
    have e : (rl τ x n).1 33 n = τ.1 33 n := by rw [i2 n, if_neg (fun q => absurd q.1 (by omega))]
    by_cases h : (rl τ x n).1 33 n = nI x
    · rw [rl, if_pos h]
      rw [e] at h
      refine ⟨fun k hk => ?_, fun k => ?_⟩
      · simp only
        rw [mm_w_ne hk]
        exact i1 k hk
      · simp only
        by_cases hk : k = n
        · subst hk
          rw [mm_w_at, if_pos ⟨by omega, h⟩]
        · rw [mm_w_at2 hk, i2 k]
          by_cases q : k < n ∧ τ.1 33 k = nI x
          · rw [if_pos q, if_pos ⟨by omega, q.2⟩]
          · rw [if_neg q, if_neg (fun z => q ⟨by omega, z.2⟩)]
    · rw [rl, if_neg h]
      rw [e] at h
      refine ⟨i1, fun k => ?_⟩
      rw [i2 k]
      by_cases hk : k = n
      · subst hk
        rw [if_neg (fun z => absurd z.1 (by omega)), if_neg (fun z => h z.2)]
      · by_cases q : k < n ∧ τ.1 33 k = nI x
        · rw [if_pos q, if_pos ⟨by omega, q.2⟩]
        · rw [if_neg q, if_neg (fun z => q ⟨by omega, z.2⟩)]
theorem c_letGo_loop {σ : mm_S} {b x : Nat} (hb : b < 16) (d : Nat) : ∀ (r c f : Nat), c + r = 4 → 20 * (r + 1) ≤ f → mm_ex sc (cG d) 0 cp_46_l f cp_46_r2 [.ref 5, .int (nI b), .int (nI x), .int (nI c)] [] (lG σ b x c) = some (0, 0, lG σ b x 4) := by
  have hT := pu_T hb (by decide)
  have hC := pu_cl hb (by decide)
  intro r
  induction r with
  | zero =>
    intro c f hc hf
    have e : c = 4 := by omega
    subst e
    rw [show f = (f - 20) + 20 by omega, cp_46_h2, if_pos (show (4 : Int32) ≤ nI 4 by decide)]
  | succ r ih =>
    intro c f hc hf
    rw [show f = (f - 20) + 20 by omega, cp_46_h2, if_neg (show ¬ (4 : Int32) ≤ nI c from (nI_ge (by omega) (by decide) : ¬ nI 4 ≤ nI c))]
    simp only [(c_grid43 (show c < 4 by omega)).1, (c_grid43 (show c < 4 by omega)).2, pu_bind, hT, hC, if_true, nI_1]
    by_cases h : (lG σ b x c).1 (44 + c) b = nI x
    · rw [if_pos h]
      have := ih (c + 1) (f - 20 + 0) (by omega) (by omega)
      rw [lG, if_pos h] at this
      exact this
    · rw [if_neg h]
      have := ih (c + 1) (f - 20 + 7) (by omega) (by omega)
      rw [lG, if_neg h] at this
      exact this
theorem c_letGo {σ : mm_S} {b x : Nat} (hb : b < 16) (d : Nat) : cG (d + 2) 46 [.ref 5, .int (nI b), .int (nI x)] σ = some (0, 0, lG σ b x 4) := by
  rw [cp_46_g, c_isRow hb]
  simp only [pu_bind, pu_10, if_false]
  exact c_letGo_loop (σ := σ) (x := x) hb (d + 1) 4 0 _ rfl (by omega)
theorem r_letGo_loop {τ : mm_S} {x : Nat} {res : mm_R} (d : Nat) (hk : ∀ f, 16 ≤ f → mm_ex sr (rG d) 1 rp_47_l f rp_47_r4 [.ref 0, .int (nI x), .int (nI 64)] [] (rl τ x 64) = some res) : ∀ (r k f : Nat), k + r = 64 → 16 * (r + 1) ≤ f → mm_ex sr (rG d) 1 rp_47_l f rp_47_r4 [.ref 0, .int (nI x), .int (nI k)] [] (rl τ x k) = some res := by
  intro r
  induction r with
  | zero =>
    intro k f hc hf
    have e : k = 64 := by omega
    subst e
    exact hk f (by omega)
  | succ r ih =>
    intro k f hc hf
    have hT := pu_T (show k < 64 by omega) (by decide)
    have hC := pu_cl (show k < 64 by omega) (by decide)
    rw [show f = (f - 16) + 16 by omega, rp_47_h4, if_neg (show ¬ (64 : Int32) ≤ nI k from (nI_ge (by omega) (by decide) : ¬ nI 64 ≤ nI k))]
    simp only [hT, hC, if_true, nI_1]
    by_cases h : (rl τ x k).1 33 k = nI x
    · rw [if_pos h]
      have := ih (k + 1) (f - 16 + 0) (by omega) (by omega)
      rw [rl, if_pos h] at this
      exact this
    · rw [if_neg h]
      have := ih (k + 1) (f - 16 + 5) (by omega) (by omega)
      rw [rl, if_neg h] at this
      exact this
set_option maxHeartbeats 1000000 in
theorem s_destroy : lq_S_destroy jR := by
  intro y σ τ hR
  have hR0 := hR
  obtain ⟨nc, nb, U, G, F1, F2, lv, H, N, O, B, ht, h1, h2, h3, h4, h5, h6, h7⟩ := hR
  have h5' := h5
  obtain ⟨i1, i2, i3, i4, i5, i6, i7, i8, i9, i10, i11, i12, i13, i14, i15⟩ := h5'
  by_cases hr : σ.1 0 5 = 0
  · refine ⟨(-3, 0, σ), (-3, 0, τ), ?_, ?_, rfl, hR0⟩
    · rw [show (100 : Nat) = 98 + 1 + 1 from rfl, cp_84_g, if_pos hr]
    · rw [show (100 : Nat) = 98 + 1 + 1 from rfl, rp_47_g, if_pos (by rw [← h7.1]; exact hr)]
  · have hr2 : ¬ τ.1 0 15 = 0 := by rw [← h7.1]; exact hr
    rcases inst_or U i1 y with h | ⟨x, x1, x2, rfl⟩
    · refine ⟨(-8, 0, σ), (-8, 0, τ), ?_, ?_, rfl, hR0⟩
      · rw [show (100 : Nat) = 98 + 1 + 1 from rfl, cp_84_g, if_neg hr, c_isLiving_n (by rw [i3]; exact h)]; rfl
      · rw [show (100 : Nat) = 98 + 1 + 1 from rfl, rp_47_g, if_neg hr2, r_living_n (by rw [i6]; exact h)]; rfl
    · have hT := pu_T (show x < 201 by omega) (by decide)
      have hC := pu_cl (show x < 201 by omega) (by decide)
      by_cases ha : σ.1 36 x = 0
      · refine ⟨(-8, 0, σ), (-8, 0, τ), ?_, ?_, rfl, hR0⟩
        · rw [show (100 : Nat) = 98 + 1 + 1 from rfl, cp_84_g, if_neg hr, c_isLiving i1 i3 x1 x2]
          simp [ha, pb]
        · rw [show (100 : Nat) = 98 + 1 + 1 from rfl, rp_47_g, if_neg hr2, r_living i1 i6 x1 x2, ← i10]
          simp [ha, pb]
      · have ha2 : ¬ τ.1 23 x = 0 := by rw [← i10]; exact ha
        obtain ⟨⟨a1, a2, a3, a4, a5, a6, a7, a8, a9⟩, b⟩ := i15 x x1 x2
        have hnb := h1.2.2.1.2
        by_cases h0 : O x = 0
        · have hb16 : B x < 16 := by omega
          have hJ := jC_H h6
          obtain ⟨l1, l2⟩ := lG_f (σ := σ) (b := B x) (x := x) 4
          obtain ⟨m1, m2⟩ := rl_f (τ := τ) (x := x) 64
          have hM : jM (lG σ (B x) x 4) (rl τ x 64) nc nb U G F1 F2 lv H N O B ht := jM_A (fun k hk => l1 k (Or.inl (by omega))) (fun k hk => m1 k (by omega)) ⟨h1, h2, h3, h4, h5, h7⟩
          have hH : jH (lG σ (B x) x 4) (rl τ x 64) nb U O B := by
            refine ⟨fun c b' hc hb' => ?_, fun c c' b' hc hc' hb' hne h0' => ?_⟩
            · obtain ⟨z, e1, e2, e3⟩ := hJ.1.1 c b' hc hb'
              rw [l2 c hc b', m2, l1 36 (Or.inl (by decide)), l1 15 (Or.inl (by decide))]
              by_cases hz : z = x
              · subst hz
                have e4 : B z = b' := by
                  rcases e3 with e3 | e3
                  · omega
                  · exact e3.2.2.2.2.2.1
                subst e4
                refine ⟨0, ?_, ?_, Or.inl rfl⟩
                · rw [if_pos ⟨rfl, e1⟩]; rfl
                · rw [if_pos ⟨by omega, e2⟩]; rfl
              · have zl : z ≤ 200 := by
                  rcases e3 with e3 | e3
                  · omega
                  · omega
                have zn : ¬ nI z = nI x := fun q => hz ((nI_eq (by omega) (by omega)).1 q)
                refine ⟨z, ?_, ?_, e3⟩
                · rw [if_neg, e1]
                  rintro ⟨q1, q2⟩
                  subst q1
                  exact zn (e1.symm.trans q2)
                · rw [if_neg, e2]
                  rintro ⟨q1, q2⟩
                  exact zn (e2.symm.trans q2)
            · rw [l2 c hc b'] at h0' ⊢
              rw [l2 c' hc' b']
              split at h0'
              · exact absurd rfl h0'
              · next hq =>
                rw [if_neg hq]
                split
                · exact h0'
                · exact hJ.1.2 c c' b' hc hc' hb' hne h0'
          have hnx : ∀ c b', c < 4 → b' < 16 → ¬ (lG σ (B x) x 4).1 (44 + c) b' = nI x := by
            intro c b' hc hb' q
            rw [l2 c hc b'] at q
            split at q
            · exact nI_ne0 (show 0 < x by omega) (by omega) q.symm
            · next hq =>
              obtain ⟨z, e1, e2, e3⟩ := hJ.1.1 c b' hc hb'
              have zl : z ≤ 200 := by
                rcases e3 with e3 | e3
                · omega
                · omega
              have : z = x := (nI_eq (by omega) (by omega)).1 (e1.symm.trans q)
              subst this
              apply hq
              have e4 : B z = b' := by
                rcases e3 with e3 | e3
                · omega
                · exact e3.2.2.2.2.2.1
              rw [e4]
              exact ⟨rfl, q⟩
          have ea : ¬ (lG σ (B x) x 4).1 36 x = 0 := by rw [l1 36 (Or.inl (by decide))]; exact ha
          obtain ⟨τ', k1, k2, k3, k4⟩ := jM_kill hM x1 x2 h0 ea 0 87 98
          have k5 := jH_kill (τ' := τ') hM.2.2.2.2.1 x1 x2 (by rw [k3.1 33 (by decide), kR_o (by decide) (by decide) (by decide)]) hH hnx
          have kI := k4.2.2.2.2.1
          refine ⟨(nI (tL N x).length, 0, kC (lG σ (B x) x 4) (tL N x)), (nI (tL N x).length, 0, τ'), ?_, ?_, rfl, ?_⟩
          · rw [show (100 : Nat) = 98 + 1 + 1 from rfl, cp_84_g, if_neg hr, c_isLiving i1 i3 x1 x2]
            simp only [pu_bind, pb_if, ha, decide_false, Bool.not_false, if_true]
            rw [cp_55_g, c_isLiving i1 i3 x1 x2]
            simp only [pu_bind, pb_if, ha, decide_false, Bool.not_false, if_true, hT, hC, a4, h0]
            rw [if_pos (show nI 0 = 0 by decide), cp_51_g, i5]
            simp only [pu_bind]
            rw [cp_54_g, c_isLiving i1 i3 x1 x2]
            simp only [pu_bind, pb_if, ha, decide_false, Bool.not_false, if_true, hT, hC, a1]
            rw [show 98 + 1 = 97 + 2 from rfl, c_letGo hb16]
            simp only [pu_bind]
            rw [show 97 + 2 = 87 + 12 from rfl, k1]
            simp only [pu_bind]
            rw [show 87 + 12 = 98 + 1 from rfl, cp_51_g, kI.2.2.2.2.1]
            simp only [pu_bind]
            rw [pk_sub (by omega), show G + (tL N x).length - G = (tL N x).length by omega]
          · rw [show (100 : Nat) = 98 + 1 + 1 from rfl, rp_47_g, if_neg hr2, r_living i1 i6 x1 x2]
            simp only [pu_bind, pb_if, ha2, decide_false, Bool.not_false, if_true, hT, hC]
            rw [← i9, a4, h0, if_pos (show nI 0 = 0 by decide)]
            refine r_letGo_loop (τ := τ) (98 + 1) (fun f hf => ?_) 64 0 _ rfl (by omega)
            rw [show f = (f - 16) + 16 by omega, rp_47_h4, if_pos (show (64 : Int32) ≤ nI 64 by decide), show (.int (0 : Int32) : Value) = .int (nI 0) from rfl, k2]
            simp only [pu_bind, Nat.zero_add]
          · refine ⟨nc, nb, U, _, F1, F2, lv, H, N, O, B, ht, k4.1, k4.2.1, k4.2.2.1, k4.2.2.2.1, kI, jC_of (fun c hc => ?_) k5 ?_ i1, k4.2.2.2.2.2⟩
            · rw [kC_o (by decide) (by decide) (by decide), l1 42 (Or.inl (by decide)), k3.1 32 (by decide), kR_o (by decide) (by decide) (by decide), m1 32 (by decide)]
              exact h6.1 c hc
            · intro c b' hc hb' hq
              rw [kC_o (by omega) (by omega) (by omega), l2 c hc b'] at hq
              rw [kC_o (by decide) (by decide) (by decide), l1 42 (Or.inl (by decide))]
              refine hJ.2 c b' hc hb' (fun z => hq ?_)
              rw [z]
              split <;> rfl
        · have hn0 : ¬ nI (O x) = 0 := nI_ne0 (by omega) (by omega)
          refine ⟨(-1, 0, σ), (-1, 0, τ), ?_, ?_, rfl, hR0⟩
          · rw [show (100 : Nat) = 98 + 1 + 1 from rfl, cp_84_g, if_neg hr, c_isLiving i1 i3 x1 x2]
            simp only [pu_bind, pb_if, ha, decide_false, Bool.not_false, if_true]
            rw [cp_55_g, c_isLiving i1 i3 x1 x2]
            simp only [pu_bind, pb_if, ha, decide_false, Bool.not_false, if_true, hT, hC, a4]
            rw [if_neg hn0]
          · rw [show (100 : Nat) = 98 + 1 + 1 from rfl, rp_47_g, if_neg hr2, r_living i1 i6 x1 x2]
            simp only [pu_bind, pb_if, ha2, decide_false, Bool.not_false, if_true, hT, hC]
            rw [← i9, a4, if_neg hn0]
