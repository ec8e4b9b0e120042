def rw2 (σ τ τ' : mm_S) (nb : Nat) (ρ : Nat → Nat) (t b : Nat) : Prop := (∀ c, c ≠ 16 → τ'.1 c = τ.1 c) ∧ (∀ c, c < nb → pE (σ.1 16) (σ.1 17) c = true → rOk σ nb (τ'.1 16) c) ∧ (∀ c, c < nb → pE (σ.1 16) (σ.1 17) c = true → (ρ c < t ∨ (ρ c ≤ t ∧ c < b)) → τ'.1 16 c = nI (min 101 (Kf σ nb c)))
theorem gR_16 {σ τ τ' : mm_S} {nb : Nat} (h : ∀ c, c ≠ 16 → τ'.1 c = τ.1 c) (hR : gR σ τ nb) : gR σ τ' nb := by
  unfold gR rB at *
  rw [h 7 (by decide), h 9 (by decide), h 11 (by decide), h 8 (by decide), h 14 (by decide), h 0 (by decide)]
  exact hR
set_option maxHeartbeats 1000000 in
theorem r_prices_in {σ τ : mm_S} {nb : Nat} {ρ : Nat → Nat} (hg : gP σ nb ρ) (hR : gR σ τ nb) (hH : cHo σ nb) {x1 : Int32} (t d : Nat) : ∀ (r b f : Nat) (τ' : mm_S), b + r = nb → 22 * (r + 1) ≤ f → rw2 σ τ τ' nb ρ t b → ∃ τ'' g, f ≤ g + 22 * (r + 1) ∧ rw2 σ τ τ'' nb ρ (t + 1) 0 ∧ ∀ res, mm_ex sr (rG (d + 1)) 1 rp_32_l g rp_32_r10 [.ref 0, .int x1, .int (nI (t + 1)), .null] [] τ'' = some res → mm_ex sr (rG (d + 1)) 1 rp_32_l f rp_32_r11 [.ref 0, .int x1, .int (nI t), .int (nI b)] [] τ' = some res := by
  have hn := hR.2.2.2.2.2.2
  intro r
  induction r with
  | zero =>
    intro b f τ' hb hf hw
    have e : b = nb := by omega
    subst e
    have hR' := gR_16 hw.1 hR
    refine ⟨τ', f - 22 + 16, by omega, ⟨hw.1, hw.2.1, fun c hc hE q => hw.2.2 c hc hE (Or.inr ⟨by omega, hc⟩)⟩, fun res h => ?_⟩
    rw [show f = (f - 22) + 22 by omega, rp_32_h11, hR'.2.2.2.2.2.1, if_pos (nI_le (Nat.le_refl _) (by omega)), nI_1]
    exact mm_ref _ _ [.ref 0, .int x1, .int (nI (t + 1)), .null] _ _ _ (by simp [mm_rf]) h
  | succ r ih =>
    intro b f τ' hb hf hw
    have hb' : b < nb := by omega
    have hT := pu_T (show b < 16 by omega) (by decide)
    have hC := pu_cl (show b < 16 by omega) (by decide)
    have hR' := gR_16 hw.1 hR
    have hHo : rHo τ' nb := by
      intro j hj
      rw [hR'.2.1]; exact hH j hj
    have hen := r_enabled hR'.2.2.2.2.2 hHo hb' d
    rw [hR'.2.2.2.1, hR'.2.1] at hen
    cases hE : pE (σ.1 16) (σ.1 17) b with
    | false =>
      rw [hE] at hen
      have hw1 : rw2 σ τ τ' nb ρ t (b + 1) := by
        refine ⟨hw.1, hw.2.1, fun c hc hEc q => ?_⟩
        have hcb : c ≠ b := fun z => by subst z; rw [hE] at hEc; exact absurd hEc (by decide)
        exact hw.2.2 c hc hEc (q.imp id fun z => ⟨z.1, by omega⟩)
      obtain ⟨τ'', g, p1, p2, p3⟩ := ih (b + 1) (f - 22 + 12) _ (by omega) (by omega) hw1
      refine ⟨τ'', g, by omega, p2, fun res h => ?_⟩
      rw [show f = (f - 22) + 22 by omega, rp_32_h11, hR'.2.2.2.2.2.1, if_neg (nI_ge hb' (by omega)), hen]
      simp only [pu_bnd, Bool.false_eq_true, if_false, if_true, nI_1]
      exact p3 res h
    | true =>
      rw [hE] at hen
      by_cases h0 : τ'.1 16 b = 0
      · obtain ⟨v, v1, v2, v3⟩ := r_price hg hR' hb' hE hw.2.1 d
        have hw1 : rw2 σ τ (mm_w τ'.1 16 b v, τ'.2) nb ρ t (b + 1) := by
          refine ⟨fun c hc => (mm_w_ne hc).trans (hw.1 c hc), fun c hc hEc => ?_, fun c hc hEc q => ?_⟩
          · show mm_w τ'.1 16 b v 16 c = 0 ∨ mm_w τ'.1 16 b v 16 c = _
            by_cases hcb : c = b
            · subst hcb; rw [mm_w_at]; exact v2
            · rw [mm_w_at2 hcb]; exact hw.2.1 c hc hEc
          · show mm_w τ'.1 16 b v 16 c = _
            by_cases hcb : c = b
            · subst hcb
              rw [mm_w_at]
              exact v3 (fun y y1 y2 y3 => hw.2.2 y y1 y2 (Or.inl (by omega)))
            · rw [mm_w_at2 hcb]
              exact hw.2.2 c hc hEc (q.imp id fun z => ⟨z.1, by omega⟩)
        obtain ⟨τ'', g, p1, p2, p3⟩ := ih (b + 1) (f - 22 + 0) _ (by omega) (by omega) hw1
        refine ⟨τ'', g, by omega, p2, fun res h => ?_⟩
        rw [show f = (f - 22) + 22 by omega, rp_32_h11, hR'.2.2.2.2.2.1, if_neg (nI_ge hb' (by omega)), hen]
        simp only [pu_bnd, if_true, pu_10, if_false, hT, hC, h0]
        rw [v1]
        simp only [pu_bnd, if_true, nI_1]
        exact p3 res h
      · have hrt := (hw.2.1 b hb' hE).resolve_left h0
        have hw1 : rw2 σ τ τ' nb ρ t (b + 1) := by
          refine ⟨hw.1, hw.2.1, fun c hc hEc q => ?_⟩
          by_cases hcb : c = b
          · subst hcb; exact hrt
          · exact hw.2.2 c hc hEc (q.imp id fun z => ⟨z.1, by omega⟩)
        obtain ⟨τ'', g, p1, p2, p3⟩ := ih (b + 1) (f - 22 + 7) _ (by omega) (by omega) hw1
        refine ⟨τ'', g, by omega, p2, fun res h => ?_⟩
        rw [show f = (f - 22) + 22 by omega, rp_32_h11, hR'.2.2.2.2.2.1, if_neg (nI_ge hb' (by omega)), hen]
        simp only [pu_bnd, if_true, pu_10, if_false, hT, hC, h0, nI_1]
        exact p3 res h
theorem r_prices {σ τ : mm_S} {nb : Nat} {ρ : Nat → Nat} (hg : gP σ nb ρ) (hR : gR σ τ nb) (hH : cHo σ nb) (h0 : ∀ b, b < nb → τ.1 16 b = 0) {x1 : Int32} (d f : Nat) (hf : 9000 ≤ f) : ∃ τ', (∀ c, c ≠ 16 → τ'.1 c = τ.1 c) ∧ (∀ b, b < nb → pE (σ.1 16) (σ.1 17) b = true → τ'.1 16 b = nI (min 101 (Kf σ nb b))) ∧ mm_ex sr (rG (d + 1)) 1 rp_32_l f rp_32_r10 [.ref 0, .int x1, .int (nI 0), .null] [] τ = some (0, 0, τ') := by
  have hn := hR.2.2.2.2.2.2
  have key : ∀ (r t f : Nat) (τ' : mm_S), t + r = 16 → 500 * (r + 1) ≤ f → rw2 σ τ τ' nb ρ t 0 → ∃ τ'', rw2 σ τ τ'' nb ρ 16 0 ∧ mm_ex sr (rG (d + 1)) 1 rp_32_l f rp_32_r10 [.ref 0, .int x1, .int (nI t), .null] [] τ' = some (0, 0, τ'') := by
    intro r
    induction r with
    | zero =>
      intro t f τ' ht hf hw
      have e : t = 16 := by omega
      subst e
      refine ⟨τ', hw, ?_⟩
      rw [show f = (f - 5) + 5 by omega, rp_32_h10, if_pos (show (16 : Int32) ≤ nI 16 by decide)]
    | succ r ih =>
      intro t f τ' ht hf hw
      obtain ⟨τ1, g, p1, p2, p3⟩ := r_prices_in (x1 := x1) hg hR hH t d nb 0 (f - 5 + 0) τ' (by omega) (by omega) hw
      obtain ⟨τ2, q1, q2⟩ := ih (t + 1) g τ1 (by omega) (by omega) p2
      refine ⟨τ2, q1, ?_⟩
      rw [show f = (f - 5) + 5 by omega, rp_32_h10, if_neg (show ¬ (16 : Int32) ≤ nI t from (nI_ge (by omega) (by decide) : ¬ nI 16 ≤ nI t))]
      exact p3 _ q2
  obtain ⟨τ', q1, q2⟩ := key 16 0 f τ rfl (by omega) ⟨fun _ _ => rfl, fun c hc _ => Or.inl (h0 c hc), fun c _ _ q => by omega⟩
  exact ⟨τ', q1.1, fun b hb hE => q1.2.2 b hb hE (Or.inl (by have := (hg b hb hE).2.2.2.2; omega)), q2⟩
theorem nMf_mono {v : Nat → Int32} {s : Nat → Int32} {ho : Int32} {i p : Nat} (h : (nMf v s ho p).testBit i = true) : ∀ r, (nMf v s ho (p + r)).testBit i = true
  | 0 => h
  | r + 1 => by
    rw [show p + (r + 1) = (p + r) + 1 by omega, nMf]
    have := nMf_mono h r
    split
    · exact this
    · rw [Nat.testBit_or, this, Bool.true_or]
theorem nMf_home {v : Nat → Int32} {s : Nat → Int32} {k m : Nat} (hk : k < 16) : (nMf v s (nI k) m).testBit k = true := by
  have := nMf_mono (v := v) (s := s) (ho := nI k) (i := k) (p := 0) (by rw [nMf, if_neg (nI_m1 (by omega)), nI_clamp (by omega)]; exact Nat.testBit_two_pow_self) m
  rw [Nat.zero_add] at this
  exact this
theorem nMf_tg {v : Nat → Int32} {s : Nat → Int32} {ho : Int32} {y p m : Nat} (hy : y < 16) (hp : p < m) (e : v p = nI y) (hs : s y = 0) : (nMf v s ho m).testBit y = true := by
  have := nMf_mono (v := v) (s := s) (ho := ho) (i := y) (p := p + 1) (by
    rw [nMf, e, nI_clamp (by omega), if_neg (fun q => q.elim (nI_pos (by omega)) (fun z => z hs)), Nat.testBit_or, Nat.testBit_two_pow_self, Bool.or_true]) (m - (p + 1))
  rw [show p + 1 + (m - (p + 1)) = m by omega] at this
  exact this
theorem i_or_z {a b : Int32} (h : a ||| b = 0) : a = 0 ∧ b = 0 := by
  have h' := congrArg Int32.toBitVec h
  rw [Int32.toBitVec_or] at h'
  have : a.toBitVec = 0 ∧ b.toBitVec = 0 := by
    have e := h'
    rw [show (0 : Int32).toBitVec = 0#32 from rfl, BitVec.or_eq_zero_iff] at e
    exact e
  exact ⟨Int32.toBitVec_inj.1 this.1, Int32.toBitVec_inj.1 this.2⟩
theorem jPb_z {e : Nat → Int32} : ∀ {m : Nat}, jPb e m = 0 → ∀ p, p < m → e p = 0
  | 0, _, p, hp => by omega
  | m + 1, h, p, hp => by
    rw [jPb] at h
    obtain ⟨h1, h2⟩ := i_or_z h
    by_cases q : p = m
    · subst q; exact h2
    · exact jPb_z h1 p (by omega)
theorem PR_z {σ : mm_S} {nb : Nat} {F1 F2 : Nat → Nat} : ∀ {n : Nat}, PR σ nb F1 F2 n = 0 → ∀ b, b < n → pE (σ.1 16) (σ.1 17) b = true → ∀ p, p < pPt σ b → eP σ nb F1 F2 b p = 0
  | 0, _, b, hb => by omega
  | n + 1, h, b, hb => by
    intro hE p hp
    rw [PR] at h
    by_cases q : b = n
    · subst q
      rw [if_pos hE] at h
      exact jPb_z (i_or_z (i_or_z h).2).2 p hp
    · refine PR_z (n := n) ?_ b (by omega) hE p hp
      split at h
      · exact (i_or_z h).1
      · exact h
theorem eP_z {σ : mm_S} {nb : Nat} {F1 F2 : Nat → Nat} {b p : Nat} (h : eP σ nb F1 F2 b p = 0) : ∃ y, y < nb ∧ vT σ nb F1 F2 b p = nI y ∧ pE (σ.1 16) (σ.1 17) y = true := by
  unfold eP at h
  rcases vT_or σ nb F1 F2 b p with q | q | q
  · rw [if_pos q] at h; exact absurd h (by decide)
  · rw [if_neg (by rw [q]; decide), if_pos q] at h; exact absurd h (by decide)
  · exact q
