theorem Kf_33 {σ σ' : mm_S} (h : ∀ c, c ≠ 33 → σ'.1 c = σ.1 c) (hp : ∀ b, pPt σ b ≤ 3) : ∀ n b, Kf σ' n b = Kf σ n b
  | 0, _ => rfl
  | n + 1, b => by
    have ih : Kf σ' n = Kf σ n := funext (Kf_33 h hp n)
    have ept : pPt σ' b = pPt σ b := by unfold pPt; rw [h 19 (by decide)]
    rw [show Kf σ' (n + 1) b = 1 + pHK σ' (Kf σ' n) b + pDK σ' (Kf σ' n) b from rfl, show Kf σ (n + 1) b = 1 + pHK σ (Kf σ n) b + pDK σ (Kf σ n) b from rfl, ih]
    have e1 : pHK σ' (Kf σ n) b = pHK σ (Kf σ n) b := by unfold pHK; rw [h 17 (by decide)]
    have e2 : pDK σ' (Kf σ n) b = pDK σ (Kf σ n) b := by
      unfold pDK
      rw [ept, h 15 (by decide)]
      refine pSum_ext (fun p hq => ?_)
      have := hp b
      have et : pTg σ' b p = pTg σ b p := by unfold pTg; rw [h (29 + p) (by omega)]
      rw [et]
    rw [e1, e2]
theorem gP_33 {σ σ' : mm_S} {nb : Nat} {ρ : Nat → Nat} (h : ∀ c, c ≠ 33 → σ'.1 c = σ.1 c) (hg : gP σ nb ρ) : gP σ' nb ρ := by
  intro b hb hE
  rw [h 16 (by decide), h 17 (by decide)] at hE
  obtain ⟨g1, g2, g2', g3, g4⟩ := hg b hb hE
  have ept : pPt σ' b = pPt σ b := by unfold pPt; rw [h 19 (by decide)]
  refine ⟨by rw [h 16 (by decide), h 17 (by decide)]; exact g1, by rw [ept]; exact g2, by rw [ept, h 19 (by decide)]; exact g2', fun p hp => ?_, g4⟩
  rw [ept] at hp
  rw [h (29 + p) (by omega), h 16 (by decide), h 17 (by decide), h 15 (by decide)]
  exact g3 p hp
def cw (σ σ' : mm_S) (nb : Nat) (ρ : Nat → Nat) (t b : Nat) : Prop := (∀ c, c ≠ 33 → σ'.1 c = σ.1 c) ∧ ∀ c, c < nb → pE (σ.1 16) (σ.1 17) c = true → (ρ c < t ∨ (ρ c ≤ t ∧ c < b)) → σ'.1 33 c = nI (min 100 (Kf σ nb c))
set_option maxHeartbeats 1000000 in
theorem c_weigh_in {σ : mm_S} {nb : Nat} {ρ : Nat → Nat} (hB : cB σ nb) (hH : cHo σ nb) (hg : gP σ nb ρ) (hp3 : ∀ b, pPt σ b ≤ 3) (t d : Nat) : ∀ (r b f : Nat) (σ' : mm_S), b + r = nb → 20 * (r + 1) ≤ f → cw σ σ' nb ρ t b → ∃ σ'' g, f ≤ g + 20 * (r + 1) ∧ cw σ σ'' nb ρ (t + 1) 0 ∧ ∀ res, mm_ex sc (cG (d + 3)) 0 cp_63_l g cp_63_r1 [.ref 3, .int (nI (t + 1)), .null] [] σ'' = some res → mm_ex sc (cG (d + 3)) 0 cp_63_l f cp_63_r2 [.ref 3, .int (nI t), .int (nI b)] [] σ' = some res := by
  have hn := hB.2
  intro r
  induction r with
  | zero =>
    intro b f σ' hb hf hw
    have e : b = nb := by omega
    subst e
    refine ⟨σ', f - 20 + 13, by omega, ⟨hw.1, fun c hc hE q => hw.2 c hc hE (Or.inr ⟨by omega, hc⟩)⟩, fun res h => ?_⟩
    rw [show f = (f - 20) + 20 by omega, cp_63_h2, show d + 3 = (d + 2) + 1 from rfl, c_size, hw.1 2 (by decide), hB.1]
    simp only [pu_bind]
    rw [if_pos (nI_le (Nat.le_refl _) (by omega)), nI_1]
    exact mm_ref _ _ [.ref 3, .int (nI (t + 1)), .null] _ _ _ (by simp [mm_rf]) h
  | succ r ih =>
    intro b f σ' hb hf hw
    have hb' : b < nb := by omega
    have hT := pu_T (show b < 16 by omega) (by decide)
    have hC := pu_cl (show b < 16 by omega) (by decide)
    have hB' : cB σ' nb := ⟨by rw [hw.1 2 (by decide)]; exact hB.1, hn⟩
    have hH' : cHo σ' nb := by
      intro j hj
      rw [hw.1 17 (by decide)]; exact hH j hj
    have hen := c_isEnabled hB' hH' hb' (d + 1)
    rw [hw.1 16 (by decide), hw.1 17 (by decide)] at hen
    cases hE : pE (σ.1 16) (σ.1 17) b with
    | false =>
      rw [hE] at hen
      have hw1 : cw σ (mm_w σ'.1 33 b 0, σ'.2) nb ρ t (b + 1) := by
        refine ⟨fun c hc => (mm_w_ne hc).trans (hw.1 c hc), fun c hc hEc q => ?_⟩
        have hcb : c ≠ b := fun z => by subst z; rw [hE] at hEc; exact absurd hEc (by decide)
        show mm_w σ'.1 33 b 0 33 c = _
        rw [mm_w_at2 hcb]
        exact hw.2 c hc hEc (q.imp id fun z => ⟨z.1, by omega⟩)
      obtain ⟨σ'', g, p1, p2, p3⟩ := ih (b + 1) (f - 20 + 3) _ (by omega) (by omega) hw1
      refine ⟨σ'', g, by omega, p2, fun res h => ?_⟩
      rw [show f = (f - 20) + 20 by omega, cp_63_h2, show d + 3 = (d + 2) + 1 from rfl, c_size, hw.1 2 (by decide), hB.1]
      simp only [pu_bnd]
      rw [if_neg (nI_ge hb' (by omega)), show d + 2 + 1 = (d + 1) + 2 from rfl, hen]
      simp only [pu_bnd, Bool.false_eq_true, if_false, if_true, hT, hC, nI_1]
      exact p3 res h
    | true =>
      rw [hE] at hen
      have hg' := gP_33 hw.1 hg
      have hE' : pE (σ'.1 16) (σ'.1 17) b = true := by rw [hw.1 16 (by decide), hw.1 17 (by decide)]; exact hE
      have hco := c_costOver hB' hg' hb' hE' d
      have hw1 : cw σ (mm_w σ'.1 33 b (vC σ' (σ'.1 33) b), σ'.2) nb ρ t (b + 1) := by
        refine ⟨fun c hc => (mm_w_ne hc).trans (hw.1 c hc), fun c hc hEc q => ?_⟩
        show mm_w σ'.1 33 b (vC σ' (σ'.1 33) b) 33 c = _
        by_cases hcb : c = b
        · subst hcb
          rw [mm_w_at, ← Kf_33 hw.1 hp3]
          refine vC_right hn hg' hc hE' (fun y y1 y2 y3 => ?_)
          rw [hw.1 16 (by decide), hw.1 17 (by decide)] at y2
          rw [Kf_33 hw.1 hp3]
          exact hw.2 y y1 y2 (Or.inl (by omega))
        · rw [mm_w_at2 hcb]
          exact hw.2 c hc hEc (q.imp id fun z => ⟨z.1, by omega⟩)
      obtain ⟨σ'', g, p1, p2, p3⟩ := ih (b + 1) (f - 20 + 0) _ (by omega) (by omega) hw1
      refine ⟨σ'', g, by omega, p2, fun res h => ?_⟩
      rw [show f = (f - 20) + 20 by omega, cp_63_h2, show d + 3 = (d + 2) + 1 from rfl, c_size, hw.1 2 (by decide), hB.1]
      simp only [pu_bnd]
      rw [if_neg (nI_ge hb' (by omega)), show d + 2 + 1 = (d + 1) + 2 from rfl, hen]
      simp only [pu_bnd, if_true, pu_10, if_false]
      rw [show d + 1 + 2 = d + 3 by omega, hco]
      simp only [pu_bnd, hT, hC, if_true, nI_1]
      exact p3 res h
theorem c_weigh {σ : mm_S} {nb : Nat} {ρ : Nat → Nat} (hB : cB σ nb) (hH : cHo σ nb) (hg : gP σ nb ρ) (hp3 : ∀ b, pPt σ b ≤ 3) (d : Nat) : ∃ σ', (∀ c, c ≠ 33 → σ'.1 c = σ.1 c) ∧ (∀ b, b < nb → pE (σ.1 16) (σ.1 17) b = true → σ'.1 33 b = nI (min 100 (Kf σ nb b))) ∧ cG (d + 4) 63 [.ref 3] σ = some (0, 0, σ') := by
  have hn := hB.2
  have key : ∀ (r t f : Nat) (σ' : mm_S), t + r = nb → 600 * (r + 1) ≤ f → cw σ σ' nb ρ t 0 → ∃ σ'', cw σ σ'' nb ρ nb 0 ∧ mm_ex sc (cG (d + 3)) 0 cp_63_l f cp_63_r1 [.ref 3, .int (nI t), .null] [] σ' = some (0, 0, σ'') := by
    intro r
    induction r with
    | zero =>
      intro t f σ' ht hf hw
      have e : t = nb := by omega
      subst e
      refine ⟨σ', hw, ?_⟩
      rw [show f = (f - 7) + 7 by omega, cp_63_h1, show d + 3 = (d + 2) + 1 from rfl, c_size, hw.1 2 (by decide), hB.1]
      simp only [pu_bind]
      rw [if_pos (nI_le (Nat.le_refl _) (by omega))]
    | succ r ih =>
      intro t f σ' ht hf hw
      obtain ⟨σ1, g, p1, p2, p3⟩ := c_weigh_in hB hH hg hp3 t d nb 0 (f - 7 + 0) σ' (by omega) (by omega) hw
      obtain ⟨σ2, q1, q2⟩ := ih (t + 1) g σ1 (by omega) (by omega) p2
      refine ⟨σ2, q1, ?_⟩
      rw [show f = (f - 7) + 7 by omega, cp_63_h1, show d + 3 = (d + 2) + 1 from rfl, c_size, hw.1 2 (by decide), hB.1]
      simp only [pu_bind]
      rw [if_neg (nI_ge (show t < nb by omega) (by omega))]
      exact p3 _ q2
  obtain ⟨σ', q1, q2⟩ := key nb 0 (99999998 + 0) σ (by omega) (by omega) ⟨fun _ _ => rfl, fun c _ _ q => by omega⟩
  refine ⟨σ', q1.1, fun b hb hE => q1.2 b hb hE (Or.inl (hg b hb hE).2.2.2.2), ?_⟩
  rw [show d + 4 = (d + 3) + 1 from rfl, cp_63_g]
  exact q2
/-! the reference's prices; τ reads as σ does -/
def gR (σ τ : mm_S) (nb : Nat) : Prop := τ.1 7 = σ.1 15 ∧ τ.1 9 = σ.1 17 ∧ τ.1 11 = σ.1 19 ∧ τ.1 8 = σ.1 16 ∧ (∀ b p, p < 3 → τ.1 14 (3 * b + p) = σ.1 (29 + p) b) ∧ rB τ nb
def rOk (σ : mm_S) (nb : Nat) (C : Nat → Int32) (c : Nat) : Prop := C c = 0 ∨ C c = nI (min 101 (Kf σ nb c))
set_option maxHeartbeats 1000000 in
theorem r_price {σ τ : mm_S} {nb : Nat} {ρ : Nat → Nat} (hg : gP σ nb ρ) (hR : gR σ τ nb) {b : Nat} (hb : b < nb) (hE : pE (σ.1 16) (σ.1 17) b = true) (hc : ∀ c, c < nb → pE (σ.1 16) (σ.1 17) c = true → rOk σ nb (τ.1 16) c) (d : Nat) : ∃ v, rG (d + 1) 31 [.ref 0, .int (nI b)] τ = some (v, 0, τ) ∧ (v = 0 ∨ v = nI (min 101 (Kf σ nb b))) ∧ ((∀ c, c < nb → pE (σ.1 16) (σ.1 17) c = true → ρ c < ρ b → τ.1 16 c = nI (min 101 (Kf σ nb c))) → v = nI (min 101 (Kf σ nb b))) := by
  obtain ⟨r7, r9, r11, r8, r14, rb⟩ := hR
  have hn := rb.2
  obtain ⟨g1, g2, g2', g3, g4⟩ := hg b hb hE
  have hK := Kf_eq hn hg hb hE
  have hD : pDK σ (Kf σ nb) b = pSum (fun p => if σ.1 15 (pTg σ b p) = 0 then Kf σ nb (pTg σ b p) else 0) (pPt σ b) := rfl
  have hT := pu_T (show b < 16 by omega) (by decide)
  have hC := pu_cl (show b < 16 by omega) (by decide)
  have e3 : (3 : Int32) * nI b = nI (3 * b) := by rw [show (3 : Int32) = nI 3 by decide, pk_mul]
  have kpos : ∀ c, c < nb → pE (σ.1 16) (σ.1 17) c = true → 1 ≤ Kf σ nb c := fun c hc hEc => by rw [Kf_eq hn hg hc hEc]; omega
  have loop : ∀ (r p f z : Nat), p + r = pPt σ b → 39 * (r + 1) ≤ f → z ≤ 101 * p → min 101 z = min 101 (pSum (fun p => if σ.1 15 (pTg σ b p) = 0 then Kf σ nb (pTg σ b p) else 0) p) → ∃ v, mm_ex sr (rG d) 1 rp_31_l f rp_31_r1 [.ref 0, .int (nI b), .int (nI (1 + z)), .int (nI (3 * b + p)), .null] [] τ = some (v, 0, τ) ∧ (v = 0 ∨ v = nI (min 101 (Kf σ nb b))) ∧ ((∀ c, c < nb → pE (σ.1 16) (σ.1 17) c = true → ρ c < ρ b → τ.1 16 c = nI (min 101 (Kf σ nb c))) → v = nI (min 101 (Kf σ nb b))) := by
    intro r
    induction r with
    | zero =>
      intro p f z hp hf hz hs
      have e : p = pPt σ b := by omega
      subst e
      rw [← hD] at hs
      have z303 : z ≤ 303 := by omega
      have c101 : ∀ a, a < 2 ^ 31 → ((nI a ≤ (101 : Int32)) ↔ a ≤ 101) := fun a ha => (nI_leI ha (by decide) : nI a ≤ nI 101 ↔ a ≤ 101)
      rcases g1 with g1 | ⟨k, k1, k2, k3, k4⟩
      · have hh0 : pHK σ (Kf σ nb) b = 0 := by unfold pHK; rw [if_pos g1]
        refine ⟨nI (min 101 (Kf σ nb b)), ?_, Or.inr rfl, fun _ => rfl⟩
        rw [show f = (f - 39) + 39 by omega, rp_31_h1]
        simp only [hT, hC, if_true, r11, g2', e3, nI_add, r9, g1]
        rw [if_pos (nI_le (Nat.le_refl _) (by omega)), if_pos (by decide)]
        by_cases q : 1 + z ≤ 101
        · rw [if_pos ((c101 _ (by omega)).2 q), show min 101 (Kf σ nb b) = 1 + z by omega]
        · rw [if_neg (fun w => q ((c101 _ (by omega)).1 w)), show min 101 (Kf σ nb b) = 101 by omega]
          rfl
      · have hh0 : pHK σ (Kf σ nb) b = Kf σ nb k := by unfold pHK; rw [k2, if_neg (nI_m1 (by omega)), nI_clamp (by omega)]
        have hTk := pu_T (show k < 16 by omega) (by decide)
        have hCk := pu_cl (show k < 16 by omega) (by decide)
        have kp := kpos k k1 k3
        have base : mm_ex sr (rG d) 1 rp_31_l f rp_31_r1 [.ref 0, .int (nI b), .int (nI (1 + z)), .int (nI (3 * b + pPt σ b)), .null] [] τ = (if τ.1 16 k = 0 then some ((0 : Int32), 0, τ) else (if nI (1 + z) + τ.1 16 k ≤ (101 : Int32) then some (nI (1 + z) + τ.1 16 k, 0, τ) else some ((101 : Int32), 0, τ))) := by
          rw [show f = (f - 39) + 39 by omega, rp_31_h1]
          simp only [hT, hC, if_true, r11, g2', e3, nI_add, r9, k2, hTk, hCk]
          rw [if_pos (nI_le (Nat.le_refl _) (by omega)), if_neg (nI_pos (by omega))]
        rcases hc k k1 k3 with q | q
        · refine ⟨0, by rw [base, if_pos q], Or.inl rfl, fun hr => ?_⟩
          rw [hr k k1 k3 k4] at q
          exact absurd q (nI_ne0 (by omega) (by omega))
        · refine ⟨nI (min 101 (Kf σ nb b)), ?_, Or.inr rfl, fun _ => rfl⟩
          rw [base, q, if_neg (nI_ne0 (by omega) (by omega)), nI_add]
          by_cases q2 : 1 + z + min 101 (Kf σ nb k) ≤ 101
          · rw [if_pos ((c101 _ (by omega)).2 q2), show min 101 (Kf σ nb b) = 1 + z + min 101 (Kf σ nb k) by omega]
          · rw [if_neg (fun w => q2 ((c101 _ (by omega)).1 w)), show min 101 (Kf σ nb b) = 101 by omega]
            rfl
    | succ r ih =>
      intro p f z hp hf hz hs
      obtain ⟨y, y1, y2, y3, y4⟩ := g3 p (by omega)
      have ey := pTg_e (show y < 16 by omega) y2
      have hTy := pu_T (show y < 16 by omega) (by decide)
      have hCy := pu_cl (show y < 16 by omega) (by decide)
      have hT2 := pu_T (show 3 * b + p < 48 by omega) (by decide)
      have hC2 := pu_cl (show 3 * b + p < 48 by omega) (by decide)
      have base : mm_ex sr (rG d) 1 rp_31_l f rp_31_r1 [.ref 0, .int (nI b), .int (nI (1 + z)), .int (nI (3 * b + p)), .null] [] τ = (if σ.1 15 y = 0 then (if τ.1 16 y = 0 then some ((0 : Int32), 0, τ) else (mm_ex sr (rG d) 1 rp_31_l (f - 39 + 5) rp_31_r1 [.ref 0, .int (nI b), .int (nI (1 + z) + τ.1 16 y), .int (nI (3 * b + p + 1)), .int (nI y)] [] τ)) else (mm_ex sr (rG d) 1 rp_31_l (f - 39 + 17) rp_31_r1 [.ref 0, .int (nI b), .int (nI (1 + z)), .int (nI (3 * b + p + 1)), .int (nI y)] [] τ)) := by
        conv => lhs; rw [show f = (f - 39) + 39 by omega, rp_31_h1]
        simp only [hT, hC, if_true, r11, g2', e3, nI_add, hT2, hC2, r14 b p (by omega), y2, hTy, hCy, r7, nI_1]
        rw [if_neg (nI_ge (show 3 * b + p < 3 * b + pPt σ b by omega) (by omega))]
      have ps : pSum (fun p => if σ.1 15 (pTg σ b p) = 0 then Kf σ nb (pTg σ b p) else 0) (p + 1) = pSum (fun p => if σ.1 15 (pTg σ b p) = 0 then Kf σ nb (pTg σ b p) else 0) p + (if σ.1 15 y = 0 then Kf σ nb y else 0) := by rw [pSum, ey]
      by_cases q : σ.1 15 y = 0
      · have kp := kpos y y1 y3
        rw [if_pos q] at ps
        rcases hc y y1 y3 with q1 | q1
        · refine ⟨0, by rw [base, if_pos q, if_pos q1], Or.inl rfl, fun hr => ?_⟩
          rw [hr y y1 y3 (y4 q)] at q1
          exact absurd q1 (nI_ne0 (by omega) (by omega))
        · obtain ⟨v, v1, v2, v3⟩ := ih (p + 1) (f - 39 + 5) (z + min 101 (Kf σ nb y)) (by omega) (by omega) (by omega) (by rw [ps]; omega)
          refine ⟨v, ?_, v2, v3⟩
          rw [base, if_pos q, q1, if_neg (nI_ne0 (by omega) (by omega)), nI_add]
          exact mm_ref _ _ [.ref 0, .int (nI b), .int (nI (1 + (z + min 101 (Kf σ nb y)))), .int (nI (3 * b + (p + 1))), .null] _ _ _ (by simp [mm_rf, show 3 * b + p + 1 = 3 * b + (p + 1) by omega, show 1 + z + min 101 (Kf σ nb y) = 1 + (z + min 101 (Kf σ nb y)) by omega]) v1
      · rw [if_neg q] at ps
        obtain ⟨v, v1, v2, v3⟩ := ih (p + 1) (f - 39 + 17) z (by omega) (by omega) (by omega) (by rw [ps]; omega)
        refine ⟨v, ?_, v2, v3⟩
        rw [base, if_neg q]
        exact mm_ref _ _ [.ref 0, .int (nI b), .int (nI (1 + z)), .int (nI (3 * b + (p + 1))), .null] _ _ _ (by simp [mm_rf, show 3 * b + p + 1 = 3 * b + (p + 1) by omega]) v1
  obtain ⟨v, v1, v2, v3⟩ := loop (pPt σ b) 0 (99999994 + 0) 0 (by omega) (by omega) (by omega) rfl
  refine ⟨v, ?_, v2, v3⟩
  rw [rp_31_g, e3]
  exact v1
