/-! the costs -/
def Kf (σ : mm_S) : Nat → Nat → Nat
  | 0, _ => 0
  | n + 1, b => 1 + pHK σ (Kf σ n) b + pDK σ (Kf σ n) b
def gP (σ : mm_S) (nb : Nat) (ρ : Nat → Nat) : Prop := ∀ b, b < nb → pE (σ.1 16) (σ.1 17) b = true → (σ.1 17 b = -1 ∨ ∃ k, k < nb ∧ σ.1 17 b = nI k ∧ pE (σ.1 16) (σ.1 17) k = true ∧ ρ k < ρ b) ∧ pPt σ b ≤ 3 ∧ σ.1 19 b = nI (pPt σ b) ∧ (∀ p, p < pPt σ b → ∃ y, y < nb ∧ σ.1 (29 + p) b = nI y ∧ pE (σ.1 16) (σ.1 17) y = true ∧ (σ.1 15 y = 0 → ρ y < ρ b)) ∧ ρ b < nb
theorem pTg_e {σ : mm_S} {b p y : Nat} (hy : y < 16) (h : σ.1 (29 + p) b = nI y) : pTg σ b p = y := by
  unfold pTg
  rw [h, nI_clamp (by omega)]
theorem Kf_st {σ : mm_S} {nb : Nat} {ρ : Nat → Nat} (hn : nb ≤ 16) (hg : gP σ nb ρ) : ∀ n b, b < nb → pE (σ.1 16) (σ.1 17) b = true → ρ b < n → Kf σ n b = Kf σ (n + 1) b
  | 0, b, _, _, h => by omega
  | n + 1, b, hb, hE, h => by
    obtain ⟨g1, g2, -, g3, g4⟩ := hg b hb hE
    have ih := Kf_st (ρ := ρ) hn hg n
    rw [show Kf σ (n + 1) b = 1 + pHK σ (Kf σ n) b + pDK σ (Kf σ n) b from rfl, show Kf σ (n + 1 + 1) b = 1 + pHK σ (Kf σ (n + 1)) b + pDK σ (Kf σ (n + 1)) b from rfl]
    have e1 : pHK σ (Kf σ n) b = pHK σ (Kf σ (n + 1)) b := by
      unfold pHK
      rcases g1 with g1 | ⟨k, k1, k2, k3, k4⟩
      · rw [if_pos g1, if_pos g1]
      · rw [k2, if_neg (nI_m1 (by omega)), if_neg (nI_m1 (by omega)), nI_clamp (by omega)]
        exact ih k k1 k3 (by omega)
    have e2 : pDK σ (Kf σ n) b = pDK σ (Kf σ (n + 1)) b := by
      unfold pDK
      refine pSum_ext (fun p hp => ?_)
      obtain ⟨y, y1, y2, y3, y4⟩ := g3 p hp
      rw [pTg_e (by omega) y2]
      by_cases q : σ.1 15 y = 0
      · rw [if_pos q, if_pos q]
        exact ih y y1 y3 (by have := y4 q; omega)
      · rw [if_neg q, if_neg q]
    rw [e1, e2]
theorem Kf_eq {σ : mm_S} {nb : Nat} {ρ : Nat → Nat} (hn : nb ≤ 16) (hg : gP σ nb ρ) {b : Nat} (hb : b < nb) (hE : pE (σ.1 16) (σ.1 17) b = true) : Kf σ nb b = 1 + pHK σ (Kf σ nb) b + pDK σ (Kf σ nb) b := Kf_st hn hg nb b hb hE (hg b hb hE).2.2.2.2
/-- the class's sum, over any row of costs -/
def sC (σ : mm_S) (C : Nat → Int32) (b : Nat) : Nat → Int32
  | 0 => 1 + (if σ.1 17 b = -1 then 0 else C (σ.1 17 b).toNatClampNeg)
  | p + 1 => if σ.1 15 (pTg σ b p) = 0 then sC σ C b p + C (pTg σ b p) else sC σ C b p
def vC (σ : mm_S) (C : Nat → Int32) (b : Nat) : Int32 := if (100 : Int32) < sC σ C b (pPt σ b) then 100 else sC σ C b (pPt σ b)
theorem c_costOver {σ : mm_S} {nb : Nat} {ρ : Nat → Nat} (hB : cB σ nb) (hg : gP σ nb ρ) {b : Nat} (hb : b < nb) (hE : pE (σ.1 16) (σ.1 17) b = true) (d : Nat) : cG (d + 3) 69 [.ref 3, .int (nI b)] σ = some (vC σ (σ.1 33) b, 0, σ) := by
  have hn := hB.2
  obtain ⟨g1, g2, g2', g3, g4⟩ := hg b hb hE
  have hT := pu_T (show b < 16 by omega) (by decide)
  have hC := pu_cl (show b < 16 by omega) (by decide)
  have loop : ∀ (r p f : Nat), p + r = pPt σ b → 27 * (r + 1) ≤ f → mm_ex sc (cG (d + 2)) 1 cp_69_l f cp_69_r1 [.ref 3, .int (nI b), .int (sC σ (σ.1 33) b p), .int (nI p), .null] [] σ = some (vC σ (σ.1 33) b, 0, σ) := by
    intro r
    induction r with
    | zero =>
      intro p f hp hf
      have e : p = pPt σ b := by omega
      subst e
      rw [show f = (f - 27) + 27 by omega, cp_69_h1, c_pointCount hB hb, g2']
      simp only [pu_bind]
      rw [if_pos (nI_le (Nat.le_refl _) (by omega))]
      rfl
    | succ r ih =>
      intro p f hp hf
      obtain ⟨y, y1, y2, y3, y4⟩ := g3 p (by omega)
      have ey := pTg_e (show y < 16 by omega) y2
      have hTy := pu_T (show y < 16 by omega) (by decide)
      have hCy := pu_cl (show y < 16 by omega) (by decide)
      rw [show f = (f - 27) + 27 by omega, cp_69_h1, c_pointCount hB hb, g2']
      simp only [pu_bind, (c_grid28 (show p < 3 by omega)).1, (c_grid28 (show p < 3 by omega)).2, hT, hC, if_true, y2, nI_1]
      rw [if_neg (nI_ge (show p < pPt σ b by omega) (by omega)), c_isDependent hB y1]
      simp only [pu_bind]
      by_cases q : σ.1 15 y = 0
      · rw [if_pos q, if_neg (by decide)]
        simp only [hTy, hCy, if_true]
        have := ih (p + 1) (f - 27 + 0) (by omega) (by omega)
        rw [sC, ey, if_pos q] at this
        exact mm_ref _ _ [.ref 3, .int (nI b), .int (sC σ (σ.1 33) b p + σ.1 33 y), .int (nI (p + 1)), .null] _ _ _ (by simp [mm_rf]) this
      · rw [if_neg q, if_pos rfl]
        have := ih (p + 1) (f - 27 + 7) (by omega) (by omega)
        rw [sC, ey, if_neg q] at this
        exact mm_ref _ _ [.ref 3, .int (nI b), .int (sC σ (σ.1 33) b p), .int (nI (p + 1)), .null] _ _ _ (by simp [mm_rf]) this
  rw [show d + 3 = (d + 2) + 1 from rfl, cp_69_g, c_homeOf hB hb]
  simp only [pu_bnd]
  rcases g1 with g1 | ⟨k, k1, k2, k3, k4⟩
  · rw [g1, show d + 2 = (d + 1) + 1 from rfl, cp_61_g, show d + 1 = d + 1 from rfl, c_exists_n (Or.inl (by decide))]
    simp only [pu_bnd, if_true]
    have := loop (pPt σ b) 0 (99999989 + 0) (by omega) (by omega)
    rw [sC, if_pos g1] at this
    exact this
  · have hTk := pu_T (show k < 16 by omega) (by decide)
    have hCk := pu_cl (show k < 16 by omega) (by decide)
    rw [k2, show d + 2 = (d + 1) + 1 from rfl, cp_61_g, c_exists_y hB k1]
    simp only [pu_bnd, pu_10, if_false, hTk, hCk, if_true]
    have := loop (pPt σ b) 0 (99999989 + 0) (by omega) (by omega)
    rw [sC, k2, if_neg (nI_m1 (by omega)), nI_clamp (show k < 2 ^ 31 by omega)] at this
    exact this
theorem vC_right {σ : mm_S} {nb : Nat} {ρ : Nat → Nat} {C : Nat → Int32} (hn : nb ≤ 16) (hg : gP σ nb ρ) {b : Nat} (hb : b < nb) (hE : pE (σ.1 16) (σ.1 17) b = true) (hr : ∀ c, c < nb → pE (σ.1 16) (σ.1 17) c = true → ρ c < ρ b → C c = nI (min 100 (Kf σ nb c))) : vC σ C b = nI (min 100 (Kf σ nb b)) := by
  obtain ⟨g1, g2, g2', g3, g4⟩ := hg b hb hE
  have hK := Kf_eq hn hg hb hE
  have s0 : ∃ a, sC σ C b 0 = nI (1 + a) ∧ a ≤ 100 ∧ min 100 a = min 100 (pHK σ (Kf σ nb) b) := by
    rw [sC]
    rcases g1 with g1 | ⟨k, k1, k2, k3, k4⟩
    · refine ⟨0, ?_, by omega, ?_⟩
      · rw [if_pos g1]; rfl
      · unfold pHK; rw [if_pos g1]
    · refine ⟨min 100 (Kf σ nb k), ?_, by omega, ?_⟩
      · rw [k2, if_neg (nI_m1 (by omega)), nI_clamp (by omega), hr k k1 k3 k4, show (1 : Int32) = nI 1 by decide, nI_add]
      · unfold pHK
        rw [k2, if_neg (nI_m1 (by omega)), nI_clamp (by omega)]
        omega
  obtain ⟨a, a1, a2, a3⟩ := s0
  have sp : ∀ p, p ≤ pPt σ b → ∃ z, sC σ C b p = nI (1 + a + z) ∧ z ≤ 100 * p ∧ min 100 z = min 100 (pSum (fun p => if σ.1 15 (pTg σ b p) = 0 then Kf σ nb (pTg σ b p) else 0) p) := by
    intro p
    induction p with
    | zero => intro _; exact ⟨0, a1, by omega, by simp [pSum]⟩
    | succ p ih =>
      intro hp
      obtain ⟨z, z1, z2, z3⟩ := ih (by omega)
      obtain ⟨y, y1, y2, y3, y4⟩ := g3 p (by omega)
      have ey := pTg_e (show y < 16 by omega) y2
      rw [sC, pSum, ey]
      by_cases q : σ.1 15 y = 0
      · refine ⟨z + min 100 (Kf σ nb y), ?_, by omega, ?_⟩
        · rw [if_pos q, z1, hr y y1 y3 (y4 q), nI_add, show 1 + a + z + min 100 (Kf σ nb y) = 1 + a + (z + min 100 (Kf σ nb y)) by omega]
        · rw [if_pos q]; omega
      · refine ⟨z, ?_, by omega, ?_⟩
        · rw [if_neg q]; exact z1
        · rw [if_neg q]; omega
  obtain ⟨z, z1, z2, z3⟩ := sp (pPt σ b) (Nat.le_refl _)
  have hD : pDK σ (Kf σ nb) b = pSum (fun p => if σ.1 15 (pTg σ b p) = 0 then Kf σ nb (pTg σ b p) else 0) (pPt σ b) := rfl
  rw [← hD] at z3
  unfold vC
  rw [z1]
  have z300 : z ≤ 300 := by omega
  by_cases q : 100 < 1 + a + z
  · rw [if_pos (show (100 : Int32) < nI (1 + a + z) from (nI_lt q (by omega) : nI 100 < nI _)), show min 100 (Kf σ nb b) = 100 by omega]
    rfl
  · rw [if_neg (show ¬ (100 : Int32) < nI (1 + a + z) from (nI_nlt (by omega) (by decide) : ¬ nI 100 < nI _)), show min 100 (Kf σ nb b) = 1 + a + z by omega]
