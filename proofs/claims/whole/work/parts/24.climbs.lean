/-! PURE: the two loops over the supertypes -/
/-- the class's rows, as numbers -/
def cR (σ : mm_S) (F1 F2 : Nat → Nat) : Prop := ∀ h, h < 32 → σ.1 9 h = nI (F1 h) ∧ σ.1 10 h = nI (F2 h)
def rR (τ : mm_S) (F1 F2 : Nat → Nat) : Prop := ∀ h, h < 32 → τ.1 4 (2 * h) = nI (F1 h) ∧ τ.1 4 (2 * h + 1) = nI (F2 h)
set_option maxHeartbeats 2000000 in
theorem c_cl_loop {σ : mm_S} {F1 F2 lv : Nat → Nat} (hR : pRow F1 F2 lv) (hC : cR σ F1 F2) (t : Int64) (d : Nat) : ∀ (r k f : Nat) (s : (Nat → Int64) × Nat), 16 ≤ k + r → pIn lv s k 16 → 60 * (r + 1) ≤ f → mm_ex sc (cG (d + 1)) 1 cp_33_l f cp_33_r1 [.ref 1, .long t, .null, .int (nI k), .null, .null, .null] [] (cS σ s.1 s.2) = some (nI (pCl F1 F2 (σ.1 6) r k s).2, (0 : Int64), cS σ (pCl F1 F2 (σ.1 6) r k s).1 (pCl F1 F2 (σ.1 6) r k s).2) := by
  intro r
  induction r with
  | zero =>
    intro k f s hk hI hf
    have h1 := hI.1
    have h2 := hI.2
    rw [show f = (f - 31) + 31 by omega, cp_33_h1, cS_n, if_pos (nI_le (show s.2 ≤ k by omega) (by omega))]
    rfl
  | succ r ih =>
    intro k f s hk hI hf
    have h2 := hI.2
    by_cases hle : s.2 ≤ k
    · rw [show f = (f - 31) + 31 by omega, cp_33_h1, cS_n, if_pos (nI_le hle (by have := hI.1; omega))]
      simp only [pCl, if_pos hle]
    · have hlt : k < s.2 := by omega
      obtain ⟨g0, g1, g2, g3⟩ := pIn_st hR (ge := σ.1 6) hlt hI
      have hd := pHd_eq (s.1 k)
      obtain ⟨c1, c2⟩ := hC (pHd (s.1 k)) hd.2
      obtain ⟨p1, p2, -⟩ := hR (pHd (s.1 k)) hd.2
      have k16 := pu_T (show k < 16 by omega) (by decide)
      have ke := pu_cl (show k < 16 by omega) (by decide)
      have h32 := pu_T hd.2 (by decide)
      have e32 := pu_cl hd.2 (by decide)
      -- the second parent
      have two : ∀ (f2 : Nat) (s1 : (Nat → Int64) × Nat), 60 * (r + 1) + 20 ≤ f2 → (¬ F2 (pHd (s.1 k)) = 0 → s1.2 < 16) → s1 = (if F1 (pHd (s.1 k)) = 0 then s else pNt s (pBec (σ.1 6) (F1 (pHd (s.1 k))) (s.1 k))) → mm_ex sc (cG (d + 1)) 1 cp_33_l f2 cp_33_r2 [.ref 1, .long t, .null, .int (nI k), .long (s.1 k), .null, .int (nI (pHd (s.1 k)))] [] (cS σ s1.1 s1.2) = some (nI (pCl F1 F2 (σ.1 6) (r + 1) k s).2, (0 : Int64), cS σ (pCl F1 F2 (σ.1 6) (r + 1) k s).1 (pCl F1 F2 (σ.1 6) (r + 1) k s).2) := by
        intro f2 s1 hf2 hs1 es1
        have fin : ∀ (q : Nat) (s2 : (Nat → Int64) × Nat), q ≤ 16 → s2 = pSt F1 F2 (σ.1 6) (s.1 k) s → mm_ex sc (cG (d + 1)) 1 cp_33_l (f2 - 16 + q) cp_33_r1 [.ref 1, .long t, .null, .int (nI k + 1), .long (s.1 k), .null, .int (nI (pHd (s.1 k)))] [] (cS σ s2.1 s2.2) = some (nI (pCl F1 F2 (σ.1 6) (r + 1) k s).2, (0 : Int64), cS σ (pCl F1 F2 (σ.1 6) (r + 1) k s).1 (pCl F1 F2 (σ.1 6) (r + 1) k s).2) := by
          intro q s2 hq es2
          refine mm_ref _ _ [.ref 1, .long t, .null, .int (nI (k + 1)), .null, .null, .null] _ _ _ (by simp [mm_rf, nI_1]) ?_
          subst es2
          rw [ih (k + 1) _ _ (by omega) g1 (by omega)]
          simp only [pCl, if_neg hle]
        rw [show f2 = (f2 - 16) + 16 by omega, cp_33_h2, cS_o σ s1.1 s1.2 (by decide)]
        simp only [h32, if_true, e32, c2, pu_eq0 (show F2 (pHd (s.1 k)) < 2 ^ 31 by have := p2.1; omega)]
        by_cases hz : F2 (pHd (s.1 k)) = 0
        · rw [if_pos hz]
          refine fin _ _ (by omega) ?_
          rw [es1, pSt, if_pos hz]
        · rw [if_neg hz, c_become p2]
          simp only [Option.bind_some]
          rw [c_note σ s1 (hs1 hz)]
          simp only [Option.bind_some]
          refine fin _ _ (by omega) ?_
          rw [es1, pSt, if_neg hz, cS_o σ _ _ (by decide)]
      rw [show f = (f - 31) + 31 by omega, cp_33_h1, cS_n, if_neg (nI_ge hlt (by omega)), if_neg (show ¬ (16 : Int32) ≤ nI k from (nI_ge (show k < 16 by omega) (by decide) : ¬ nI 16 ≤ nI k)), cS_a, cS_o σ s.1 s.2 (by decide)]
      simp only [ke, k16, if_true, hd.1, h32, e32, c1, pu_eq0 (show F1 (pHd (s.1 k)) < 2 ^ 31 by have := p1.1; omega)]
      by_cases hz : F1 (pHd (s.1 k)) = 0
      · rw [if_pos hz]
        exact two _ s (by omega) (fun q => by have := g3 q; rw [if_pos hz] at this; exact this) (by rw [if_pos hz])
      · rw [if_neg hz, c_become p1]
        simp only [Option.bind_some]
        rw [c_note σ s (g2 hz)]
        simp only [Option.bind_some]
        rw [cS_o σ s.1 s.2 (by decide)]
        exact two _ _ (by omega) (fun q => by have := g3 q; rw [if_neg hz] at this; exact this) (by rw [if_neg hz])
theorem c_start (σ : mm_S) : ((mm_w σ.1 1 8 (0 : Int32), σ.2) : mm_S) = cS σ (σ.2 12) 0 := by
  refine Prod.ext rfl ?_
  funext k
  show σ.2 k = if k = 12 then σ.2 12 else σ.2 k
  by_cases h : k = 12
  · rw [if_pos h, h]
  · rw [if_neg h]
theorem r_start (τ : mm_S) : ((mm_w τ.1 0 20 (0 : Int32), τ.2) : mm_S) = rS τ (τ.2 17) 0 := by
  refine Prod.ext rfl ?_
  funext k
  show τ.2 k = if k = 17 then τ.2 17 else τ.2 k
  by_cases h : k = 17
  · rw [if_pos h, h]
  · rw [if_neg h]
/-- all supertypes of t, from a row a that holds anything -/
def pSup (F1 F2 : Nat → Nat) (ge : Nat → Int32) (a : Nat → Int64) (t : Int64) : (Nat → Int64) × Nat := pCl F1 F2 ge 16 0 (pNt (pNt (a, 0) t) 1)
theorem pIn_first {F1 F2 lv : Nat → Nat} (hR : pRow F1 F2 lv) (h1 : lv 1 = 0) (a : Nat → Int64) (t : Int64) : (pNt (a, 0) t).2 = 1 ∧ pIn lv (pNt (pNt (a, 0) t) 1) 0 16 := by
  have e : pNt (a, 0) t = (pUp a 0 t, 1) := rfl
  have h3 : lv (pHd t) ≤ 3 := (hR (pHd t) (pHd_eq t).2).2.2.1
  have hp : 2 ^ lv (pHd t) ≤ 2 ^ 3 := Nat.pow_le_pow_right (by decide) h3
  have i0 : pIn lv (a, 0) 0 0 := ⟨Nat.le_refl _, by simp [pWt]⟩
  have i1 := pIn_nt (t := t) i0
  have i2 := pIn_nt (t := 1) i1
  refine ⟨by rw [e], i2.1, Nat.le_trans i2.2 ?_⟩
  have c1 : pc lv 1 = 0 := by
    unfold pc
    rw [show pHd 1 = 1 by decide, h1]
  have c2 : pc lv t ≤ 14 := by
    unfold pc
    omega
  omega
theorem c_countSupertypes {σ : mm_S} {F1 F2 lv : Nat → Nat} (hR : pRow F1 F2 lv) (h1 : lv 1 = 0) (hC : cR σ F1 F2) (t : Int64) (d : Nat) : cG (d + 2) 33 [.ref 1, .long t] σ = some (nI (pSup F1 F2 (σ.1 6) (σ.2 12) t).2, (0 : Int64), cS σ (pSup F1 F2 (σ.1 6) (σ.2 12) t).1 (pSup F1 F2 (σ.1 6) (σ.2 12) t).2) := by
  obtain ⟨f1, f2⟩ := pIn_first hR h1 (σ.2 12) t
  rw [cp_33_g, c_start, c_note σ (σ.2 12, 0) (show 0 < 16 by decide)]
  simp only [Option.bind_some]
  rw [c_note σ (pNt (σ.2 12, 0) t) (by rw [f1]; decide)]
  simp only [Option.bind_some]
  have := c_cl_loop hR hC t d 16 0 (99999989 + 0) (pNt (pNt (σ.2 12, 0) t) 1) (by omega) f2 (by omega)
  rw [nI_0] at this
  exact this
set_option maxHeartbeats 2000000 in
theorem r_cl_loop {τ : mm_S} {F1 F2 lv : Nat → Nat} (hR : pRow F1 F2 lv) (hC : rR τ F1 F2) (t : Int64) (d : Nat) : ∀ (r k f : Nat) (s : (Nat → Int64) × Nat), 16 ≤ k + r → pIn lv s k 16 → 200 * (r + 1) ≤ f → mm_ex sr (rG (d + 1)) 0 rp_15_l f rp_15_r1 [.ref 0, .long t, .null, .int (nI k), .null, .null, .null, .null, .null] [] (rS τ s.1 s.2) = some ((0 : Int32), (0 : Int64), rS τ (pCl F1 F2 (τ.1 1) r k s).1 (pCl F1 F2 (τ.1 1) r k s).2) := by
  intro r
  induction r with
  | zero =>
    intro k f s hk hI hf
    have h1 := hI.1
    have h2 := hI.2
    rw [show f = (f - 14) + 14 by omega, rp_15_h1, rS_n, if_pos (nI_le (show s.2 ≤ k by omega) (by omega))]
    rfl
  | succ r ih =>
    intro k f s hk hI hf
    have h2 := hI.2
    by_cases hle : s.2 ≤ k
    · rw [show f = (f - 14) + 14 by omega, rp_15_h1, rS_n, if_pos (nI_le hle (by have := hI.1; omega))]
      simp only [pCl, if_pos hle]
    · have hlt : k < s.2 := by omega
      obtain ⟨g0, g1, g2, g3⟩ := pIn_st hR (ge := τ.1 1) hlt hI
      have hd := pHd_eq (s.1 k)
      obtain ⟨c1, c2⟩ := hC (pHd (s.1 k)) hd.2
      obtain ⟨p1, p2, -⟩ := hR (pHd (s.1 k)) hd.2
      have k16 := pu_T (show k < 16 by omega) (by decide)
      have ke := pu_cl (show k < 16 by omega) (by decide)
      have i0 : (2 : Int32) * nI (pHd (s.1 k)) + 0 = nI (2 * pHd (s.1 k)) := by
        rw [show (2 : Int32) = nI 2 by decide, show (0 : Int32) = nI 0 by decide, pk_mul, nI_add]; rfl
      have i1 : (2 : Int32) * nI (pHd (s.1 k)) + (0 + 1) = nI (2 * pHd (s.1 k) + 1) := by
        rw [show (2 : Int32) = nI 2 by decide, show (0 + 1 : Int32) = nI 1 by decide, pk_mul, nI_add]
      have hd2 := hd.2
      have a0 := pu_T (show 2 * pHd (s.1 k) < 64 by omega) (by decide)
      have b0 := pu_cl (show 2 * pHd (s.1 k) < 64 by omega) (by decide)
      have a1 := pu_T (show 2 * pHd (s.1 k) + 1 < 64 by omega) (by decide)
      have b1 := pu_cl (show 2 * pHd (s.1 k) + 1 < 64 by omega) (by decide)
      have sk : ∀ s1 : (Nat → Int64) × Nat, s1 = (if F1 (pHd (s.1 k)) = 0 then s else pNt s (pBec (τ.1 1) (F1 (pHd (s.1 k))) (s.1 k))) → s1.1 k = s.1 k := by
        intro s1 e
        rw [e]
        split
        · rfl
        · unfold pNt
          split
          · rfl
          · show pUp s.1 s.2 _ k = s.1 k
            unfold pUp
            rw [if_neg (by omega)]
      -- behind both parents
      have fin : ∀ (f3 : Nat) (s2 : (Nat → Int64) × Nat), 200 * (r + 1) + 30 ≤ f3 → s2 = pSt F1 F2 (τ.1 1) (s.1 k) s → mm_ex sr (rG (d + 1)) 0 rp_15_l f3 rp_15_r2 [.ref 0, .long t, .null, .int (nI k), .int (nI (pHd (s.1 k))), .int (0 + 1 + 1), .null, .null, .null] [] (rS τ s2.1 s2.2) = some ((0 : Int32), (0 : Int64), rS τ (pCl F1 F2 (τ.1 1) (r + 1) k s).1 (pCl F1 F2 (τ.1 1) (r + 1) k s).2) := by
        intro f3 s2 hf3 es2
        rw [show f3 = (f3 - 28) + 28 by omega, rp_15_h2, if_pos (by decide)]
        refine mm_ref _ _ [.ref 0, .long t, .null, .int (nI (k + 1)), .null, .null, .null, .null, .null] _ _ _ (by simp [mm_rf, nI_1]) ?_
        subst es2
        rw [ih (k + 1) _ _ (by omega) g1 (by omega)]
        simp only [pCl, if_neg hle]
      have two : ∀ (f2 : Nat) (s1 : (Nat → Int64) × Nat), 200 * (r + 1) + 70 ≤ f2 → (¬ F2 (pHd (s.1 k)) = 0 → s1.2 < 16) → s1 = (if F1 (pHd (s.1 k)) = 0 then s else pNt s (pBec (τ.1 1) (F1 (pHd (s.1 k))) (s.1 k))) → mm_ex sr (rG (d + 1)) 0 rp_15_l f2 rp_15_r2 [.ref 0, .long t, .null, .int (nI k), .int (nI (pHd (s.1 k))), .int (0 + 1), .null, .null, .null] [] (rS τ s1.1 s1.2) = some ((0 : Int32), (0 : Int64), rS τ (pCl F1 F2 (τ.1 1) (r + 1) k s).1 (pCl F1 F2 (τ.1 1) (r + 1) k s).2) := by
        intro f2 s1 hf2 hs1 es1
        rw [show f2 = (f2 - 28) + 28 by omega, rp_15_h2, if_neg (by decide), i1, rS_o τ s1.1 s1.2 (by decide), rS_a]
        simp only [a1, if_true, b1, c2, k16, ke, sk s1 es1, pu_eq0 (show F2 (pHd (s.1 k)) < 2 ^ 31 by have := p2.1; omega)]
        by_cases hz : F2 (pHd (s.1 k)) = 0
        · rw [if_pos hz]
          refine mm_ref _ _ [.ref 0, .long t, .null, .int (nI k), .int (nI (pHd (s.1 k))), .int (0 + 1 + 1), .null, .null, .null] _ _ _ (by simp [mm_rf]) (fin _ _ (by omega) ?_)
          rw [es1, pSt, if_pos hz]
        · rw [if_neg hz, nI_l (by have := p2.1; omega), r_becomes p2]
          simp only [Option.bind_some]
          rw [r_note τ s1 (hs1 hz)]
          simp only [Option.bind_some]
          refine mm_ref _ _ [.ref 0, .long t, .null, .int (nI k), .int (nI (pHd (s.1 k))), .int (0 + 1 + 1), .null, .null, .null] _ _ _ (by simp [mm_rf]) (fin _ _ (by omega) ?_)
          rw [es1, pSt, if_neg hz, rS_o τ _ _ (by decide)]
      rw [show f = (f - 14) + 14 by omega, rp_15_h1, rS_n, if_neg (nI_ge hlt (by omega)), rS_a]
      simp only [ke, k16, if_true, hd.1]
      rw [show f - 14 + 0 = (f - 42) + 28 by omega, rp_15_h2, if_neg (by decide), i0, rS_o τ s.1 s.2 (by decide), rS_a]
      simp only [a0, if_true, b0, c1, k16, ke, pu_eq0 (show F1 (pHd (s.1 k)) < 2 ^ 31 by have := p1.1; omega)]
      by_cases hz : F1 (pHd (s.1 k)) = 0
      · rw [if_pos hz]
        exact mm_ref _ _ [.ref 0, .long t, .null, .int (nI k), .int (nI (pHd (s.1 k))), .int (0 + 1), .null, .null, .null] _ _ _ (by simp [mm_rf]) (two _ s (by omega) (fun q => by have := g3 q; rw [if_pos hz] at this; exact this) (by rw [if_pos hz]))
      · rw [if_neg hz, nI_l (by have := p1.1; omega), r_becomes p1]
        simp only [Option.bind_some]
        rw [r_note τ s (g2 hz)]
        simp only [Option.bind_some]
        rw [rS_o τ s.1 s.2 (by decide)]
        exact mm_ref _ _ [.ref 0, .long t, .null, .int (nI k), .int (nI (pHd (s.1 k))), .int (0 + 1), .null, .null, .null] _ _ _ (by simp [mm_rf]) (two _ _ (by omega) (fun q => by have := g3 q; rw [if_neg hz] at this; exact this) (by rw [if_neg hz]))
theorem r_climb {τ : mm_S} {F1 F2 lv : Nat → Nat} (hR : pRow F1 F2 lv) (h1 : lv 1 = 0) (hC : rR τ F1 F2) (t : Int64) (d : Nat) : rG (d + 2) 15 [.ref 0, .long t] τ = some ((0 : Int32), (0 : Int64), rS τ (pSup F1 F2 (τ.1 1) (τ.2 17) t).1 (pSup F1 F2 (τ.1 1) (τ.2 17) t).2) := by
  obtain ⟨f1, f2⟩ := pIn_first hR h1 (τ.2 17) t
  rw [rp_15_g, r_start, r_note τ (τ.2 17, 0) (show 0 < 16 by decide)]
  simp only [Option.bind_some]
  rw [r_note τ (pNt (τ.2 17, 0) t) (by rw [f1]; decide)]
  simp only [Option.bind_some]
  have := r_cl_loop hR hC t d 16 0 (99999989 + 0) (pNt (pNt (τ.2 17, 0) t) 1) (by omega) f2 (by omega)
  rw [nI_0] at this
  exact this
/-- what stood in the row before makes no difference -/
def pSim (s s' : (Nat → Int64) × Nat) : Prop := s.2 = s'.2 ∧ ∀ i, i < s.2 → s.1 i = s'.1 i
theorem pSim_mem {a a' : Nat → Int64} {t : Int64} {n : Nat} (h : ∀ i, i < n → a i = a' i) : ∀ r k, k + r ≤ n → pMemF a t r k = pMemF a' t r k
  | 0, _, _ => rfl
  | r + 1, k, hk => by
    have ih := pSim_mem (t := t) h r (k + 1) (by omega)
    simp only [pMemF, ih, h k (by omega)]
theorem pSim_nt {s s' : (Nat → Int64) × Nat} (h : pSim s s') (t : Int64) : pSim (pNt s t) (pNt s' t) := by
  obtain ⟨h1, h2⟩ := h
  have e : pMem s.1 s.2 t = pMem s'.1 s'.2 t := by
    unfold pMem
    rw [← h1]
    exact pSim_mem h2 _ _ (by omega)
  unfold pNt
  rw [e]
  split
  · exact ⟨h1, h2⟩
  · refine ⟨by show s.2 + 1 = s'.2 + 1; omega, fun i hi => ?_⟩
    show pUp s.1 s.2 t i = pUp s'.1 s'.2 t i
    unfold pUp
    have hi2 : i < s.2 + 1 := hi
    rw [← h1]
    by_cases q : i = s.2
    · rw [if_pos q, if_pos q]
    · rw [if_neg q, if_neg q]
      exact h2 i (by omega)
theorem pSim_cl {F1 F2 : Nat → Nat} {ge : Nat → Int32} : ∀ (r k : Nat) (s s' : (Nat → Int64) × Nat), pSim s s' → pSim (pCl F1 F2 ge r k s) (pCl F1 F2 ge r k s')
  | 0, _, _, _, h => h
  | r + 1, k, s, s', h => by
    simp only [pCl]
    rw [← h.1]
    split
    · exact h
    · rename_i hk
      refine pSim_cl r (k + 1) _ _ ?_
      rw [← h.2 k (by omega)]
      unfold pSt
      split
      · split
        · exact h
        · exact pSim_nt h _
      · split
        · exact pSim_nt h _
        · exact pSim_nt (pSim_nt h _) _
theorem pSim_sup {F1 F2 : Nat → Nat} {ge : Nat → Int32} {a a' : Nat → Int64} {t : Int64} : pSim (pSup F1 F2 ge a t) (pSup F1 F2 ge a' t) := by
  unfold pSup
  have h0 : pSim (a, 0) (a', 0) := ⟨rfl, fun i hi => absurd hi (Nat.not_lt_zero _)⟩
  exact pSim_cl _ _ _ _ (pSim_nt (pSim_nt h0 t) 1)
