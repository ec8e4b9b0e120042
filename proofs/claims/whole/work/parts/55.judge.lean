/-! deploy: what each injection point leads to, the problems, what each bean needs -/
theorem nI_nn {k : Nat} {x : Int32} (h : k < 2 ^ 31) (hx : x < 0) : ¬ nI k = x := fun q => nI_pos h (by rw [q]; exact hx)
theorem c_hasPoint {σ : mm_S} {n j m p : Nat} (hB : cB σ n) (hj : j < n) (em : σ.1 19 j = nI m) (hm : m ≤ 3) (hp : p < m) (d : Nat) : cG (d + 3) 12 [.ref 2, .int (nI j), .int (nI p)] σ = some (1, 0, σ) := by
  rw [cp_12_g, if_neg (nI_pos (by omega)), c_pointCount hB hj, em]
  simp only [pu_bind]
  rw [if_neg (nI_ge hp (by omega))]
theorem c_pointType {σ : mm_S} {n j m p : Nat} (hB : cB σ n) (hj : j < n) (em : σ.1 19 j = nI m) (hm : m ≤ 3) (hp : p < m) (d : Nat) : cG (d + 4) 13 [.ref 2, .int (nI j), .int (nI p)] σ = some (σ.1 (21 + p) j, 0, σ) := by
  have hn := hB.2
  have hT := pu_T (show j < 16 by omega) (by decide)
  have hC := pu_cl (show j < 16 by omega) (by decide)
  rw [cp_13_g, c_hasPoint hB hj em hm hp]
  simp only [pu_bind, pu_10, if_false, (c_grid20 (show p < 3 by omega)).1, (c_grid20 (show p < 3 by omega)).2, hT, hC, if_true]
theorem c_pointMarks {σ : mm_S} {n j m p : Nat} (hB : cB σ n) (hj : j < n) (em : σ.1 19 j = nI m) (hm : m ≤ 3) (hp : p < m) (d : Nat) : cG (d + 4) 14 [.ref 2, .int (nI j), .int (nI p)] σ = some (σ.1 (25 + p) j, 0, σ) := by
  have hn := hB.2
  have hT := pu_T (show j < 16 by omega) (by decide)
  have hC := pu_cl (show j < 16 by omega) (by decide)
  rw [cp_14_g, c_hasPoint hB hj em hm hp]
  simp only [pu_bind, pu_10, if_false, (c_grid24 (show p < 3 by omega)).1, (c_grid24 (show p < 3 by omega)).2, hT, hC, if_true]
theorem c_isHeadClosed {σ : mm_S} {R : Nat} (h : R < 2 ^ 31) (h7 : ∀ h, σ.1 7 h = 0 ∨ σ.1 7 h = 1) (d : Nat) : cG (d + 1) 26 [.ref 1, .int (nI R)] σ = some (σ.1 7 (R % 32), 0, σ) := by
  have hT := pu_T (show R % 32 < 32 by omega) (by decide)
  have hC := pu_cl (show R % 32 < 32 by omega) (by decide)
  rw [cp_26_g, pu_and5 h]
  simp only [hT, if_true, hC]
  rw [if_pos (h7 _)]
def vT (σ : mm_S) (nb : Nat) (F1 F2 : Nat → Nat) (b p : Nat) : Int32 := pFd (pCd1 F1 F2 (σ.1 6) (σ.1 13) (σ.1 14) (σ.1 16) (σ.1 17) (σ.1 (21 + p) b).toNatClampNeg (σ.1 (25 + p) b)) (pRk (σ.1 16) (σ.1 17)) nb
def eP (σ : mm_S) (nb : Nat) (F1 F2 : Nat → Nat) (b p : Nat) : Int32 := if vT σ nb F1 F2 b p = -4 then 2 else if vT σ nb F1 F2 b p = -5 then 4 else if σ.1 15 (vT σ nb F1 F2 b p).toNatClampNeg = 0 then 0 else if σ.1 7 ((σ.1 (21 + p) b).toNatClampNeg % 32) = 0 then 0 else 8
theorem vT_or (σ : mm_S) (nb : Nat) (F1 F2 : Nat → Nat) (b p : Nat) : vT σ nb F1 F2 b p = -4 ∨ vT σ nb F1 F2 b p = -5 ∨ ∃ y, y < nb ∧ vT σ nb F1 F2 b p = nI y ∧ pE (σ.1 16) (σ.1 17) y = true := by
  rcases pFd_or (pCd1 F1 F2 (σ.1 6) (σ.1 13) (σ.1 14) (σ.1 16) (σ.1 17) (σ.1 (21 + p) b).toNatClampNeg (σ.1 (25 + p) b)) (pRk (σ.1 16) (σ.1 17)) nb with h | h | ⟨y, h1, h2, h3⟩
  · exact Or.inl h
  · exact Or.inr (Or.inl h)
  · refine Or.inr (Or.inr ⟨y, h1, h2, ?_⟩)
    unfold pCd1 at h3
    rw [Bool.and_eq_true] at h3
    exact h3.1
def jPb (e : Nat → Int32) : Nat → Int32
  | 0 => 0
  | p + 1 => jPb e p ||| e p
/-- the rows of targets: those of bean b set up to p -/
def tq (σ σ' : mm_S) (b : Nat) (v : Nat → Int32) (p : Nat) : Prop := (∀ k, k < 29 ∨ 31 < k → σ'.1 k = σ.1 k) ∧ (∀ q, q < 3 → ∀ b', σ'.1 (29 + q) b' = if b' = b ∧ q < p then v q else σ.1 (29 + q) b')
theorem tq_0 (σ : mm_S) (b : Nat) (v : Nat → Int32) : tq σ σ b v 0 := ⟨fun _ _ => rfl, fun q _ b' => by rw [if_neg (fun h => absurd h.2 (Nat.not_lt_zero _))]⟩
theorem tq_1 {σ σ' : mm_S} {b p : Nat} {v : Nat → Int32} (h : tq σ σ' b v p) (hp : p < 3) : tq σ (mm_w σ'.1 (29 + p) b (v p), σ'.2) b v (p + 1) := by
  refine ⟨fun k hk => ?_, fun q hq b' => ?_⟩
  · show mm_w σ'.1 (29 + p) b (v p) k = σ.1 k
    rw [mm_w_ne (by omega)]
    exact h.1 k hk
  · show mm_w σ'.1 (29 + p) b (v p) (29 + q) b' = _
    by_cases e : q = p
    · subst e
      by_cases e2 : b' = b
      · subst e2
        rw [mm_w_at, if_pos ⟨rfl, by omega⟩]
      · rw [mm_w_at2 e2, h.2 q hq b', if_neg (fun z => e2 z.1), if_neg (fun z => e2 z.1)]
    · rw [mm_w_off (by omega), h.2 q hq b']
      by_cases z : b' = b ∧ q < p
      · rw [if_pos z, if_pos ⟨z.1, by omega⟩]
      · rw [if_neg z, if_neg (fun w => z ⟨w.1, by omega⟩)]
theorem tq_A {σ σ' : mm_S} {b p : Nat} {v : Nat → Int32} (h : tq σ σ' b v p) : stA σ σ' := ⟨fun c _ _ => h.1 c (Or.inl (by omega)), by rw [h.1 1 (by decide)], by rw [h.1 2 (by decide)]⟩
theorem i_or0 (x : Int32) : x ||| 0 = x := Int32.or_zero
theorem i_0or (x : Int32) : 0 ||| x = x := Int32.zero_or
set_option maxHeartbeats 1000000 in
theorem c_judgeP_loop {σ : mm_S} {nc nb : Nat} {F1 F2 lv H : Nat → Nat} (hI : cI σ nc nb F1 F2 lv H) (hX : jX σ nc nb F1 F2 lv) {b m : Nat} (hb : b < nb) (em : σ.1 19 b = nI m) (hm : m ≤ 3) (d : Nat) : ∀ (r p f : Nat) (σ' : mm_S), p + r = m → 51 * (r + 1) ≤ f → tq σ σ' b (vT σ nb F1 F2 b) p → ∃ σ'', tq σ σ'' b (vT σ nb F1 F2 b) m ∧ mm_ex sc (cG (d + 38)) 1 cp_64_l f cp_64_r1 [.ref 3, .int (nI b), .int (jPb (eP σ nb F1 F2 b) p), .int (nI p), .null, .null] [] σ' = some (jPb (eP σ nb F1 F2 b) m, 0, σ'') := by
  have hn := hI.2.2.1.2
  intro r
  induction r with
  | zero =>
    intro p f σ' hp hf ht
    have e : p = m := by omega
    subst e
    have hI' := cI_A (tq_A ht) hI
    refine ⟨σ', ht, ?_⟩
    rw [show f = (f - 51) + 51 by omega, cp_64_h1, show d + 38 = (d + 36) + 2 from rfl, c_pointCount hI'.2.2.1 hb, ht.1 19 (by decide), em]
    simp only [pu_bind]
    rw [if_pos (nI_le (Nat.le_refl _) (by omega))]
  | succ r ih =>
    intro p f σ' hp hf ht
    have hI' := cI_A (tq_A ht) hI
    have hB' := hI'.2.2.1
    have em' : σ'.1 19 b = nI m := by rw [ht.1 19 (by decide)]; exact em
    have hp3 : p < 3 := by omega
    have hT := pu_T (show b < 16 by omega) (by decide)
    have hC := pu_cl (show b < 16 by omega) (by decide)
    have hX7 : ∀ h, σ'.1 7 h = 0 ∨ σ'.1 7 h = 1 := by rw [ht.1 7 (by decide)]; exact hX.2.2.1
    obtain ⟨-, -, -, m', m3, e5, e6⟩ := hX.2.2.2.1 b hb
    have : m' = m := (nI_eq (by omega) (by omega)).1 (e5.symm.trans em)
    subst this
    obtain ⟨R, R31, eR, hv⟩ := e6 p (by omega)
    have eR' : σ'.1 (21 + p) b = nI R := by rw [ht.1 (21 + p) (Or.inl (by omega))]; exact eR
    have hv' : (pTA nc (σ'.1 6) true false 6).1 R = true := by rw [ht.1 6 (by decide)]; exact hv
    have hfind := c_find hI' R31 hv' (σ'.1 (25 + p) b) d
    have ev : pFd (pCd1 F1 F2 (σ'.1 6) (σ'.1 13) (σ'.1 14) (σ'.1 16) (σ'.1 17) R (σ'.1 (25 + p) b)) (pRk (σ'.1 16) (σ'.1 17)) nb = vT σ nb F1 F2 b p := by
      unfold vT
      rw [ht.1 6 (by decide), ht.1 13 (by decide), ht.1 14 (by decide), ht.1 16 (by decide), ht.1 17 (by decide), ht.1 (25 + p) (Or.inl (by omega)), eR, nI_clamp R31]
    rw [ev] at hfind
    have t1 := tq_1 ht hp3
    have hB1 := (cI_A (tq_A t1) hI).2.2.1
    have go : ∀ c, c ≤ 51 → ∀ z, z = jPb (eP σ nb F1 F2 b) (p + 1) → ∃ σ'', tq σ σ'' b (vT σ nb F1 F2 b) m' ∧ mm_ex sc (cG (d + 38)) 1 cp_64_l (f - 51 + c) cp_64_r1 [.ref 3, .int (nI b), .int z, .int (nI (p + 1)), .int (nI R), .int (vT σ nb F1 F2 b p)] [] (mm_w σ'.1 (29 + p) b (vT σ nb F1 F2 b p), σ'.2) = some (jPb (eP σ nb F1 F2 b) m', 0, σ'') := by
      intro c hc z hz
      obtain ⟨σ'', q1, q2⟩ := ih (p + 1) (f - 51 + c) _ (by omega) (by omega) t1
      exact ⟨σ'', q1, mm_ref _ _ [.ref 3, .int (nI b), .int (jPb (eP σ nb F1 F2 b) (p + 1)), .int (nI (p + 1)), .null, .null] _ _ _ (by simp [mm_rf, hz]) q2⟩
    have hh : mm_ex sc (cG (d + 38)) 1 cp_64_l f cp_64_r1 [.ref 3, .int (nI b), .int (jPb (eP σ nb F1 F2 b) p), .int (nI p), .null, .null] [] σ' = (if vT σ nb F1 F2 b p = (-4 : Int32) then (mm_ex sc (cG (d + 38)) 1 cp_64_l (f - 51 + 12) cp_64_r1 [.ref 3, .int (nI b), .int (jPb (eP σ nb F1 F2 b) p ||| (2 : Int32)), .int (nI (p + 1)), .int (nI R), .int (vT σ nb F1 F2 b p)] [] (mm_w σ'.1 (29 + p) b (vT σ nb F1 F2 b p), σ'.2)) else (if vT σ nb F1 F2 b p = (-5 : Int32) then (mm_ex sc (cG (d + 38)) 1 cp_64_l (f - 51 + 9) cp_64_r1 [.ref 3, .int (nI b), .int (jPb (eP σ nb F1 F2 b) p ||| (4 : Int32)), .int (nI (p + 1)), .int (nI R), .int (vT σ nb F1 F2 b p)] [] (mm_w σ'.1 (29 + p) b (vT σ nb F1 F2 b p), σ'.2)) else ((cG (d + 38) 17 [.ref 2, .int (vT σ nb F1 F2 b p)] (mm_w σ'.1 (29 + p) b (vT σ nb F1 F2 b p), σ'.2)).bind fun u7 => (if u7.1 = 0 then (mm_ex sc (cG (d + 38)) 1 cp_64_l (f - 51 + 9) cp_64_r1 [.ref 3, .int (nI b), .int (jPb (eP σ nb F1 F2 b) p), .int (nI (p + 1)), .int (nI R), .int (vT σ nb F1 F2 b p)] [] u7.2.2) else ((cG (d + 38) 26 [.ref 1, .int (nI R)] u7.2.2).bind fun u8 => (if u8.1 = 0 then (mm_ex sc (cG (d + 38)) 1 cp_64_l (f - 51 + 4) cp_64_r1 [.ref 3, .int (nI b), .int (jPb (eP σ nb F1 F2 b) p), .int (nI (p + 1)), .int (nI R), .int (vT σ nb F1 F2 b p)] [] u8.2.2) else (mm_ex sc (cG (d + 38)) 1 cp_64_l (f - 51 + 0) cp_64_r1 [.ref 3, .int (nI b), .int (jPb (eP σ nb F1 F2 b) p ||| (8 : Int32)), .int (nI (p + 1)), .int (nI R), .int (vT σ nb F1 F2 b p)] [] u8.2.2))))))) := by
      conv => lhs; rw [show f = (f - 51) + 51 by omega, cp_64_h1, show d + 38 = (d + 36) + 2 from rfl, c_pointCount hB' hb, em']
      simp only [pu_bind]
      rw [if_neg (nI_ge (show p < m' by omega) (by omega)), show d + 36 + 2 = (d + 34) + 4 from rfl, c_pointType hB' hb em' hm (by omega), eR']
      simp only [pu_bind]
      rw [c_pointMarks hB' hb em' hm (by omega)]
      simp only [pu_bind]
      rw [show d + 34 + 4 = d + 38 from rfl, hfind]
      simp only [pu_bind, (c_grid28 hp3).1, (c_grid28 hp3).2, hT, hC, if_true, nI_1]
    rw [hh]
    by_cases h4 : vT σ nb F1 F2 b p = -4
    · rw [if_pos h4]
      exact go 12 (by omega) _ (by rw [jPb]; unfold eP; rw [if_pos h4])
    · rw [if_neg h4]
      by_cases h5 : vT σ nb F1 F2 b p = -5
      · rw [if_pos h5]
        exact go 9 (by omega) _ (by rw [jPb]; unfold eP; rw [if_neg h4, if_pos h5])
      · rw [if_neg h5]
        obtain ⟨y, hy, ey, -⟩ := ((vT_or σ nb F1 F2 b p).resolve_left h4).resolve_left h5
        have ce : (vT σ nb F1 F2 b p).toNatClampNeg = y := by rw [ey, nI_clamp (by omega)]
        have e15 : mm_w σ'.1 (29 + p) b (vT σ nb F1 F2 b p) 15 = σ.1 15 := by rw [mm_w_ne (by omega)]; exact ht.1 15 (by decide)
        have e7 : mm_w σ'.1 (29 + p) b (vT σ nb F1 F2 b p) 7 = σ.1 7 := by rw [mm_w_ne (by omega)]; exact ht.1 7 (by decide)
        have hN := c_isNormal (σ := (mm_w σ'.1 (29 + p) b (vT σ nb F1 F2 b p), σ'.2)) hB1 hy (d + 36)
        rw [← ey] at hN
        simp only [e15] at hN
        rw [show d + 38 = (d + 36) + 2 from rfl, hN]
        simp only [pu_bind]
        by_cases h15 : σ.1 15 y = 0
        · rw [if_pos h15, if_pos rfl]
          exact go 9 (by omega) _ (by rw [jPb]; unfold eP; rw [if_neg h4, if_neg h5, ce, if_pos h15, i_or0])
        · rw [if_neg h15, if_neg (by decide)]
          have hH := c_isHeadClosed (σ := (mm_w σ'.1 (29 + p) b (vT σ nb F1 F2 b p), σ'.2)) R31 (by simp only [e7]; exact hX.2.2.1) (d + 37)
          simp only [e7] at hH
          rw [show d + 36 + 2 = (d + 37) + 1 from rfl, hH]
          simp only [pu_bind]
          by_cases h7 : σ.1 7 (R % 32) = 0
          · rw [if_pos h7]
            exact go 4 (by omega) _ (by rw [jPb]; unfold eP; rw [if_neg h4, if_neg h5, ce, if_neg h15, eR, nI_clamp R31, if_pos h7, i_or0])
          · rw [if_neg h7]
            exact go 0 (by omega) _ (by rw [jPb]; unfold eP; rw [if_neg h4, if_neg h5, ce, if_neg h15, eR, nI_clamp R31, if_neg h7])
theorem c_judgeP {σ : mm_S} {nc nb : Nat} {F1 F2 lv H : Nat → Nat} (hI : cI σ nc nb F1 F2 lv H) (hX : jX σ nc nb F1 F2 lv) {b m : Nat} (hb : b < nb) (em : σ.1 19 b = nI m) (hm : m ≤ 3) (d : Nat) : ∃ σ', tq σ σ' b (vT σ nb F1 F2 b) m ∧ cG (d + 39) 64 [.ref 3, .int (nI b)] σ = some (jPb (eP σ nb F1 F2 b) m, 0, σ') := by
  obtain ⟨σ', q1, q2⟩ := c_judgeP_loop hI hX hb em hm d m 0 (99999996 + 0) σ (by omega) (by omega) (tq_0 σ b _)
  refine ⟨σ', q1, ?_⟩
  rw [show d + 39 = (d + 38) + 1 from rfl, cp_64_g]
  exact q2
