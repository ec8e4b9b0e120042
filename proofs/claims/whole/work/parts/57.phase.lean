def MM (σ : mm_S) (nb : Nat) (F1 F2 : Nat → Nat) (b : Nat) : Nat := if pE (σ.1 16) (σ.1 17) b = true then nMf (vT σ nb F1 F2 b) (σ.1 15) (σ.1 17 b) (pPt σ b) else 0
def oP (σ : mm_S) (b : Nat) : Int32 := if ¬ σ.1 15 b = 0 ∧ pVr (σ.1 13 b) = true then 1 else 0
def PR (σ : mm_S) (nb : Nat) (F1 F2 : Nat → Nat) : Nat → Int32
  | 0 => 0
  | b + 1 => if pE (σ.1 16) (σ.1 17) b = true then PR σ nb F1 F2 b ||| (oP σ b ||| jPb (eP σ nb F1 F2 b) (pPt σ b)) else PR σ nb F1 F2 b
def ph (σ σ' : mm_S) (nb : Nat) (F1 F2 : Nat → Nat) (b : Nat) : Prop := (∀ k, k < 29 ∨ 32 < k → σ'.1 k = σ.1 k) ∧ (∀ q, q < 3 → ∀ b', σ'.1 (29 + q) b' = if b' < b ∧ pE (σ.1 16) (σ.1 17) b' = true ∧ q < pPt σ b' then vT σ nb F1 F2 b' q else σ.1 (29 + q) b') ∧ (∀ b', b' < b → σ'.1 32 b' = nI (MM σ nb F1 F2 b'))
theorem vT_c {σ σ' : mm_S} {nb : Nat} {F1 F2 : Nat → Nat} (h : ∀ k, k < 29 → σ'.1 k = σ.1 k) (b : Nat) {p : Nat} (hp : p < 3) : vT σ' nb F1 F2 b p = vT σ nb F1 F2 b p := by
  unfold vT
  rw [h 6 (by decide), h 13 (by decide), h 14 (by decide), h 16 (by decide), h 17 (by decide), h (21 + p) (by omega), h (25 + p) (by omega)]
theorem eP_c {σ σ' : mm_S} {nb : Nat} {F1 F2 : Nat → Nat} (h : ∀ k, k < 29 → σ'.1 k = σ.1 k) (b : Nat) {p : Nat} (hp : p < 3) : eP σ' nb F1 F2 b p = eP σ nb F1 F2 b p := by
  unfold eP
  rw [vT_c h b hp, h 15 (by decide), h 7 (by decide), h (21 + p) (by omega)]
theorem jPb_ext {e e' : Nat → Int32} : ∀ {m : Nat}, (∀ q, q < m → e q = e' q) → jPb e m = jPb e' m
  | 0, _ => rfl
  | m + 1, h => by rw [jPb, jPb, jPb_ext (fun q hq => h q (by omega)), h m (by omega)]
theorem nMf_ext {v v' : Nat → Int32} {s : Nat → Int32} {ho : Int32} : ∀ {m : Nat}, (∀ q, q < m → v q = v' q) → nMf v s ho m = nMf v' s ho m
  | 0, _ => rfl
  | m + 1, h => by rw [nMf, nMf, nMf_ext (fun q hq => h q (by omega)), h m (by omega)]
theorem vT_neg {σ : mm_S} {nb : Nat} {F1 F2 : Nat → Nat} {b p : Nat} : vT σ nb F1 F2 b p < 0 ∨ ∃ y, y < nb ∧ vT σ nb F1 F2 b p = nI y := by
  rcases vT_or σ nb F1 F2 b p with h | h | ⟨y, h1, h2, -⟩
  · left; rw [h]; decide
  · left; rw [h]; decide
  · exact Or.inr ⟨y, h1, h2⟩
set_option maxHeartbeats 2000000 in
theorem c_phase1 {σ : mm_S} {nc nb : Nat} {F1 F2 lv H : Nat → Nat} (hI : cI σ nc nb F1 F2 lv H) (hX : jX σ nc nb F1 F2 lv) (d : Nat) : ∀ (r b f : Nat) (σ' : mm_S), b + r = nb → 41 * (r + 1) ≤ f → ph σ σ' nb F1 F2 b → ∃ σ'' g, 41 ≤ g ∧ ph σ σ'' nb F1 F2 nb ∧ ∀ res, mm_ex sc (cG (d + 40)) 1 cp_62_l g cp_62_r1 [.ref 3, .int (PR σ nb F1 F2 nb), .int (nI nb)] [] σ'' = some res → mm_ex sc (cG (d + 40)) 1 cp_62_l f cp_62_r1 [.ref 3, .int (PR σ nb F1 F2 b), .int (nI b)] [] σ' = some res := by
  have hn := hI.2.2.1.2
  intro r
  induction r with
  | zero =>
    intro b f σ' hb hf hp
    have e : b = nb := by omega
    subst e
    exact ⟨σ', f, by omega, hp, fun res h => h⟩
  | succ r ih =>
    intro b f σ' hb hf hp
    have hb' : b < nb := by omega
    have hT := pu_T (show b < 16 by omega) (by decide)
    have hC := pu_cl (show b < 16 by omega) (by decide)
    have w1 : ∀ k, k < 29 ∨ 32 < k → mm_w σ'.1 32 b 0 k = σ.1 k := fun k hk => by rw [mm_w_ne (by omega)]; exact hp.1 k hk
    have a1 : stA σ (mm_w σ'.1 32 b 0, σ'.2) := ⟨fun c _ _ => w1 c (Or.inl (by omega)), congrFun (w1 1 (by decide)) 0, congrFun (w1 2 (by decide)) 1⟩
    have hI1 := cI_A a1 hI
    have hX1 := jX_A a1 hX
    have hsz : σ'.1 2 1 = nI nb := by rw [hp.1 2 (by decide)]; exact hI.2.2.1.1
    have s29 : ∀ k, k < 29 → mm_w σ'.1 32 b 0 k = σ.1 k := fun k hk => w1 k (Or.inl hk)
    have hen := c_isEnabled hI1.2.2.1 hI1.2.2.2.2.2.2.2.2.2.1 hb' (d + 38)
    have e16 : mm_w σ'.1 32 b 0 16 = σ.1 16 := s29 16 (by decide)
    have e17 : mm_w σ'.1 32 b 0 17 = σ.1 17 := s29 17 (by decide)
    simp only [e16, e17] at hen
    have head : ∀ n, mm_ex sc (cG (d + 40)) 1 cp_62_l (n + 41) cp_62_r1 [.ref 3, .int (PR σ nb F1 F2 b), .int (nI b)] [] σ' = ((cG (d + 40) 18 [.ref 2, .int (nI b)] (mm_w σ'.1 32 b 0, σ'.2)).bind fun u5 => (if u5.1 = 0 then (mm_ex sc (cG (d + 40)) 1 cp_62_l (n + 24) cp_62_r1 [.ref 3, .int (PR σ nb F1 F2 b), .int (nI (b + 1))] [] u5.2.2) else ((cG (d + 40) 64 [.ref 3, .int (nI b)] u5.2.2).bind fun u6 => ((cG (d + 40) 17 [.ref 2, .int (nI b)] u6.2.2).bind fun u7 => (if u7.1 = 0 then ((cG (d + 40) 66 [.ref 3, .int (nI b)] u7.2.2).bind fun u8 => (mm_ex sc (cG (d + 40)) 1 cp_62_l (n + 10) cp_62_r1 [.ref 3, .int (PR σ nb F1 F2 b ||| u6.1), .int (nI (b + 1))] [] u8.2.2)) else ((cG (d + 40) 7 [.ref 2, .int (nI b)] u7.2.2).bind fun u9 => ((cG (d + 40) 65 [.int u9.1] u9.2.2).bind fun u10 => (if u10.1 = 0 then ((cG (d + 40) 66 [.ref 3, .int (nI b)] u10.2.2).bind fun u11 => (mm_ex sc (cG (d + 40)) 1 cp_62_l (n + 4) cp_62_r1 [.ref 3, .int (PR σ nb F1 F2 b ||| u6.1), .int (nI (b + 1))] [] u11.2.2)) else ((cG (d + 40) 66 [.ref 3, .int (nI b)] u10.2.2).bind fun u12 => (mm_ex sc (cG (d + 40)) 1 cp_62_l (n + 0) cp_62_r1 [.ref 3, .int ((PR σ nb F1 F2 b ||| u6.1) ||| (1 : Int32)), .int (nI (b + 1))] [] u12.2.2)))))))))) := by
      intro n
      rw [cp_62_h1, show d + 40 = (d + 39) + 1 from rfl, c_size, hsz]
      simp only [pu_bind]
      rw [if_neg (nI_ge hb' (by omega))]
      simp only [hT, hC, if_true, nI_1]
    cases hE : pE (σ.1 16) (σ.1 17) b with
    | false =>
      rw [hE] at hen
      have hp1 : ph σ (mm_w σ'.1 32 b 0, σ'.2) nb F1 F2 (b + 1) := by
        refine ⟨w1, fun q hq b' => ?_, fun b' hb2 => ?_⟩
        · show mm_w σ'.1 32 b 0 (29 + q) b' = _
          rw [mm_w_off (by omega), hp.2.1 q hq b']
          by_cases z : b' < b ∧ pE (σ.1 16) (σ.1 17) b' = true ∧ q < pPt σ b'
          · rw [if_pos z, if_pos ⟨by omega, z.2⟩]
          · rw [if_neg z, if_neg]
            rintro ⟨z1, z2, z3⟩
            by_cases e : b' = b
            · subst e; rw [hE] at z2; exact absurd z2 (by decide)
            · exact z ⟨by omega, z2, z3⟩
        · show mm_w σ'.1 32 b 0 32 b' = _
          by_cases e : b' = b
          · subst e
            rw [mm_w_at]
            unfold MM
            rw [hE, if_neg (by decide)]
            rfl
          · rw [mm_w_at2 e]
            exact hp.2.2 b' (by omega)
      obtain ⟨σ'', g, q1, q2, q3⟩ := ih (b + 1) (f - 41 + 24) _ (by omega) (by omega) hp1
      refine ⟨σ'', g, q1, q2, fun res h => ?_⟩
      rw [show f = (f - 41) + 41 by omega, head, show d + 40 = (d + 38) + 2 from rfl, hen]
      simp only [pu_bind, Bool.false_eq_true, if_false, if_true]
      have := q3 res h
      rw [PR, hE, if_neg (by decide)] at this
      exact this
    | true =>
      rw [hE] at hen
      have hpt : pPt σ b ≤ 3 := jX_pt hX b hb'
      obtain ⟨-, -, -, m, m3, em, -⟩ := hX.2.2.2.1 b hb'
      have ept : pPt σ b = m := by unfold pPt; rw [em, nI_clamp (by omega)]
      have em1 : mm_w σ'.1 32 b 0 19 b = nI m := by rw [s29 19 (by decide)]; exact em
      obtain ⟨σ2, t1, t2⟩ := c_judgeP hI1 hX1 hb' em1 m3 (d + 1)
      have a2 : ∀ k, k < 29 ∨ 32 < k → σ2.1 k = σ.1 k := fun k hk => by rw [t1.1 k (by omega)]; exact w1 k hk
      have a2s : stA σ σ2 := ⟨fun c _ _ => a2 c (Or.inl (by omega)), congrFun (a2 1 (by decide)) 0, congrFun (a2 2 (by decide)) 1⟩
      have hI2 := cI_A a2s hI
      have e32 : σ2.1 32 b = 0 := by rw [t1.1 32 (by decide)]; exact (show mm_w σ'.1 32 b 0 32 b = 0 from mm_w_at)
      have ej : jPb (eP (mm_w σ'.1 32 b 0, σ'.2) nb F1 F2 b) m = jPb (eP σ nb F1 F2 b) (pPt σ b) := by
        rw [ept]
        exact jPb_ext (fun q hq => eP_c s29 b (by omega))
      rw [ej] at t2
      have hv2 : ∀ p, p < m → σ2.1 (29 + p) b = vT σ nb F1 F2 b p ∧ (vT σ nb F1 F2 b p < 0 ∨ ∃ y, y < nb ∧ vT σ nb F1 F2 b p = nI y) := by
        intro p hp3
        refine ⟨?_, vT_neg⟩
        rw [t1.2 p (by omega) b, if_pos ⟨rfl, hp3⟩]
        exact vT_c s29 b (by omega)
      have nn := c_noteNeeds hI2.2.2.1 hI2.2.2.2.2.2.2.2.2.2.1 hb' (show σ2.1 19 b = nI m by rw [a2 19 (by decide)]; exact em) m3 hv2 e32 (d + 37)
      rw [a2 15 (by decide), a2 17 (by decide)] at nn
      have eMM : nMf (vT σ nb F1 F2 b) (σ.1 15) (σ.1 17 b) m = MM σ nb F1 F2 b := by
        unfold MM
        rw [hE, if_pos rfl, ept]
      rw [eMM] at nn
      have hp1 : ph σ (mm_w σ2.1 32 b (nI (MM σ nb F1 F2 b)), σ2.2) nb F1 F2 (b + 1) := by
        refine ⟨fun k hk => ?_, fun q hq b' => ?_, fun b' hb2 => ?_⟩
        · show mm_w σ2.1 32 b _ k = σ.1 k
          rw [mm_w_ne (by omega)]
          exact a2 k hk
        · show mm_w σ2.1 32 b _ (29 + q) b' = _
          rw [mm_w_off (by omega), t1.2 q hq b']
          by_cases e : b' = b
          · subst e
            by_cases e2 : q < m
            · rw [if_pos ⟨rfl, e2⟩, if_pos ⟨by omega, hE, by omega⟩]
              exact vT_c s29 b' hq
            · rw [if_neg (fun z => e2 z.2), if_neg (fun z => by omega)]
              show mm_w σ'.1 32 b' 0 (29 + q) b' = _
              rw [mm_w_off (by omega), hp.2.1 q hq b', if_neg (fun z => by omega)]
          · rw [if_neg (fun z => e z.1)]
            show mm_w σ'.1 32 b 0 (29 + q) b' = _
            rw [mm_w_off (by omega), hp.2.1 q hq b']
            by_cases z : b' < b ∧ pE (σ.1 16) (σ.1 17) b' = true ∧ q < pPt σ b'
            · rw [if_pos z, if_pos ⟨by omega, z.2⟩]
            · rw [if_neg z, if_neg (fun w => z ⟨by omega, w.2⟩)]
        · show mm_w σ2.1 32 b _ 32 b' = _
          by_cases e : b' = b
          · subst e
            rw [mm_w_at]
          · rw [mm_w_at2 e, t1.1 32 (by decide)]
            show mm_w σ'.1 32 b 0 32 b' = _
            rw [mm_w_at2 e]
            exact hp.2.2 b' (by omega)
      have hno := c_isNormal hI2.2.2.1 hb' (d + 38)
      rw [a2 15 (by decide)] at hno
      have hty := c_typeOf hI2.2.2.1 hb' (d + 38)
      rw [a2 13 (by decide)] at hty
      have epr : PR σ nb F1 F2 (b + 1) = PR σ nb F1 F2 b ||| (oP σ b ||| jPb (eP σ nb F1 F2 b) (pPt σ b)) := by rw [PR, hE, if_pos rfl]
      by_cases hs : σ.1 15 b = 0
      · have eo : oP σ b = 0 := by unfold oP; rw [if_neg (fun z => z.1 hs)]
        obtain ⟨σ'', g, q1, q2, q3⟩ := ih (b + 1) (f - 41 + 10) _ (by omega) (by omega) hp1
        refine ⟨σ'', g, q1, q2, fun res h => ?_⟩
        have := q3 res h
        rw [epr, eo, i_0or] at this
        rw [show f = (f - 41) + 41 by omega, head, show d + 40 = (d + 38) + 2 from rfl, hen]
        simp only [pu_bind, if_true, pu_10, if_false]
        rw [show d + 38 + 2 = d + 1 + 39 by omega, t2]
        simp only [pu_bind]
        rw [show d + 1 + 39 = (d + 38) + 2 by omega, hno, if_pos hs]
        simp only [pu_bind, if_true]
        rw [show d + 38 + 2 = (d + 37) + 3 by omega, nn]
        simp only [pu_bind]
        rw [show d + 37 + 3 = d + 40 by omega]
        exact this
      · cases hvr : pVr (σ.1 13 b) with
        | false =>
          have eo : oP σ b = 0 := by unfold oP; rw [hvr, if_neg (fun z => absurd z.2 (by decide))]
          obtain ⟨σ'', g, q1, q2, q3⟩ := ih (b + 1) (f - 41 + 4) _ (by omega) (by omega) hp1
          refine ⟨σ'', g, q1, q2, fun res h => ?_⟩
          have := q3 res h
          rw [epr, eo, i_0or] at this
          rw [show f = (f - 41) + 41 by omega, head, show d + 40 = (d + 38) + 2 from rfl, hen]
          simp only [pu_bind, if_true, pu_10, if_false]
          rw [show d + 38 + 2 = d + 1 + 39 by omega, t2]
          simp only [pu_bind]
          rw [show d + 1 + 39 = (d + 38) + 2 by omega, hno, if_neg hs]
          simp only [pu_bind, pu_10, if_false]
          rw [hty]
          simp only [pu_bind]
          rw [show d + 38 + 2 = (d + 39) + 1 by omega, c_containsVar, hvr]
          simp only [pu_bind, pb_if, Bool.false_eq_true, if_false]
          rw [show d + 39 + 1 = (d + 37) + 3 by omega, nn]
          simp only [pu_bind]
          rw [show d + 37 + 3 = d + 40 by omega]
          exact this
        | true =>
          have eo : oP σ b = 1 := by unfold oP; rw [hvr, if_pos ⟨hs, rfl⟩]
          obtain ⟨σ'', g, q1, q2, q3⟩ := ih (b + 1) (f - 41 + 0) _ (by omega) (by omega) hp1
          refine ⟨σ'', g, q1, q2, fun res h => ?_⟩
          have := q3 res h
          rw [epr, eo, Int32.or_comm 1, ← Int32.or_assoc] at this
          rw [show f = (f - 41) + 41 by omega, head, show d + 40 = (d + 38) + 2 from rfl, hen]
          simp only [pu_bind, if_true, pu_10, if_false]
          rw [show d + 38 + 2 = d + 1 + 39 by omega, t2]
          simp only [pu_bind]
          rw [show d + 1 + 39 = (d + 38) + 2 by omega, hno, if_neg hs]
          simp only [pu_bind, pu_10, if_false]
          rw [hty]
          simp only [pu_bind]
          rw [show d + 38 + 2 = (d + 39) + 1 by omega, c_containsVar, hvr]
          simp only [pu_bind, pb_if, if_true]
          rw [show d + 39 + 1 = (d + 37) + 3 by omega, nn]
          simp only [pu_bind]
          rw [show d + 37 + 3 = d + 40 by omega]
          exact this
