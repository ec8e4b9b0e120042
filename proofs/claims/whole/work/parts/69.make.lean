/-! the class makes -/
set_option maxHeartbeats 1000000 in
theorem c_discardL {lo U : Nat} {N : Nat → Nat → Nat} {ht : Nat → Nat} (hW : tW U N ht) : ∀ (f x : Nat), (x = 0 ∨ (lo ≤ x ∧ 1 ≤ x ∧ x ≤ U ∧ ht x < f)) → ∀ (σ : mm_S) (G k d : Nat), cD σ U G → (∀ y p, lo ≤ y → p < 3 → σ.1 (38 + p) y = nI (N p y)) → (∀ z, z ∈ tL N x → ¬ σ.1 36 z = 0) → (x = 0 ∨ k + ht x ≤ 10) → cG (d + f + 2) 59 [.ref 4, .int (nI x), .int (nI k)] σ = some (0, 0, kC σ (tL N x)) ∧ cD (kC σ (tL N x)) U (G + (tL N x).length) := by
  intro f
  induction f with
  | zero =>
    intro x hx σ G k d hD hN ha hk
    have : x = 0 := by omega
    subst this
    rw [tL_0, c_disc0]
    exact ⟨rfl, hD⟩
  | succ f ih =>
    intro x hx σ G k d hD hN ha hk
    rcases hx with rfl | ⟨x0, x1, x2, x3⟩
    · rw [tL_0, c_disc0]
      exact ⟨rfl, hD⟩
    · have hk' : k + ht x ≤ 10 := hk.resolve_left (by omega)
      have hU := hD.1
      have hax := ha x (tL_self hW x1 x2)
      obtain ⟨hG, hD1⟩ := cD_1 hD x1 x2 hax
      have e1 := kC1_e (x := x) hD hG
      have hT := pu_T (show x < 201 by omega) (by decide)
      have hC := pu_cl (show x < 201 by omega) (by decide)
      have hTG := pu_T (show G < 200 by omega) (by decide)
      have hCG := pu_cl (show G < 200 by omega) (by decide)
      have g2 : mm_grid sc 37 (2 : Int32) = some 40 := rfl
      have g1 : mm_grid sc 37 (2 + -1 : Int32) = some 39 := rfl
      have g0 : mm_grid sc 37 (2 + -1 + -1 : Int32) = some 38 := rfl
      have a2 : mm_arr sc 40 0 = some 201 := rfl
      have a1 : mm_arr sc 39 0 = some 201 := rfl
      have a0 : mm_arr sc 38 0 = some 201 := rfl
      have hch : ∀ p, p < 3 → (N p x = 0 ∨ (lo ≤ N p x ∧ 1 ≤ N p x ∧ N p x ≤ U ∧ ht (N p x) < f)) ∧ (N p x = 0 ∨ k + 1 + ht (N p x) ≤ 10) := by
        intro p hp
        rcases tW_ch hW x1 x2 hp with h | ⟨a, b, c, a', -⟩
        · exact ⟨Or.inl h, Or.inl h⟩
        · exact ⟨Or.inr ⟨by omega, a, b, by omega⟩, Or.inr (by omega)⟩
      have hni : ∀ p, p < 3 → ∀ z, z ∈ tL N (N p x) → z ≠ x := by
        intro p hp z hz
        have n0 : ¬ N p x = 0 := fun h => by rw [h, tL_0] at hz; exact absurd hz (List.not_mem_nil)
        have a := (tW_ch hW x1 x2 hp).resolve_left n0
        have := tL_rng hW _ a.1 a.2.1 z hz
        omega
      have hin : ∀ p, p < 3 → ∀ z, z ∈ tL N (N p x) → ¬ σ.1 36 z = 0 := by
        intro p hp z hz
        refine ha z ((tL_mem hW x1 x2).2 (Or.inr ⟨p, hp, fun h => ?_, hz⟩))
        rw [h, tL_0] at hz
        exact absurd hz (List.not_mem_nil)
      have o1 : ∀ (L : List Nat) (y p : Nat), lo ≤ y → p < 3 → (kC (kC1 σ x) L).1 (38 + p) y = nI (N p y) := by
        intro L y p hlo hp
        rw [kC_o (by omega) (by omega) (by omega), kC1_o (by omega) (by omega) (by omega)]
        exact hN y p hlo hp
      obtain ⟨r2, D2⟩ := ih (N 2 x) (hch 2 (by decide)).1 (kC1 σ x) (G + 1) (k + 1) d hD1 (o1 []) (fun z hz => by
        rw [kC1_36, uq_ne (hni 2 (by decide) z hz)]; exact hin 2 (by decide) z hz) (hch 2 (by decide)).2
      obtain ⟨r1, D1⟩ := ih (N 1 x) (hch 1 (by decide)).1 (kC (kC1 σ x) (tL N (N 2 x))) _ (k + 1) d D2 (o1 _) (fun z hz => by
        rw [kC_36n _ _ _ (fun hz' => tL_dis hW x1 x2 (show 1 < 2 by decide) (by decide) hz hz'), kC1_36, uq_ne (hni 1 (by decide) z hz)]; exact hin 1 (by decide) z hz) (hch 1 (by decide)).2
      rw [← kC_app] at r1 D1
      obtain ⟨r0, D0⟩ := ih (N 0 x) (hch 0 (by decide)).1 (kC (kC1 σ x) (tL N (N 2 x) ++ tL N (N 1 x))) _ (k + 1) d D1 (o1 _) (fun z hz => by
        rw [kC_36n _ _ _ (fun hz' => (List.mem_append.1 hz').elim (fun q => tL_dis hW x1 x2 (show 0 < 2 by decide) (by decide) hz q) (fun q => tL_dis hW x1 x2 (show 0 < 1 by decide) (by decide) hz q)), kC1_36, uq_ne (hni 0 (by decide) z hz)]; exact hin 0 (by decide) z hz) (hch 0 (by decide)).2
      have eL : kC σ (tL N x) = kC (kC (kC1 σ x) (tL N (N 2 x) ++ tL N (N 1 x))) (tL N (N 0 x)) := by
        rw [tL_eq hW x1 x2, kC, ← kC_app, List.append_assoc]
      refine ⟨?_, ?_⟩
      · rw [eL, show d + (f + 1) + 2 = (d + f + 1 + 1) + 1 by omega, cp_59_g, if_neg (show ¬ (10 : Int32) < nI k from (nI_nlt (by omega) (by decide) : ¬ nI 10 < nI k)), hD.2.2.2.1, if_neg (show ¬ (200 : Int32) ≤ nI G from (nI_ge (by omega) (by decide) : ¬ nI 200 ≤ nI G)), c_isLiving hU hD.2.1 x1 x2]
        simp (decide := true) only [pu_bind, pb_if, hax, decide_false, Bool.not_false, if_true, if_false, hT, hC, mm_w_off, mm_w_at2, mm_w_at, hD.2.2.1, hD.2.2.2.1, hTG, hCG, nI_1]
        rw [← e1, show 99999964 + 0 = 99999949 + 15 from rfl, cp_59_h3, if_neg (show ¬ (2 : Int32) < 0 by decide)]
        simp only [g2, a2, pu_bind, hT, hC, if_true]
        rw [show (kC1 σ x).1 40 x = nI (N 2 x) from o1 [] x 2 x0 (by decide), nI_1, show d + f + 1 + 1 = d + f + 2 from rfl, r2]
        simp only [pu_bind]
        rw [show 99999949 + 0 = 99999934 + 15 from rfl, cp_59_h3, if_neg (show ¬ (2 + -1 : Int32) < 0 by decide)]
        simp only [g1, a1, pu_bind, hT, hC, if_true]
        rw [show (kC (kC1 σ x) (tL N (N 2 x))).1 39 x = nI (N 1 x) from o1 _ x 1 x0 (by decide), nI_1, r1]
        simp only [pu_bind]
        rw [show 99999934 + 0 = 99999919 + 15 from rfl, cp_59_h3, if_neg (show ¬ (2 + -1 + -1 : Int32) < 0 by decide)]
        simp only [g0, a0, pu_bind, hT, hC, if_true]
        rw [show (kC (kC1 σ x) (tL N (N 2 x) ++ tL N (N 1 x))).1 38 x = nI (N 0 x) from o1 _ x 0 x0 (by decide), nI_1, r0]
        simp only [pu_bind]
        rw [show 99999919 + 0 = 99999904 + 15 from rfl, cp_59_h3, if_pos (show (2 + -1 + -1 + -1 : Int32) < 0 by decide)]
      · rw [eL]
        have : G + (tL N x).length = G + 1 + (tL N (N 2 x)).length + (tL N (N 1 x)).length + (tL N (N 0 x)).length := by
          rw [tL_eq hW x1 x2]
          simp only [List.length_cons, List.length_append]
          omega
        rw [this]
        exact D0
/-- the rows of an instance that is added -/
def aI1 (σ : mm_S) (n : Nat) (x o : Int32) : mm_S := (mm_w (mm_w (mm_w (mm_w (mm_w σ.1 4 0 (nI n)) 4 1 (σ.1 4 1 + 1)) 34 n x) 35 n o) 36 n 1, σ.2)
theorem c_addI {σ : mm_S} {U G : Nat} (hD : cD σ U G) (hU : U < 200) (x o : Int32) (d : Nat) : cG (d + 1) 57 [.ref 4, .int x, .int o] σ = some (nI (U + 1), 0, aI1 σ (U + 1) x o) := by
  have hT := pu_T (show U + 1 < 201 by omega) (by decide)
  have hC := pu_cl (show U + 1 < 201 by omega) (by decide)
  have lt : nI U < (200 : Int32) := (nI_lt hU (by decide) : nI U < nI 200)
  rw [cp_57_g, hD.2.1, if_pos lt]
  simp (decide := true) only [mm_w_at, mm_w_at2, mm_w_off, hD.2.1, nI_1, hT, hC, if_true]
  rfl
theorem aI1_o {σ : mm_S} {n k : Nat} {x o : Int32} (h1 : k ≠ 4) (h2 : k < 34 ∨ 36 < k) : (aI1 σ n x o).1 k = σ.1 k := by
  unfold aI1
  simp only
  rw [mm_w_ne (by omega), mm_w_ne (by omega), mm_w_ne (by omega), mm_w_ne h1, mm_w_ne h1]
theorem aI1_34 {σ : mm_S} {n : Nat} {x o : Int32} : (aI1 σ n x o).1 34 = uq (σ.1 34) n x := by
  unfold aI1
  simp (decide := true) only [mm_w_ne, mm_w_eq]
  rfl
theorem aI1_35 {σ : mm_S} {n : Nat} {x o : Int32} : (aI1 σ n x o).1 35 = uq (σ.1 35) n o := by
  unfold aI1
  simp (decide := true) only [mm_w_ne, mm_w_eq]
  rfl
theorem aI1_36 {σ : mm_S} {n : Nat} {x o : Int32} : (aI1 σ n x o).1 36 = uq (σ.1 36) n 1 := by
  unfold aI1
  simp (decide := true) only [mm_w_ne, mm_w_eq]
  rfl
theorem cD_add {σ : mm_S} {U G : Nat} {x o : Int32} (hD : cD σ U G) (hU : U < 200) : cD (aI1 σ (U + 1) x o) (U + 1) G := by
  obtain ⟨c1, c2, c3, c4, c5⟩ := hD
  have hG : G ≤ U := by rw [← c5]; exact pCt_le _ _
  refine ⟨by omega, ?_, ?_, ?_, ?_⟩
  · unfold aI1
    simp (decide := true) only [mm_w_at, mm_w_at2, mm_w_off]
  · unfold aI1
    simp (decide := true) only [mm_w_at, mm_w_at2, mm_w_off]
    rw [c3, nI_1, show U - G + 1 = U + 1 - G by omega]
  · unfold aI1
    simp (decide := true) only [mm_w_at2, mm_w_off]
    exact c4
  · rw [aI1_36, pCt]
    have e : pCt (fun i => decide (uq (σ.1 36) (U + 1) 1 (i + 1) = 0)) U = G := by
      rw [← c5]
      refine pCt_ext (fun i hi => ?_)
      rw [uq_ne (by omega)]
    rw [e, uq_at]
    rfl
theorem c_setPart {σ : mm_S} {U n q : Nat} (hU : U ≤ 200) (e : σ.1 4 0 = nI U) (h1 : 1 ≤ n) (h2 : n ≤ U) (ha : ¬ σ.1 36 n = 0) (hq : q < 3) (v : Int32) (d : Nat) : cG (d + 2) 58 [.ref 4, .int (nI n), .int (nI q), .int v] σ = some (0, 0, (mm_w σ.1 (38 + q) n v, σ.2)) := by
  have hT := pu_T (show n < 201 by omega) (by decide)
  have hC := pu_cl (show n < 201 by omega) (by decide)
  rw [cp_58_g, c_isLiving hU e h1 h2]
  simp only [pu_bnd, pb_if, ha, decide_false, Bool.not_false, if_true]
  rw [if_neg (nI_pos (by omega)), if_neg (show ¬ (3 : Int32) ≤ nI q from (nI_ge hq (by decide) : ¬ nI 3 ≤ nI q))]
  simp only [(c_grid37 hq).1, (c_grid37 hq).2, pu_bnd, hT, hC, if_true]
theorem c_targetOf {σ : mm_S} {n j m p : Nat} (hB : cB σ n) (hj : j < n) (em : σ.1 19 j = nI m) (hm : m ≤ 3) (hp : p < m) (d : Nat) : cG (d + 4) 60 [.ref 3, .int (nI j), .int (nI p)] σ = some (σ.1 (29 + p) j, 0, σ) := by
  have hn := hB.2
  have hT := pu_T (show j < 16 by omega) (by decide)
  have hC := pu_cl (show j < 16 by omega) (by decide)
  rw [cp_60_g, c_hasPoint hB hj em hm hp]
  simp only [pu_bnd, pu_10, if_false, (c_grid28 (show p < 3 by omega)).1, (c_grid28 (show p < 3 by omega)).2, hT, hC, if_true]
/-- deaths, written down from G on -/
def ap (f : Nat → Int32) (G : Nat) : List Nat → Nat → Int32
  | [] => f
  | x :: L => ap (uq f G (nI x)) (G + 1) L
theorem ap_app {f : Nat → Int32} {G : Nat} : ∀ {L M : List Nat}, ap f G (L ++ M) = ap (ap f G L) (G + L.length) M
  | [], M => by simp [ap]
  | x :: L, M => by
    rw [List.cons_append, ap, ap_app (L := L), ap, List.length_cons, show G + (L.length + 1) = G + 1 + L.length by omega]
theorem kC_41 : ∀ (L : List Nat) {σ : mm_S} {U G : Nat}, cD σ U G → L.Nodup → (∀ z, z ∈ L → 1 ≤ z ∧ z ≤ U ∧ ¬ σ.1 36 z = 0) → (kC σ L).1 41 = ap (σ.1 41) G L
  | [], _, _, _, _, _, _ => rfl
  | x :: L, σ, U, G, hD, hn, h => by
    rw [List.nodup_cons] at hn
    obtain ⟨a1, a2, a3⟩ := h x (List.mem_cons_self)
    obtain ⟨hG, h1⟩ := cD_1 hD a1 a2 a3
    have e41 : (kC1 σ x).1 41 = uq (σ.1 41) G (nI x) := by
      have : (kC1 σ x).1 41 = uq (σ.1 41) (σ.1 4 2).toNatClampNeg (nI x) := by
        unfold kC1
        simp (decide := true) only [mm_w_ne, mm_w_eq]
        rfl
      rw [this, hD.2.2.2.1, nI_clamp (by have := hD.1; omega)]
    rw [kC, ap, ← e41]
    refine kC_41 L h1 hn.2 (fun z hz => ?_)
    obtain ⟨b1, b2, b3⟩ := h z (List.mem_cons_of_mem _ hz)
    refine ⟨b1, b2, ?_⟩
    rw [kC1_36, uq_ne (fun q => hn.1 (by rw [← q]; exact hz))]
    exact b3
