/-! the class kills: discard -/
def kC1 (σ : mm_S) (x : Nat) : mm_S := (mm_w (mm_w (mm_w (mm_w σ.1 36 x 0) 4 1 (σ.1 4 1 - 1)) 41 (σ.1 4 2).toNatClampNeg (nI x)) 4 2 (σ.1 4 2 + 1), σ.2)
def kC : mm_S → List Nat → mm_S
  | σ, [] => σ
  | σ, x :: L => kC (kC1 σ x) L
theorem kC_app : ∀ (L M : List Nat) (σ : mm_S), kC σ (L ++ M) = kC (kC σ L) M
  | [], _, _ => rfl
  | x :: L, M, σ => kC_app L M (kC1 σ x)
theorem kC1_o {σ : mm_S} {x k : Nat} (h1 : k ≠ 4) (h2 : k ≠ 36) (h3 : k ≠ 41) : (kC1 σ x).1 k = σ.1 k := by
  unfold kC1
  simp only
  rw [mm_w_ne h1, mm_w_ne h3, mm_w_ne h1, mm_w_ne h2]
theorem kC_o {k : Nat} (h1 : k ≠ 4) (h2 : k ≠ 36) (h3 : k ≠ 41) : ∀ (L : List Nat) (σ : mm_S), (kC σ L).1 k = σ.1 k
  | [], _ => rfl
  | x :: L, σ => (kC_o h1 h2 h3 L (kC1 σ x)).trans (kC1_o h1 h2 h3)
theorem kC1_36 {σ : mm_S} {x : Nat} : (kC1 σ x).1 36 = uq (σ.1 36) x 0 := by
  unfold kC1
  simp (decide := true) only [mm_w_ne, mm_w_eq]
  rfl
theorem kC_36n : ∀ (L : List Nat) (σ : mm_S) (z : Nat), z ∉ L → (kC σ L).1 36 z = σ.1 36 z
  | [], _, _, _ => rfl
  | x :: L, σ, z, h => by
    rw [List.mem_cons, not_or] at h
    rw [kC, kC_36n L _ z h.2, kC1_36, uq_ne h.1]
theorem kC_36y : ∀ (L : List Nat) (σ : mm_S) (z : Nat), (z ∈ L ∨ σ.1 36 z = 0) → (kC σ L).1 36 z = 0
  | [], _, _, h => h.resolve_left (List.not_mem_nil)
  | x :: L, σ, z, h => by
    rw [kC]
    apply kC_36y
    rw [kC1_36]
    by_cases e : z = x
    · subst e; exact Or.inr uq_at
    · rw [uq_ne e]
      rcases h with h | h
      · exact Or.inl ((List.mem_cons.1 h).resolve_left e)
      · exact Or.inr h
def cD (σ : mm_S) (U G : Nat) : Prop := U ≤ 200 ∧ σ.1 4 0 = nI U ∧ σ.1 4 1 = nI (U - G) ∧ σ.1 4 2 = nI G ∧ pCt (fun i => decide (σ.1 36 (i + 1) = 0)) U = G
theorem cD_1 {σ : mm_S} {U G x : Nat} (h : cD σ U G) (h1 : 1 ≤ x) (h2 : x ≤ U) (ha : ¬ σ.1 36 x = 0) : G < U ∧ cD (kC1 σ x) U (G + 1) := by
  obtain ⟨c1, c2, c3, c4, c5⟩ := h
  have hG : G < U := by
    rw [← c5]
    refine pCt_lt (j := x - 1) ?_ (by omega)
    rw [decide_eq_false_iff_not, show x - 1 + 1 = x by omega]
    exact ha
  refine ⟨hG, c1, ?_, ?_, ?_, ?_⟩
  · unfold kC1
    simp only
    rw [mm_w_at2 (by decide), mm_w_off (by decide), mm_w_at2 (by decide), mm_w_off (by decide)]
    exact c2
  · unfold kC1
    simp only
    rw [mm_w_at2 (by decide), mm_w_off (by decide), mm_w_at, c3, show U - G = (U - (G + 1)) + 1 by omega, nI_pred]
  · unfold kC1
    simp only
    rw [mm_w_at, c4, nI_1]
  · rw [kC1_36, ← c5]
    refine pCt_flip (j := x - 1) ?_ ?_ (fun i hi => ?_) (by omega)
    · rw [decide_eq_false_iff_not, show x - 1 + 1 = x by omega]; exact ha
    · rw [decide_eq_true_eq, show x - 1 + 1 = x by omega, uq_at]
    · rw [uq_ne (by omega)]
theorem kC1_e {σ : mm_S} {U G x : Nat} (h : cD σ U G) (hG : G < U) : kC1 σ x = (mm_w (mm_w (mm_w (mm_w σ.1 36 x 0) 4 1 (nI (U - G) - 1)) 41 G (nI x)) 4 2 (nI (G + 1)), σ.2) := by
  obtain ⟨c1, c2, c3, c4, c5⟩ := h
  unfold kC1
  rw [c3, c4, nI_1, nI_clamp (by omega)]
theorem c_disc0 {σ : mm_S} (k : Int32) (d : Nat) : cG (d + 2) 59 [.ref 4, .int (nI 0), .int k] σ = some (0, 0, σ) := by
  rw [cp_59_g]
  by_cases h1 : (10 : Int32) < k
  · rw [if_pos h1]
  · rw [if_neg h1]
    by_cases h2 : (200 : Int32) ≤ σ.1 4 2
    · rw [if_pos h2]
    · rw [if_neg h2, c_isLiving_n (Or.inl (by decide))]
      rfl
set_option maxHeartbeats 1000000 in
theorem c_discard {U : Nat} {N : Nat → Nat → Nat} {ht : Nat → Nat} (hW : tW U N ht) : ∀ (f x : Nat), (x = 0 ∨ (1 ≤ x ∧ x ≤ U ∧ ht x < f)) → ∀ (σ : mm_S) (G k d : Nat), cD σ U G → (∀ y p, p < 3 → σ.1 (38 + p) y = nI (N p y)) → (∀ z, z ∈ tL N x → ¬ σ.1 36 z = 0) → (x = 0 ∨ k + ht x ≤ 10) → cG (d + f + 2) 59 [.ref 4, .int (nI x), .int (nI k)] σ = some (0, 0, kC σ (tL N x)) ∧ cD (kC σ (tL N x)) U (G + (tL N x).length) := by
  intro f
  induction f with
  | zero =>
    intro x hx σ G k d hD hN ha hk
    have : x = 0 := by omega
    subst this
    rw [tL_0, c_disc0]
    exact ⟨rfl, hD⟩
  | succ f ih =>
    intro x hx σ G k d hD hN ha hk
    rcases hx with rfl | ⟨x1, x2, x3⟩
    · rw [tL_0, c_disc0]
      exact ⟨rfl, hD⟩
    · have hk' : k + ht x ≤ 10 := hk.resolve_left (by omega)
      have hU := hD.1
      have hax := ha x (tL_self hW x1 x2)
      obtain ⟨hG, hD1⟩ := cD_1 hD x1 x2 hax
      have e1 := kC1_e (x := x) hD hG
      have hT := pu_T (show x < 201 by omega) (by decide)
      have hC := pu_cl (show x < 201 by omega) (by decide)
      have hTG := pu_T (show G < 200 by omega) (by decide)
      have hCG := pu_cl (show G < 200 by omega) (by decide)
      have g2 : mm_grid sc 37 (2 : Int32) = some 40 := rfl
      have g1 : mm_grid sc 37 (2 + -1 : Int32) = some 39 := rfl
      have g0 : mm_grid sc 37 (2 + -1 + -1 : Int32) = some 38 := rfl
      have a2 : mm_arr sc 40 0 = some 201 := rfl
      have a1 : mm_arr sc 39 0 = some 201 := rfl
      have a0 : mm_arr sc 38 0 = some 201 := rfl
      have hch : ∀ p, p < 3 → (N p x = 0 ∨ (1 ≤ N p x ∧ N p x ≤ U ∧ ht (N p x) < f)) ∧ (N p x = 0 ∨ k + 1 + ht (N p x) ≤ 10) := by
        intro p hp
        rcases tW_ch hW x1 x2 hp with h | ⟨a, b, c, -⟩
        · exact ⟨Or.inl h, Or.inl h⟩
        · exact ⟨Or.inr ⟨a, b, by omega⟩, Or.inr (by omega)⟩
      have hni : ∀ p, p < 3 → ∀ z, z ∈ tL N (N p x) → z ≠ x := by
        intro p hp z hz
        have n0 : ¬ N p x = 0 := fun h => by rw [h, tL_0] at hz; exact absurd hz (List.not_mem_nil)
        have a := (tW_ch hW x1 x2 hp).resolve_left n0
        have := tL_rng hW _ a.1 a.2.1 z hz
        omega
      have hin : ∀ p, p < 3 → ∀ z, z ∈ tL N (N p x) → ¬ σ.1 36 z = 0 := by
        intro p hp z hz
        refine ha z ((tL_mem hW x1 x2).2 (Or.inr ⟨p, hp, fun h => ?_, hz⟩))
        rw [h, tL_0] at hz
        exact absurd hz (List.not_mem_nil)
      have o1 : ∀ (L : List Nat) (y p : Nat), p < 3 → (kC (kC1 σ x) L).1 (38 + p) y = nI (N p y) := by
        intro L y p hp
        rw [kC_o (by omega) (by omega) (by omega), kC1_o (by omega) (by omega) (by omega)]
        exact hN y p hp
      obtain ⟨r2, D2⟩ := ih (N 2 x) (hch 2 (by decide)).1 (kC1 σ x) (G + 1) (k + 1) d hD1 (o1 []) (fun z hz => by
        rw [kC1_36, uq_ne (hni 2 (by decide) z hz)]; exact hin 2 (by decide) z hz) (hch 2 (by decide)).2
      obtain ⟨r1, D1⟩ := ih (N 1 x) (hch 1 (by decide)).1 (kC (kC1 σ x) (tL N (N 2 x))) _ (k + 1) d D2 (o1 _) (fun z hz => by
        rw [kC_36n _ _ _ (fun hz' => tL_dis hW x1 x2 (show 1 < 2 by decide) (by decide) hz hz'), kC1_36, uq_ne (hni 1 (by decide) z hz)]; exact hin 1 (by decide) z hz) (hch 1 (by decide)).2
      rw [← kC_app] at r1 D1
      obtain ⟨r0, D0⟩ := ih (N 0 x) (hch 0 (by decide)).1 (kC (kC1 σ x) (tL N (N 2 x) ++ tL N (N 1 x))) _ (k + 1) d D1 (o1 _) (fun z hz => by
        rw [kC_36n _ _ _ (fun hz' => (List.mem_append.1 hz').elim (fun q => tL_dis hW x1 x2 (show 0 < 2 by decide) (by decide) hz q) (fun q => tL_dis hW x1 x2 (show 0 < 1 by decide) (by decide) hz q)), kC1_36, uq_ne (hni 0 (by decide) z hz)]; exact hin 0 (by decide) z hz) (hch 0 (by decide)).2
      have eL : kC σ (tL N x) = kC (kC (kC1 σ x) (tL N (N 2 x) ++ tL N (N 1 x))) (tL N (N 0 x)) := by
        rw [tL_eq hW x1 x2, kC, ← kC_app, List.append_assoc]
      refine ⟨?_, ?_⟩
      · rw [eL, show d + (f + 1) + 2 = (d + f + 1 + 1) + 1 by omega, cp_59_g, if_neg (show ¬ (10 : Int32) < nI k from (nI_nlt (by omega) (by decide) : ¬ nI 10 < nI k)), hD.2.2.2.1, if_neg (show ¬ (200 : Int32) ≤ nI G from (nI_ge (by omega) (by decide) : ¬ nI 200 ≤ nI G)), c_isLiving hU hD.2.1 x1 x2]
        simp (decide := true) only [pu_bind, pb_if, hax, decide_false, Bool.not_false, if_true, if_false, hT, hC, mm_w_off, mm_w_at2, mm_w_at, hD.2.2.1, hD.2.2.2.1, hTG, hCG, nI_1]
        rw [← e1, show 99999964 + 0 = 99999949 + 15 from rfl, cp_59_h3, if_neg (show ¬ (2 : Int32) < 0 by decide)]
        simp only [g2, a2, pu_bind, hT, hC, if_true]
        rw [show (kC1 σ x).1 40 x = nI (N 2 x) from o1 [] x 2 (by decide), nI_1, show d + f + 1 + 1 = d + f + 2 from rfl, r2]
        simp only [pu_bind]
        rw [show 99999949 + 0 = 99999934 + 15 from rfl, cp_59_h3, if_neg (show ¬ (2 + -1 : Int32) < 0 by decide)]
        simp only [g1, a1, pu_bind, hT, hC, if_true]
        rw [show (kC (kC1 σ x) (tL N (N 2 x))).1 39 x = nI (N 1 x) from o1 _ x 1 (by decide), nI_1, r1]
        simp only [pu_bind]
        rw [show 99999934 + 0 = 99999919 + 15 from rfl, cp_59_h3, if_neg (show ¬ (2 + -1 + -1 : Int32) < 0 by decide)]
        simp only [g0, a0, pu_bind, hT, hC, if_true]
        rw [show (kC (kC1 σ x) (tL N (N 2 x) ++ tL N (N 1 x))).1 38 x = nI (N 0 x) from o1 _ x 0 (by decide), nI_1, r0]
        simp only [pu_bind]
        rw [show 99999919 + 0 = 99999904 + 15 from rfl, cp_59_h3, if_pos (show (2 + -1 + -1 + -1 : Int32) < 0 by decide)]
      · rw [eL]
        have : G + (tL N x).length = G + 1 + (tL N (N 2 x)).length + (tL N (N 1 x)).length + (tL N (N 0 x)).length := by
          rw [tL_eq hW x1 x2]
          simp only [List.length_cons, List.length_append]
          omega
        rw [this]
        exact D0
