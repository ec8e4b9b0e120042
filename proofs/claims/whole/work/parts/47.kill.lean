/-! the reference kills -/
def kR1 (τ : mm_S) (x : Nat) : mm_S := (mm_w (mm_w (mm_w τ.1 23 x 0) 25 (τ.1 0 31).toNatClampNeg (nI x)) 0 31 (τ.1 0 31 + 1), τ.2)
def kR : mm_S → List Nat → mm_S
  | τ, [] => τ
  | τ, x :: L => kR (kR1 τ x) L
theorem kR_app : ∀ (L M : List Nat) (τ : mm_S), kR τ (L ++ M) = kR (kR τ L) M
  | [], _, _ => rfl
  | x :: L, M, τ => kR_app L M (kR1 τ x)
theorem kR1_o {τ : mm_S} {x k : Nat} (h1 : k ≠ 0) (h2 : k ≠ 23) (h3 : k ≠ 25) : (kR1 τ x).1 k = τ.1 k := by
  unfold kR1
  simp only
  rw [mm_w_ne h1, mm_w_ne h3, mm_w_ne h2]
theorem kR_o {k : Nat} (h1 : k ≠ 0) (h2 : k ≠ 23) (h3 : k ≠ 25) : ∀ (L : List Nat) (τ : mm_S), (kR τ L).1 k = τ.1 k
  | [], _ => rfl
  | x :: L, τ => (kR_o h1 h2 h3 L (kR1 τ x)).trans (kR1_o h1 h2 h3)
theorem kR1_0 {τ : mm_S} {x i : Nat} (h : i ≠ 31) : (kR1 τ x).1 0 i = τ.1 0 i := by
  unfold kR1
  simp only
  rw [mm_w_at2 h, mm_w_off (by decide), mm_w_off (by decide)]
theorem kR_0 {i : Nat} (h : i ≠ 31) : ∀ (L : List Nat) (τ : mm_S), (kR τ L).1 0 i = τ.1 0 i
  | [], _ => rfl
  | x :: L, τ => (kR_0 h L (kR1 τ x)).trans (kR1_0 h)
theorem kR1_23 {τ : mm_S} {x : Nat} : (kR1 τ x).1 23 = uq (τ.1 23) x 0 := by
  unfold kR1
  simp (decide := true) only [mm_w_ne, mm_w_eq]
  rfl
def rD (τ : mm_S) (U G : Nat) : Prop := U ≤ 200 ∧ τ.1 0 24 = nI U ∧ τ.1 0 31 = nI G ∧ pCt (fun i => decide (τ.1 23 (i + 1) = 0)) U = G
theorem rD_1 {τ : mm_S} {U G x : Nat} (h : rD τ U G) (h1 : 1 ≤ x) (h2 : x ≤ U) (ha : ¬ τ.1 23 x = 0) : G < U ∧ rD (kR1 τ x) U (G + 1) := by
  obtain ⟨c1, c2, c3, c5⟩ := h
  have hG : G < U := by
    rw [← c5]
    refine pCt_lt (j := x - 1) ?_ (by omega)
    rw [decide_eq_false_iff_not, show x - 1 + 1 = x by omega]
    exact ha
  refine ⟨hG, c1, ?_, ?_, ?_⟩
  · rw [kR1_0 (by decide)]; exact c2
  · unfold kR1
    simp only
    rw [mm_w_at, c3, nI_1]
  · rw [kR1_23, ← c5]
    refine pCt_flip (j := x - 1) ?_ ?_ (fun i hi => ?_) (by omega)
    · rw [decide_eq_false_iff_not, show x - 1 + 1 = x by omega]; exact ha
    · rw [decide_eq_true_eq, show x - 1 + 1 = x by omega, uq_at]
    · rw [uq_ne (by omega)]
/-- the same but for the scratch row -/
def r31 (τ τ' : mm_S) : Prop := (∀ k, k ≠ 31 → τ'.1 k = τ.1 k) ∧ τ'.2 = τ.2
theorem r31_refl (τ : mm_S) : r31 τ τ := ⟨fun _ _ => rfl, rfl⟩
theorem r31_trans {a b c : mm_S} (h : r31 a b) (h' : r31 b c) : r31 a c := ⟨fun k q => (h'.1 k q).trans (h.1 k q), h'.2.trans h.2⟩
theorem r31_w (τ : mm_S) (j : Nat) (v : Int32) : r31 τ (mm_w τ.1 31 j v, τ.2) := ⟨fun _ h => mm_w_ne h, rfl⟩
theorem mm_w_c {f f' : Nat → Nat → Int32} (h : ∀ k, k ≠ 31 → f' k = f k) {j i : Nat} {v v' : Int32} (hv : v' = v) : ∀ k, k ≠ 31 → mm_w f' j i v' k = mm_w f j i v k := by
  intro k hk
  subst hv
  by_cases e : k = j
  · subst e; rw [mm_w_eq, mm_w_eq, h _ hk]
  · rw [mm_w_ne e, mm_w_ne e, h k hk]
theorem kR1_31 {τ τ' : mm_S} (h : r31 τ τ') (x : Nat) : r31 (kR1 τ x) (kR1 τ' x) := by
  refine ⟨?_, h.2⟩
  unfold kR1
  simp only
  rw [h.1 0 (by decide)]
  exact mm_w_c (mm_w_c (mm_w_c h.1 rfl) rfl) rfl
theorem kR_31 : ∀ (L : List Nat) {τ τ' : mm_S}, r31 τ τ' → r31 (kR τ L) (kR τ' L)
  | [], _, _, h => h
  | x :: L, _, _, h => kR_31 L (kR1_31 h x)
def stk (s : Nat → Int32) : List Nat → Prop
  | [] => True
  | y :: T => s T.length = nI y ∧ stk s T
theorem stk_ext {s s' : Nat → Int32} : ∀ {T : List Nat}, (∀ i, i < T.length → s' i = s i) → stk s T → stk s' T
  | [], _, _ => trivial
  | y :: T, h, hs => ⟨(h _ (by simp)).trans hs.1, stk_ext (fun i hi => h i (by simp; omega)) hs.2⟩
/-- those of a .. a + r - 1 that p names, the last first -/
def kd (p : Nat → Bool) : Nat → Nat → List Nat
  | _, 0 => []
  | a, r + 1 => kd p (a + 1) r ++ (if p a = true then [a] else [])
theorem kd_split {p : Nat → Bool} : ∀ (r s a : Nat), kd p a (r + s) = kd p (a + r) s ++ kd p a r
  | 0, s, a => by rw [Nat.zero_add, Nat.add_zero, kd, List.append_nil]
  | r + 1, s, a => by
    rw [show r + 1 + s = (r + s) + 1 by omega, kd, kd_split r s (a + 1), kd, List.append_assoc, show a + 1 + r = a + (r + 1) by omega]
theorem kd_none {p : Nat → Bool} : ∀ (r a : Nat), (∀ z, a ≤ z → z < a + r → p z = false) → kd p a r = []
  | 0, a, _ => rfl
  | r + 1, a, h => by
    rw [kd, kd_none r (a + 1) (fun z h1 h2 => h z (by omega) (by omega)), h a (by omega) (by omega)]
    rfl
theorem kd_list {p : Nat → Bool} {E : Nat} : ∀ (cs : List Nat) (a : Nat), a ≤ E → cs.Pairwise (· < ·) → (∀ z, z ∈ cs → a ≤ z ∧ z < E) → (∀ z, a ≤ z → z < E → (p z = true ↔ z ∈ cs)) → kd p a (E - a) = cs.reverse
  | [], a, hE, _, _, h => by
    rw [kd_none _ _ (fun z h1 h2 => by
      rw [Bool.eq_false_iff]
      intro q
      exact absurd ((h z h1 (by omega)).1 q) (List.not_mem_nil))]
    rfl
  | c :: cs, a, hE, hs, hr, h => by
    rw [List.pairwise_cons] at hs
    have hc := hr c (List.mem_cons_self)
    have hp : p c = true := (h c hc.1 hc.2).2 (List.mem_cons_self)
    have ih := kd_list (p := p) (E := E) cs (c + 1) (by omega) hs.2 (fun z hz => ⟨hs.1 z hz, (hr z (List.mem_cons_of_mem _ hz)).2⟩) (fun z h1 h2 => by
      rw [h z (by omega) h2, List.mem_cons]
      constructor
      · rintro (q | q)
        · omega
        · exact q
      · exact Or.inr)
    rw [show E - a = (c - a) + ((E - (c + 1)) + 1) by omega, kd_split, show a + (c - a) = c by omega, kd, if_pos hp, ih, kd_none (c - a) a (fun z h1 h2 => by
      rw [Bool.eq_false_iff]
      intro q
      rcases List.mem_cons.1 ((h z h1 (by omega)).1 q) with e | e
      · omega
      · have := hs.1 z e
        omega)]
    simp
def pCh (τ : mm_S) (y z : Nat) : Bool := !decide (τ.1 23 z = 0) && decide (τ.1 21 z = nI y)
theorem nI_m (k : Nat) : nI (k + 1) + (-1 : Int32) = nI k := by
  exact (Int32.sub_eq_add_neg _ _).symm.trans (nI_pred k)
theorem r_scan {d U y c : Nat} (hU : U ≤ 200) (hy : y ≤ 200) {x1 x2 : Int32} : ∀ (r a f : Nat) (τ : mm_S) (T : List Nat), a + r = min U (y + 10) + 1 → 1 ≤ a → 28 * (r + 1) ≤ f → τ.1 0 24 = nI U → stk (τ.1 31) T → (kd (pCh τ y) a r).length + T.length ≤ 15 →
    ∃ (g : Nat) (τ' : mm_S), f ≤ g + 28 * (r + 1) ∧ r31 τ τ' ∧ stk (τ'.1 31) (kd (pCh τ y) a r ++ T) ∧ ∀ res, mm_ex sr (rG d) 1 rp_38_l g rp_38_r1 [.ref 0, .int x1, .int x2, .int (nI (kd (pCh τ y) a r ++ T).length), .int (nI c), .null, .null] [] τ' = some res → mm_ex sr (rG d) 1 rp_38_l f rp_38_r2 [.ref 0, .int x1, .int x2, .int (nI T.length), .int (nI c), .int (nI y), .int (nI a)] [] τ = some res := by
  intro r
  induction r with
  | zero =>
    intro a f τ T ha h1 hf hU2 hs hl
    rw [kd, List.nil_append]
    have e10 : nI y + (10 : Int32) = nI (y + 10) := by rw [show (10 : Int32) = nI 10 by decide, nI_add]
    by_cases h2 : U < a
    · refine ⟨f - 28 + 23, τ, by omega, r31_refl τ, hs, fun res h => ?_⟩
      rw [show f = (f - 28) + 28 by omega, rp_38_h2, hU2, if_pos (nI_lt h2 (by omega))]
      exact mm_ref _ _ [.ref 0, .int x1, .int x2, .int (nI T.length), .int (nI c), .null, .null] _ _ _ (by simp [mm_rf]) h
    · refine ⟨f - 28 + 18, τ, by omega, r31_refl τ, hs, fun res h => ?_⟩
      rw [show f = (f - 28) + 28 by omega, rp_38_h2, hU2, if_neg (nI_nlt (by omega) (by omega)), e10, if_pos (nI_lt (by omega) (by omega))]
      exact mm_ref _ _ [.ref 0, .int x1, .int x2, .int (nI T.length), .int (nI c), .null, .null] _ _ _ (by simp [mm_rf]) h
  | succ r ih =>
    intro a f τ T ha h1 hf hU2 hs hl
    have e10 : nI y + (10 : Int32) = nI (y + 10) := by rw [show (10 : Int32) = nI 10 by decide, nI_add]
    have hT := pu_T (show a < 201 by omega) (by decide)
    have hC := pu_cl (show a < 201 by omega) (by decide)
    have hh : mm_ex sr (rG d) 1 rp_38_l f rp_38_r2 [.ref 0, .int x1, .int x2, .int (nI T.length), .int (nI c), .int (nI y), .int (nI a)] [] τ = (if τ.1 23 a = 0 then (mm_ex sr (rG d) 1 rp_38_l ((f - 28) + 12) rp_38_r2 [.ref 0, .int x1, .int x2, .int (nI T.length), .int (nI c), .int (nI y), .int (nI (a + 1))] [] τ) else (if τ.1 21 a = nI y then (if mm_in (nI T.length) 16 then (mm_ex sr (rG d) 1 rp_38_l ((f - 28) + 0) rp_38_r2 [.ref 0, .int x1, .int x2, .int (nI (T.length + 1)), .int (nI c), .int (nI y), .int (nI (a + 1))] [] ((mm_w τ.1 31 (nI T.length).toNatClampNeg (nI a)), τ.2)) else none) else (mm_ex sr (rG d) 1 rp_38_l ((f - 28) + 6) rp_38_r2 [.ref 0, .int x1, .int x2, .int (nI T.length), .int (nI c), .int (nI y), .int (nI (a + 1))] [] τ))) := by
      conv => lhs; rw [show f = (f - 28) + 28 by omega, rp_38_h2, hU2, if_neg (show ¬ nI U < nI a from nI_nlt (by omega) (by omega)), e10, if_neg (show ¬ nI (y + 10) < nI a from nI_nlt (by omega) (by omega))]
      simp only [hT, if_true, hC, nI_1]
    rw [kd] at hl ⊢
    by_cases h2 : τ.1 23 a = 0
    · have hp : pCh τ y a = false := by simp [pCh, h2]
      rw [hp] at hl ⊢
      simp only [Bool.false_eq_true, if_false, List.append_nil] at hl ⊢
      obtain ⟨g, τ', q1, q2, q3, q4⟩ := ih (a + 1) (f - 28 + 12) τ T (by omega) (by omega) (by omega) hU2 hs hl
      refine ⟨g, τ', by omega, q2, q3, fun res h => ?_⟩
      rw [hh, if_pos h2]
      exact q4 res h
    · by_cases h3 : τ.1 21 a = nI y
      · have hp : pCh τ y a = true := by simp [pCh, h2, h3]
        rw [hp] at hl ⊢
        simp only [if_true, List.length_append, List.length_singleton, List.append_assoc, List.singleton_append] at hl ⊢
        have hC2 := pu_cl (show T.length < 16 by omega) (by decide)
        have ep : pCh (mm_w τ.1 31 T.length (nI a), τ.2) y = pCh τ y := by
          funext z
          rfl
        have hs' : stk (mm_w τ.1 31 T.length (nI a) 31) (a :: T) := by
          refine ⟨mm_w_at, stk_ext (fun i hi => ?_) hs⟩
          rw [mm_w_at2 (by omega)]
        obtain ⟨g, τ', q1, q2, q3, q4⟩ := ih (a + 1) (f - 28 + 0) (mm_w τ.1 31 T.length (nI a), τ.2) (a :: T) (by omega) (by omega) (by omega) hU2 hs' (by rw [ep]; simp only [List.length_cons]; omega)
        rw [ep] at q3 q4
        refine ⟨g, τ', by omega, r31_trans (r31_w τ _ _) q2, q3, fun res h => ?_⟩
        rw [hh, if_neg h2, if_pos h3, if_pos (pu_in (show T.length < 16 by omega) (by decide)), hC2]
        refine q4 res ?_
        rw [List.length_append, List.length_cons]
        exact h
      · have hp : pCh τ y a = false := by simp [pCh, h3]
        rw [hp] at hl ⊢
        simp only [Bool.false_eq_true, if_false, List.append_nil] at hl ⊢
        obtain ⟨g, τ', q1, q2, q3, q4⟩ := ih (a + 1) (f - 28 + 6) τ T (by omega) (by omega) (by omega) hU2 hs hl
        refine ⟨g, τ', by omega, q2, q3, fun res h => ?_⟩
        rw [hh, if_neg h2, if_neg h3]
        exact q4 res h
def fl (N : Nat → Nat → Nat) (T : List Nat) : List Nat := T.flatMap (tL N)
theorem fl_len {U : Nat} {N : Nat → Nat → Nat} {ht : Nat → Nat} (hW : tW U N ht) : ∀ {T : List Nat}, (∀ y, y ∈ T → 1 ≤ y ∧ y ≤ U) → T.length ≤ (fl N T).length
  | [], _ => by simp
  | y :: T, h => by
    have := fl_len hW (T := T) (fun z hz => h z (List.mem_cons_of_mem _ hz))
    have hy := h y (List.mem_cons_self)
    have := (tL_len hW y hy.1 hy.2).1
    unfold fl at *
    rw [List.flatMap_cons, List.length_append, List.length_cons]
    omega
def tC (N : Nat → Nat → Nat) (y : Nat) : List Nat := [N 0 y, N 1 y, N 2 y].filter (fun z => !decide (z = 0))
theorem tC_fl {N : Nat → Nat → Nat} {y : Nat} : fl N (tC N y).reverse = tL N (N 2 y) ++ (tL N (N 1 y) ++ tL N (N 0 y)) := by
  unfold fl tC
  by_cases h0 : N 0 y = 0 <;> by_cases h1 : N 1 y = 0 <;> by_cases h2 : N 2 y = 0 <;> simp [h0, h1, h2, tL_0]
theorem tC_mem {N : Nat → Nat → Nat} {y z : Nat} : z ∈ tC N y ↔ ¬ z = 0 ∧ ∃ p, p < 3 ∧ N p y = z := by
  unfold tC
  rw [List.mem_filter]
  simp only [List.mem_cons, List.not_mem_nil, or_false, Bool.not_eq_true', decide_eq_false_iff_not]
  constructor
  · rintro ⟨h | h | h, h0⟩
    · exact ⟨h0, 0, by decide, h.symm⟩
    · exact ⟨h0, 1, by decide, h.symm⟩
    · exact ⟨h0, 2, by decide, h.symm⟩
  · rintro ⟨h0, p, hp, h⟩
    refine ⟨?_, h0⟩
    rcases (show p = 0 ∨ p = 1 ∨ p = 2 by omega) with rfl | rfl | rfl
    · exact Or.inl h.symm
    · exact Or.inr (Or.inl h.symm)
    · exact Or.inr (Or.inr h.symm)
theorem tC_sort {U : Nat} {N : Nat → Nat → Nat} {ht : Nat → Nat} (hW : tW U N ht) {y : Nat} (h1 : 1 ≤ y) (h2 : y ≤ U) : (tC N y).Pairwise (· < ·) := by
  have s01 := (hW y h1 h2).2.2 0 1 (by decide) (by decide)
  have s02 := (hW y h1 h2).2.2 0 2 (by decide) (by decide)
  have s12 := (hW y h1 h2).2.2 1 2 (by decide) (by decide)
  unfold tC
  by_cases h0 : N 0 y = 0 <;> by_cases h1 : N 1 y = 0 <;> by_cases h2 : N 2 y = 0 <;> simp [h0, h1, h2] <;> omega
theorem tC_len {N : Nat → Nat → Nat} {y : Nat} : (tC N y).length ≤ 3 := by
  unfold tC
  exact Nat.le_trans (List.length_filter_le _ _) (by simp)
theorem tL_nodup {U : Nat} {N : Nat → Nat → Nat} {ht : Nat → Nat} (hW : tW U N ht) : ∀ x, 1 ≤ x → x ≤ U → (tL N x).Nodup := by
  apply tL_ind hW (P := fun x => (tL N x).Nodup)
  intro x h1 h2 ih
  have key : ∀ p, p < 3 → (tL N (N p x)).Nodup := by
    intro p hp
    by_cases h0 : N p x = 0
    · rw [h0, tL_0]; exact List.nodup_nil
    · exact ih p hp h0
  have hni : ∀ p, p < 3 → x ∉ tL N (N p x) := by
    intro p hp hz
    have n0 : ¬ N p x = 0 := fun h => by rw [h, tL_0] at hz; exact absurd hz (List.not_mem_nil)
    have a := (tW_ch hW h1 h2 hp).resolve_left n0
    have := tL_rng hW _ a.1 a.2.1 x hz
    omega
  rw [tL_eq hW h1 h2, List.nodup_cons, List.nodup_append, List.nodup_append]
  refine ⟨fun h => ?_, key 2 (by decide), ⟨key 1 (by decide), key 0 (by decide), fun a ha b hb e => ?_⟩, fun a ha b hb e => ?_⟩
  · rcases List.mem_append.1 h with h | h
    · exact hni 2 (by decide) h
    · rcases List.mem_append.1 h with h | h
      · exact hni 1 (by decide) h
      · exact hni 0 (by decide) h
  · subst e
    exact tL_dis hW h1 h2 (show 0 < 1 by decide) (by decide) hb ha
  · subst e
    rcases List.mem_append.1 hb with h | h
    · exact tL_dis hW h1 h2 (show 1 < 2 by decide) (by decide) h ha
    · exact tL_dis hW h1 h2 (show 0 < 2 by decide) (by decide) h ha
