theorem r31_symm {a b : mm_S} (h : r31 a b) : r31 b a := ⟨fun k q => (h.1 k q).symm, h.2.symm⟩
theorem rD_31 {τ τ' : mm_S} {U G : Nat} (h : r31 τ τ') (hD : rD τ U G) : rD τ' U G := by
  unfold rD at *
  rw [h.1 0 (by decide), h.1 23 (by decide)]
  exact hD
def tO (τ : mm_S) (U : Nat) (N : Nat → Nat → Nat) (O : Nat → Nat) : Prop := (∀ z, 1 ≤ z → z ≤ U → τ.1 21 z = nI (O z) ∧ O z < z ∧ (¬ O z = 0 → ∃ p, p < 3 ∧ N p (O z) = z)) ∧ (∀ x p, 1 ≤ x → x ≤ U → p < 3 → N p x = 0 ∨ O (N p x) = x)
theorem tO_31 {τ τ' : mm_S} {U : Nat} {N : Nat → Nat → Nat} {O : Nat → Nat} (h : r31 τ τ') (hO : tO τ U N O) : tO τ' U N O := by
  unfold tO at *
  rw [h.1 21 (by decide)]
  exact hO
theorem tO_k {τ : mm_S} {U : Nat} {N : Nat → Nat → Nat} {O : Nat → Nat} (hO : tO τ U N O) (x : Nat) : tO (kR1 τ x) U N O := by
  unfold tO at *
  rw [kR1_o (by decide) (by decide) (by decide)]
  exact hO
theorem kR1_e {τ : mm_S} {U G x : Nat} (h : rD τ U G) (hG : G < U) : kR1 τ x = (mm_w (mm_w (mm_w τ.1 23 x 0) 25 G (nI x)) 0 31 (nI (G + 1)), τ.2) := by
  obtain ⟨c1, c2, c3, c5⟩ := h
  unfold kR1
  rw [c3, nI_1, nI_clamp (by omega)]
set_option maxHeartbeats 1000000 in
theorem r_killL {U : Nat} {N : Nat → Nat → Nat} {ht O : Nat → Nat} (hW : tW U N ht) {d : Nat} {x1 x2 : Int32} : ∀ (n : Nat) (T : List Nat) (τ : mm_S) (c f G : Nat), (fl N T).length = n → (∀ y, y ∈ T → 1 ≤ y ∧ y ≤ U) → (fl N T).Nodup → (∀ z, z ∈ fl N T → ¬ τ.1 23 z = 0) → rD τ U G → tO τ U N O → stk (τ.1 31) T → n ≤ 10 → 400 * (n + 1) ≤ f →
    ∃ τ', r31 (kR τ (fl N T)) τ' ∧ rD (kR τ (fl N T)) U (G + n) ∧ mm_ex sr (rG d) 1 rp_38_l f rp_38_r1 [.ref 0, .int x1, .int x2, .int (nI T.length), .int (nI c), .null, .null] [] τ = some (nI (c + n), 0, τ') := by
  intro n
  induction n with
  | zero =>
    intro T τ c f G hn hT hd ha hD hO hs h10 hf
    have := fl_len hW hT
    have e : T = [] := List.eq_nil_of_length_eq_zero (by omega)
    subst e
    refine ⟨τ, r31_refl τ, hD, ?_⟩
    rw [show f = (f - 30) + 30 by omega, rp_38_h1, if_pos (show nI ([] : List Nat).length ≤ 0 by decide)]
    rfl
  | succ n ih =>
    intro T τ c f G hn hT hd ha hD hO hs h10 hf
    match T, hn, hT, hd, ha, hs with
    | [], hn, _, _, _, _ => cases hn
    | y :: T, hn, hT, hd, ha, hs =>
      have hU := hD.1
      obtain ⟨y1, y2⟩ := hT y (List.mem_cons_self)
      have hT' : ∀ z, z ∈ T → 1 ≤ z ∧ z ≤ U := fun z hz => hT z (List.mem_cons_of_mem _ hz)
      have efl : fl N (y :: T) = y :: fl N ((tC N y).reverse ++ T) := by
        unfold fl
        rw [List.flatMap_cons, List.flatMap_append, tL_eq hW y1 y2, List.cons_append]
        exact congrArg (fun l => y :: (l ++ T.flatMap (tL N))) tC_fl.symm
      rw [efl] at hn hd ha ⊢
      rw [List.length_cons] at hn
      rw [List.nodup_cons] at hd
      have lT := fl_len hW hT'
      have lf : (fl N T).length ≤ n := by
        have : (fl N ((tC N y).reverse ++ T)).length = n := by omega
        unfold fl at this ⊢
        rw [List.flatMap_append, List.length_append] at this
        omega
      have hay : ¬ τ.1 23 y = 0 := ha y (List.mem_cons_self)
      obtain ⟨hG, hD1⟩ := rD_1 hD y1 y2 hay
      have e1 := kR1_e (x := y) hD hG
      have h9 := (hW y y1 y2).1
      have hmem : ∀ z, z ∈ tC N y → y < z ∧ z ≤ U ∧ z ≤ y + 9 := by
        intro z hz
        obtain ⟨z0, p, hp, rfl⟩ := tC_mem.1 hz
        have := (tW_ch hW y1 y2 hp).resolve_left z0
        omega
      have ekd : kd (pCh (kR1 τ y) y) (y + 1) (min U (y + 10) + 1 - (y + 1)) = (tC N y).reverse := by
        refine kd_list (tC N y) (y + 1) (by omega) (tC_sort hW y1 y2) (fun z hz => ?_) (fun z z1 z2 => ?_)
        · have := hmem z hz
          omega
        · unfold pCh
          rw [Bool.and_eq_true, Bool.not_eq_true', decide_eq_false_iff_not, decide_eq_true_eq, kR1_23, uq_ne (show z ≠ y by omega), kR1_o (by decide) (by decide) (by decide)]
          obtain ⟨o1, o2, o3⟩ := hO.1 z (by omega) (by omega)
          constructor
          · rintro ⟨-, q⟩
            rw [o1, nI_eq (by omega) (by omega)] at q
            obtain ⟨p, hp, e⟩ := o3 (by omega)
            rw [q] at e
            exact tC_mem.2 ⟨by omega, p, hp, e⟩
          · intro hz
            refine ⟨?_, ?_⟩
            · apply ha
              refine List.mem_cons_of_mem _ ?_
              unfold fl
              rw [List.mem_flatMap]
              have hm := hmem z hz
              exact ⟨z, List.mem_append_left _ (List.mem_reverse.2 hz), tL_self hW (by omega) hm.2.1⟩
            · obtain ⟨z0, p, hp, rfl⟩ := tC_mem.1 hz
              rw [o1, (hO.2 y p y1 y2 hp).resolve_left z0]
      have hr : (y + 1) + (min U (y + 10) + 1 - (y + 1)) = min U (y + 10) + 1 := by omega
      have lC : (tC N y).length ≤ 3 := tC_len
      obtain ⟨g, τ2, q1, q2, q3, q4⟩ := r_scan (d := d) (U := U) (y := y) (c := c + 1) hU (by omega) (x1 := x1) (x2 := x2) (min U (y + 10) + 1 - (y + 1)) (y + 1) (f - 30) (kR1 τ y) T hr (by omega) (by omega) hD1.2.1 (by
        rw [kR1_o (by decide) (by decide) (by decide)]; exact hs.2) (by rw [ekd, List.length_reverse]; omega)
      rw [ekd] at q3 q4
      have hT2 : ∀ z, z ∈ (tC N y).reverse ++ T → 1 ≤ z ∧ z ≤ U := by
        intro z hz
        rcases List.mem_append.1 hz with h | h
        · have := hmem z (List.mem_reverse.1 h)
          omega
        · exact hT' z h
      obtain ⟨τ3, p1, p2, p3⟩ := ih ((tC N y).reverse ++ T) τ2 (c + 1) g (G + 1) (by omega) hT2 hd.2 (fun z hz => by
        rw [q2.1 23 (by decide), kR1_23, uq_ne (show z ≠ y from fun e => hd.1 (by subst e; exact hz))]
        exact ha z (List.mem_cons_of_mem _ hz)) (rD_31 q2 hD1) (tO_31 q2 (tO_k hO y)) q3 (by omega) (by omega)
      refine ⟨τ3, ?_, ?_, ?_⟩
      · rw [kR]
        exact r31_trans (kR_31 _ q2) p1
      · rw [kR]
        have := rD_31 (r31_symm (kR_31 (fl N ((tC N y).reverse ++ T)) q2)) p2
        rw [show G + (n + 1) = G + 1 + n by omega]
        exact this
      · have hT1 := pu_T (show T.length < 16 by omega) (by decide)
        have hC1 := pu_cl (show T.length < 16 by omega) (by decide)
        have hTy := pu_T (show y < 201 by omega) (by decide)
        have hCy := pu_cl (show y < 201 by omega) (by decide)
        have hTG := pu_T (show G < 201 by omega) (by decide)
        have hCG := pu_cl (show G < 201 by omega) (by decide)
        rw [show f = (f - 30) + 30 by omega, rp_38_h1, List.length_cons, if_neg (nI_nle (by omega) (by omega)), nI_m]
        simp (decide := true) only [hT1, hC1, if_true, hs.1, hTy, hCy, mm_w_off, mm_w_at, hD.2.2.1, hTG, hCG, nI_1]
        rw [← e1, show c + (n + 1) = c + 1 + n by omega]
        exact q4 _ p3
theorem r_kill {U G : Nat} {N : Nat → Nat → Nat} {ht O : Nat → Nat} (hW : tW U N ht) {τ : mm_S} {x : Nat} (h1 : 1 ≤ x) (h2 : x ≤ U) (ha : ∀ z, z ∈ tL N x → ¬ τ.1 23 z = 0) (hD : rD τ U G) (hO : tO τ U N O) (c d : Nat) : ∃ τ', r31 (kR τ (tL N x)) τ' ∧ rD (kR τ (tL N x)) U (G + (tL N x).length) ∧ rG (d + 1) 38 [.ref 0, .int (nI x), .int (nI c)] τ = some (nI (c + (tL N x).length), 0, τ') := by
  have ef : fl N [x] = tL N x := by
    unfold fl
    simp
  have w := r31_w τ 0 (nI x)
  have l := (tL_len hW x h1 h2).2
  have h9 := (hW x h1 h2).1
  obtain ⟨τ3, p1, p2, p3⟩ := r_killL (d := d) (x1 := nI x) (x2 := nI c) hW (tL N x).length [x] (mm_w τ.1 31 0 (nI x), τ.2) c (99999991 + 0) G (by rw [ef]) (fun y hy => by
    rw [List.mem_singleton] at hy; subst hy; exact ⟨h1, h2⟩) (by rw [ef]; exact tL_nodup hW x h1 h2) (by rw [ef]; exact ha) (rD_31 w hD) (tO_31 w hO) ⟨(show mm_w τ.1 31 0 (nI x) 31 0 = nI x from mm_w_at), trivial⟩ (by omega) (by omega)
  rw [ef] at p1 p2
  refine ⟨τ3, r31_trans (kR_31 _ w) p1, rD_31 (r31_symm (kR_31 _ w)) p2, ?_⟩
  rw [rp_38_g, if_pos (show mm_in (0 : Int32) 16 by decide)]
  exact p3
