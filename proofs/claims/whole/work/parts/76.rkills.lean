/-! the reference lets the homes die, the soonest ended first -/
theorem sn_tr {K : Nat → Nat} {a b c : mE} (h1 : sn K a b) (h2 : sn K b c) : sn K a c := by
  unfold sn at *
  omega
theorem sn_as {K : Nat → Nat} {a b : mE} (h1 : sn K a b) (h2 : sn K b a) : False := by
  unfold sn at *
  omega
theorem pw_tot {α : Type} {R : α → α → Prop} : ∀ {l : List α}, l.Pairwise R → ∀ a, a ∈ l → ∀ b, b ∈ l → a = b ∨ R a b ∨ R b a
  | [], _, a, ha => absurd ha (List.not_mem_nil)
  | x :: l, h, a, ha => by
    intro b hb
    rw [List.pairwise_cons] at h
    rcases List.mem_cons.1 ha with e1 | ha'
    · rcases List.mem_cons.1 hb with e2 | hb'
      · exact Or.inl (e1.trans e2.symm)
      · rw [e1]; exact Or.inr (Or.inl (h.1 b hb'))
    · rcases List.mem_cons.1 hb with e2 | hb'
      · rw [e2]; exact Or.inr (Or.inr (h.1 a ha'))
      · exact pw_tot h.2 a ha' b hb'
def kq (σ0 : mm_S) (K : Nat → Nat) (nb : Nat) (τ : mm_S) (Q R : List mE) : Prop := τ.1 0 37 = nI Q.length ∧ (∀ i c, Q[i]? = some c → τ.1 26 i = nI c.1 ∧ τ.1 27 i = nI c.2.1 ∧ (¬ τ.1 30 i = 0 ↔ c ∈ R)) ∧ (∀ b, b < nb → pE (σ0.1 16) (σ0.1 17) b = true → τ.1 16 b = nI (min 101 (K b)))
theorem r_sooner {σ0 τ : mm_S} {nb : Nat} {K : Nat → Nat} {Q R : List mE} (hn : nb ≤ 16) (hq : kq σ0 K nb τ Q R) (hl : Q.length ≤ 16) (hv : ∀ c, c ∈ Q → vE σ0 nb c ∧ K c.1 ≤ 10 ∧ c.2.1 ≤ 201) {i j : Nat} {a c : mE} (hi : Q[i]? = some a) (hj : Q[j]? = some c) (d : Nat) : (sn K a c → rG (d + 1) 37 [.ref 0, .int (nI i), .int (nI j)] τ = some (1, 0, τ)) ∧ (¬ sn K a c → rG (d + 1) 37 [.ref 0, .int (nI i), .int (nI j)] τ = some (0, 0, τ)) := by
  obtain ⟨i1, i2, -⟩ := hq.2.1 i a hi
  obtain ⟨j1, j2, -⟩ := hq.2.1 j c hj
  obtain ⟨va, ka, fa⟩ := hv a (List.mem_of_getElem? hi)
  obtain ⟨vc, kc, fc⟩ := hv c (List.mem_of_getElem? hj)
  have hil : i < Q.length := by
    by_cases z : i < Q.length
    · exact z
    · rw [List.getElem?_eq_none (by omega)] at hi; cases hi
  have hjl : j < Q.length := by
    by_cases z : j < Q.length
    · exact z
    · rw [List.getElem?_eq_none (by omega)] at hj; cases hj
  have hTi := pu_T (show i < 16 by omega) (by decide)
  have hCi := pu_cl (show i < 16 by omega) (by decide)
  have hTj := pu_T (show j < 16 by omega) (by decide)
  have hCj := pu_cl (show j < 16 by omega) (by decide)
  have ha16 : a.1 < 16 := by have := va.1; omega
  have hc16 : c.1 < 16 := by have := vc.1; omega
  have e16a := hq.2.2 a.1 va.1 va.2
  have e16c := hq.2.2 c.1 vc.1 vc.2
  rw [show min 101 (K a.1) = K a.1 by omega] at e16a
  rw [show min 101 (K c.1) = K c.1 by omega] at e16c
  have base : rG (d + 1) 37 [.ref 0, .int (nI i), .int (nI j)] τ = (if a.2.1 + K a.1 < c.2.1 + K c.1 then some (1, 0, τ) else (if a.2.1 + K a.1 = c.2.1 + K c.1 then (if a.2.1 ≤ c.2.1 then some (0, 0, τ) else some (1, 0, τ)) else some (0, 0, τ))) := by
    rw [rp_37_g]
    simp only [hTi, hCi, hTj, hCj, if_true, i1, i2, j1, j2, pu_T ha16 (by decide), pu_cl ha16 (by decide), pu_T hc16 (by decide), pu_cl hc16 (by decide), e16a, e16c, nI_add, nI_ltI (show a.2.1 + K a.1 < 2 ^ 31 by omega) (show c.2.1 + K c.1 < 2 ^ 31 by omega), nI_eq (show a.2.1 + K a.1 < 2 ^ 31 by omega) (show c.2.1 + K c.1 < 2 ^ 31 by omega), nI_leI (show a.2.1 < 2 ^ 31 by omega) (show c.2.1 < 2 ^ 31 by omega)]
  rw [base]
  unfold sn
  refine ⟨fun h => ?_, fun h => ?_⟩
  · rcases h with h | ⟨h, h'⟩
    · rw [if_pos h]
    · rw [if_neg (by omega), if_pos h, if_neg (by omega)]
  · rw [if_neg (by omega)]
    by_cases z : a.2.1 + K a.1 = c.2.1 + K c.1
    · rw [if_pos z, if_pos (by omega)]
    · rw [if_neg z]
def Bst (K : Nat → Nat) (Q R : List mE) (j : Nat) (x : Int32) : Prop := (x = -1 ∧ ∀ i, i < j → ∀ c, Q[i]? = some c → c ∉ R) ∨ ∃ i0 c0, i0 < j ∧ Q[i0]? = some c0 ∧ c0 ∈ R ∧ x = nI i0 ∧ ∀ i, i < j → ∀ c, Q[i]? = some c → c ∈ R → c = c0 ∨ sn K c0 c
theorem r_best {σ0 τ : mm_S} {nb : Nat} {K : Nat → Nat} {Q R : List mE} (hn : nb ≤ 16) (hq : kq σ0 K nb τ Q R) (hl : Q.length ≤ 16) (hv : ∀ c, c ∈ Q → vE σ0 nb c ∧ K c.1 ≤ 10 ∧ c.2.1 ≤ 201) (hs : R.Pairwise (sn K)) {x1 x2 x3 : Int32} (d : Nat) : ∀ (r j f : Nat) (x : Int32), j + r = Q.length → 21 * (r + 1) ≤ f → Bst K Q R j x → ∃ x' g, Bst K Q R Q.length x' ∧ f ≤ g + 21 * r ∧ ∀ res, mm_ex sr (rG (d + 1)) 1 rp_36_l g rp_36_r6 [.ref 0, .int x1, .int x2, .int x3, .int x', .int (nI Q.length)] [] τ = some res → mm_ex sr (rG (d + 1)) 1 rp_36_l f rp_36_r6 [.ref 0, .int x1, .int x2, .int x3, .int x, .int (nI j)] [] τ = some res := by
  intro r
  induction r with
  | zero =>
    intro j f x hj hf hb
    have e : j = Q.length := by omega
    subst e
    exact ⟨x, f, hb, by omega, fun res h => h⟩
  | succ r ih =>
    intro j f x hj hf hb
    have hjl : j < Q.length := by omega
    obtain ⟨a, ha⟩ : ∃ a, Q[j]? = some a := ⟨Q[j], List.getElem?_eq_getElem hjl⟩
    obtain ⟨j1, j2, j3⟩ := hq.2.1 j a ha
    have hT := pu_T (show j < 16 by omega) (by decide)
    have hC := pu_cl (show j < 16 by omega) (by decide)
    have uni : ∀ c, Q[j]? = some c → c = a := fun c hc => Option.some.inj (hc.symm.trans ha)
    by_cases h0 : τ.1 30 j = 0
    · have hna : a ∉ R := fun q => (j3.2 q) h0
      have hb1 : Bst K Q R (j + 1) x := by
        rcases hb with ⟨b1, b2⟩ | ⟨i0, c0, b1, b2, b3, b4, b5⟩
        · refine Or.inl ⟨b1, fun i hi c hc => ?_⟩
          by_cases e : i = j
          · subst e; rw [uni c hc]; exact hna
          · exact b2 i (by omega) c hc
        · refine Or.inr ⟨i0, c0, by omega, b2, b3, b4, fun i hi c hc hR => ?_⟩
          by_cases e : i = j
          · subst e; rw [uni c hc] at hR; exact absurd hR hna
          · exact b5 i (by omega) c hc hR
      obtain ⟨x', g, p1, p2, p3⟩ := ih (j + 1) (f - 21 + 10) x (by omega) (by omega) hb1
      refine ⟨x', g, p1, by omega, fun res h => ?_⟩
      rw [show f = (f - 21) + 21 by omega, rp_36_h6, hq.1, if_neg (nI_ge hjl (by omega))]
      simp only [hT, hC, if_true, h0, nI_1]
      exact p3 res h
    · have haR : a ∈ R := j3.1 h0
      rcases hb with ⟨b1, b2⟩ | ⟨i0, c0, b1, b2, b3, b4, b5⟩
      · have hb1 : Bst K Q R (j + 1) (nI j) := by
          refine Or.inr ⟨j, a, by omega, ha, haR, rfl, fun i hi c hc hR => ?_⟩
          by_cases e : i = j
          · subst e; exact Or.inl (uni c hc)
          · exact absurd hR (b2 i (by omega) c hc)
        obtain ⟨x', g, p1, p2, p3⟩ := ih (j + 1) (f - 21 + 6) _ (by omega) (by omega) hb1
        refine ⟨x', g, p1, by omega, fun res h => ?_⟩
        rw [show f = (f - 21) + 21 by omega, rp_36_h6, hq.1, if_neg (nI_ge hjl (by omega))]
        simp only [hT, hC, if_true, h0, if_false, b1, nI_1]
        rw [if_pos (by decide)]
        exact p3 res h
      · have hnn : ¬ nI i0 < 0 := nI_pos (by omega)
        obtain ⟨so1, so2⟩ := r_sooner hn hq hl hv ha b2 d
        by_cases hsn : sn K a c0
        · have hb1 : Bst K Q R (j + 1) (nI j) := by
            refine Or.inr ⟨j, a, by omega, ha, haR, rfl, fun i hi c hc hR => ?_⟩
            by_cases e : i = j
            · subst e; exact Or.inl (uni c hc)
            · rcases b5 i (by omega) c hc hR with q | q
              · rw [q]; exact Or.inr hsn
              · exact Or.inr (sn_tr hsn q)
          obtain ⟨x', g, p1, p2, p3⟩ := ih (j + 1) (f - 21 + 1) _ (by omega) (by omega) hb1
          refine ⟨x', g, p1, by omega, fun res h => ?_⟩
          rw [show f = (f - 21) + 21 by omega, rp_36_h6, hq.1, if_neg (nI_ge hjl (by omega))]
          simp only [hT, hC, if_true, h0, if_false, b4, nI_1]
          rw [if_neg hnn, so1 hsn]
          simp only [pu_bnd, pu_10, if_false]
          exact p3 res h
        · have hb1 : Bst K Q R (j + 1) x := by
            refine Or.inr ⟨i0, c0, by omega, b2, b3, b4, fun i hi c hc hR => ?_⟩
            by_cases e : i = j
            · subst e
              rw [uni c hc]
              rcases pw_tot hs a haR c0 b3 with q | q | q
              · exact Or.inl q
              · exact absurd q hsn
              · exact Or.inr q
            · exact b5 i (by omega) c hc hR
          obtain ⟨x', g, p1, p2, p3⟩ := ih (j + 1) (f - 21 + 3) x (by omega) (by omega) hb1
          refine ⟨x', g, p1, by omega, fun res h => ?_⟩
          rw [show f = (f - 21) + 21 by omega, rp_36_h6, hq.1, if_neg (nI_ge hjl (by omega))]
          simp only [hT, hC, if_true, h0, if_false, b4, nI_1]
          rw [if_neg hnn, so2 hsn]
          simp only [pu_bnd, if_true]
          rw [← b4]
          exact p3 res h
/-! the same but for the scratch rows 30, 31 -/
def r3x (a b : mm_S) : Prop := ∀ k, k ≠ 30 → k ≠ 31 → b.1 k = a.1 k
theorem r3x_trans {a b c : mm_S} (h : r3x a b) (h' : r3x b c) : r3x a c := fun k x y => (h' k x y).trans (h k x y)
theorem mm_w_c2 {f f' : Nat → Nat → Int32} (h : ∀ k, k ≠ 30 → k ≠ 31 → f' k = f k) {j i : Nat} {v v' : Int32} (hv : v' = v) : ∀ k, k ≠ 30 → k ≠ 31 → mm_w f' j i v' k = mm_w f j i v k := by
  intro k hk hk'
  subst hv
  by_cases e : k = j
  · subst e; rw [mm_w_eq, mm_w_eq, h _ hk hk']
  · rw [mm_w_ne e, mm_w_ne e, h k hk hk']
theorem kR1_3x {τ τ' : mm_S} (h : r3x τ τ') (x : Nat) : r3x (kR1 τ x) (kR1 τ' x) := by
  unfold r3x kR1
  simp only
  rw [h 0 (by decide) (by decide)]
  exact mm_w_c2 (mm_w_c2 (mm_w_c2 h rfl) rfl) rfl
theorem kR_3x : ∀ (L : List Nat) {τ τ' : mm_S}, r3x τ τ' → r3x (kR τ L) (kR τ' L)
  | [], _, _, h => h
  | x :: L, _, _, h => kR_3x L (kR1_3x h x)
theorem kR_23n : ∀ (L : List Nat) (τ : mm_S) (z : Nat), z ∉ L → (kR τ L).1 23 z = τ.1 23 z
  | [], _, _, _ => rfl
  | x :: L, τ, z, h => by
    rw [List.mem_cons, not_or] at h
    rw [kR, kR_23n L _ z h.2, kR1_23, uq_ne h.1]
set_option maxHeartbeats 1000000 in
theorem r_homes {σ0 : mm_S} {nb U : Nat} {K : Nat → Nat} {N : Nat → Nat → Nat} {ht O : Nat → Nat} {Q : List mE} (hn : nb ≤ 16) (hW : tW U N ht) (hl : Q.length ≤ 16) (hv : ∀ c, c ∈ Q → vE σ0 nb c ∧ K c.1 ≤ 10 ∧ c.2.1 ≤ 201) (hnd : Q.Nodup) {x1 x2 : Int32} (d : Nat) : ∀ (r t f : Nat) (R : List mE) (τ : mm_S) (G : Nat), t + r = Q.length → 500 * (r + 1) ≤ f → R.length ≤ r → (∀ c, c ∈ R → c ∈ Q ∧ 1 ≤ c.2.1 ∧ c.2.1 ≤ U) → R.Pairwise (sn K) → kq σ0 K nb τ Q R → rD τ U G → tO τ U N O → (R.flatMap (fun a => tL N a.2.1)).Nodup → (∀ z, z ∈ R.flatMap (fun a => tL N a.2.1) → ¬ τ.1 23 z = 0) → ∃ τ', r3x (kR τ (R.flatMap (fun a => tL N a.2.1))) τ' ∧ rD (kR τ (R.flatMap (fun a => tL N a.2.1))) U (G + (R.flatMap (fun a => tL N a.2.1)).length) ∧ mm_ex sr (rG (d + 1)) 1 rp_36_l f rp_36_r5 [.ref 0, .int x1, .int x2, .int (nI t), .null, .null] [] τ = some (x2, 0, τ') := by
  intro r
  induction r with
  | zero =>
    intro t f R τ G ht0 hf hRl hRQ hs hq hD hO hnd2 hal
    have e : t = Q.length := by omega
    have eR : R = [] := List.eq_nil_of_length_eq_zero (by omega)
    subst eR
    refine ⟨τ, fun _ _ _ => rfl, hD, ?_⟩
    rw [show f = (f - 8) + 8 by omega, rp_36_h5, hq.1, if_pos (nI_le (by omega) (by omega))]
  | succ r ih =>
    intro t f R τ G ht0 hf hRl hRQ hs hq hD hO hnd2 hal
    have hb0 : Bst K Q R 0 (-1) := Or.inl ⟨rfl, fun i hi => absurd hi (Nat.not_lt_zero _)⟩
    obtain ⟨x', g, p1, p2, p3⟩ := r_best hn hq hl hv hs (x1 := x1) (x2 := x2) (x3 := nI t) d Q.length 0 (f - 8 + 0) (-1) (by omega) (by omega) hb0
    have enter : ∀ res, mm_ex sr (rG (d + 1)) 1 rp_36_l g rp_36_r6 [.ref 0, .int x1, .int x2, .int (nI t), .int x', .int (nI Q.length)] [] τ = some res → mm_ex sr (rG (d + 1)) 1 rp_36_l f rp_36_r5 [.ref 0, .int x1, .int x2, .int (nI t), .null, .null] [] τ = some res := by
      intro res h
      rw [show f = (f - 8) + 8 by omega, rp_36_h5, hq.1, if_neg (nI_ge (show t < Q.length by omega) (by omega))]
      exact p3 res h
    rcases p1 with ⟨b1, b2⟩ | ⟨i0, c0, b1, b2, b3, b4, b5⟩
    · have eR : R = [] := by
        cases R with
        | nil => rfl
        | cons c R =>
          obtain ⟨hcQ, -⟩ := hRQ c (List.mem_cons_self)
          obtain ⟨i, hi, e⟩ := List.getElem_of_mem hcQ
          exact absurd (List.mem_cons_self) (b2 i hi c (by rw [List.getElem?_eq_getElem hi, e]))
      subst eR
      obtain ⟨τ', q1, q2, q3⟩ := ih (t + 1) (g - 21 + 13) [] τ G (by omega) (by omega) (by simp) (fun c hc => absurd hc (List.not_mem_nil)) List.Pairwise.nil hq hD hO hnd2 hal
      refine ⟨τ', q1, q2, enter _ ?_⟩
      rw [show g = (g - 21) + 21 by omega, rp_36_h6, hq.1, if_pos (nI_le (Nat.le_refl _) (by omega)), b1, if_pos (by decide), nI_1]
      exact mm_ref _ _ [.ref 0, .int x1, .int x2, .int (nI (t + 1)), .null, .null] _ _ _ (by simp [mm_rf]) q3
    · -- the best is the head of R
      obtain ⟨R', eR⟩ : ∃ R', R = c0 :: R' := by
        cases R with
        | nil => exact absurd b3 (List.not_mem_nil)
        | cons c R =>
          have hcQ := (hRQ c (List.mem_cons_self)).1
          obtain ⟨i, hi, e⟩ := List.getElem_of_mem hcQ
          have := b5 i hi c (by rw [List.getElem?_eq_getElem hi, e]) (List.mem_cons_self)
          rcases this with q | q
          · exact ⟨R, by rw [q]⟩
          · rcases List.mem_cons.1 b3 with q2 | q2
            · exact ⟨R, by rw [q2]⟩
            · rw [List.pairwise_cons] at hs
              exact absurd (hs.1 c0 q2) (fun w => sn_as w q)
      subst eR
      obtain ⟨c0Q, f1, f2⟩ := hRQ c0 (List.mem_cons_self)
      rw [List.flatMap_cons] at hnd2 hal ⊢
      have hi16 : i0 < 16 := by omega
      have hT := pu_T hi16 (by decide)
      have hC := pu_cl hi16 (by decide)
      obtain ⟨j1, j2, j3⟩ := hq.2.1 i0 c0 b2
      -- the flag falls
      have w30 : r3x τ (mm_w τ.1 30 i0 0, τ.2) := fun k x y => mm_w_ne x
      have hD0 : rD (mm_w τ.1 30 i0 0, τ.2) U G := hD
      have hO0 : tO (mm_w τ.1 30 i0 0, τ.2) U N O := hO
      obtain ⟨τ1, k1, k2, k3⟩ := r_kill hW f1 f2 (τ := (mm_w τ.1 30 i0 0, τ.2)) (fun z hz => hal z (List.mem_append_left _ hz)) hD0 hO0 0 d
      rw [Nat.zero_add] at k3
      have kx : r3x (kR τ (tL N c0.2.1)) τ1 := r3x_trans (kR_3x _ w30) (fun k _ y => k1.1 k y)
      have hkD : rD (kR τ (tL N c0.2.1)) U (G + (tL N c0.2.1).length) := by
        unfold rD at k2 ⊢
        have e0 := kR_3x (tL N c0.2.1) w30
        rw [e0 0 (by decide) (by decide), e0 23 (by decide) (by decide)] at k2
        exact k2
      have hD1 : rD τ1 U (G + (tL N c0.2.1).length) := by
        unfold rD at hkD ⊢
        rw [kx 0 (by decide) (by decide), kx 23 (by decide) (by decide)]
        exact hkD
      have hO1 : tO τ1 U N O := by
        unfold tO at hO ⊢
        rw [kx 21 (by decide) (by decide), kR_o (by decide) (by decide) (by decide)]
        exact hO
      have t30 : τ1.1 30 = mm_w τ.1 30 i0 0 30 := by
        rw [k1.1 30 (by decide), kR_o (by decide) (by decide) (by decide)]
      rw [List.nodup_append] at hnd2
      have hc0R : c0 ∉ R' := by
        intro q
        rw [List.pairwise_cons] at hs
        exact sn_as (hs.1 c0 q) (hs.1 c0 q)
      have hq1 : kq σ0 K nb τ1 Q R' := by
        refine ⟨?_, fun i c hc => ?_, ?_⟩
        · rw [kx 0 (by decide) (by decide), kR_0 (by decide)]; exact hq.1
        · obtain ⟨a1, a2, a3⟩ := hq.2.1 i c hc
          rw [kx 26 (by decide) (by decide), kx 27 (by decide) (by decide), kR_o (by decide) (by decide) (by decide), kR_o (by decide) (by decide) (by decide), t30]
          refine ⟨a1, a2, ?_⟩
          by_cases e : i = i0
          · subst e
            have : c = c0 := Option.some.inj (hc.symm.trans b2)
            subst this
            rw [mm_w_at]
            exact ⟨fun q => absurd rfl q, fun q => absurd q hc0R⟩
          · have hcc : c ≠ c0 := by
              intro q
              subst q
              apply e
              have h1 : i < Q.length := by
                by_cases z : i < Q.length
                · exact z
                · rw [List.getElem?_eq_none (by omega)] at hc; cases hc
              exact (List.getElem?_inj h1 hnd).1 (hc.trans b2.symm)
            rw [mm_w_at2 e, a3, List.mem_cons]
            exact ⟨fun q => q.resolve_left hcc, Or.inr⟩
        · rw [kx 16 (by decide) (by decide), kR_o (by decide) (by decide) (by decide)]; exact hq.2.2
      obtain ⟨τ', q1, q2, q3⟩ := ih (t + 1) (g - 21 + 0) R' τ1 _ (by omega) (by omega) (by rw [List.length_cons] at hRl; omega) (fun c hc => hRQ c (List.mem_cons_of_mem _ hc)) (List.Pairwise.of_cons hs) hq1 hD1 hO1 hnd2.2.1 (fun z hz => by
        rw [kx 23 (by decide) (by decide), kR_23n _ _ _ (fun w => hnd2.2.2 z w z hz rfl)]
        exact hal z (List.mem_append_right _ hz))
      refine ⟨τ', ?_, ?_, enter _ ?_⟩
      · rw [kR_app]
        exact r3x_trans (kR_3x _ kx) q1
      · rw [kR_app, List.length_append, ← Nat.add_assoc]
        have e0 := kR_3x (R'.flatMap (fun a => tL N a.2.1)) kx
        unfold rD at q2 ⊢
        rw [e0 0 (by decide) (by decide), e0 23 (by decide) (by decide)] at q2
        exact q2
      · have e27 : mm_w τ.1 30 i0 0 27 i0 = nI c0.2.1 := by rw [mm_w_off (by decide)]; exact j2
        rw [show g = (g - 21) + 21 by omega, rp_36_h6, hq.1, if_pos (nI_le (Nat.le_refl _) (by omega)), b4, if_neg (nI_pos (by omega))]
        simp only [hT, hC, if_true, e27]
        rw [nI_0] at k3
        rw [k3]
        simp only [pu_bnd, nI_1]
        exact mm_ref _ _ [.ref 0, .int x1, .int x2, .int (nI (t + 1)), .null, .null] _ _ _ (by simp [mm_rf]) q3
