/-! the reference makes: its queue of entries -/
def qS (σ0 τ : mm_S) (Q : List mE) : Prop := τ.1 0 37 = nI Q.length ∧ ∀ i e, Q[i]? = some e → τ.1 26 i = nI e.1 ∧ τ.1 27 i = nI e.2.1 ∧ τ.1 28 i = nI e.2.2.1 ∧ τ.1 29 i = e.2.2.2 ∧ τ.1 30 i = (if σ0.1 17 e.1 = -1 then 0 else 1)
def q5 (τ τ' : mm_S) : Prop := (∀ k, k ≠ 0 → (k < 26 ∨ 30 < k) → τ'.1 k = τ.1 k) ∧ (∀ j, j ≠ 37 → τ'.1 0 j = τ.1 0 j)
theorem q5_refl (τ : mm_S) : q5 τ τ := ⟨fun _ _ _ => rfl, fun _ _ => rfl⟩
theorem q5_trans {a b c : mm_S} (h : q5 a b) (h' : q5 b c) : q5 a c := ⟨fun k x y => (h'.1 k x y).trans (h.1 k x y), fun j x => (h'.2 j x).trans (h.2 j x)⟩
def rPut (τ : mm_S) (n : Nat) (b f o p fl : Int32) : mm_S := (mm_w (mm_w (mm_w (mm_w (mm_w (mm_w τ.1 26 n b) 27 n f) 28 n o) 29 n p) 30 n fl) 0 37 (nI (n + 1)), τ.2)
theorem r_part {σ0 τ : mm_S} {Q : List mE} (hq : qS σ0 τ Q) (hl : Q.length < 16) (h9 : τ.1 9 = σ0.1 17) {b f o : Nat} {p : Int32} (hb : b < 16) (hho : σ0.1 17 b = -1 ∨ ∃ k, k < 16 ∧ σ0.1 17 b = nI k) (d : Nat) : ∃ τ', q5 τ τ' ∧ qS σ0 τ' (Q ++ [(b, f, o, p)]) ∧ rG (d + 1) 34 [.ref 0, .int (nI b), .int (nI f), .int (nI o), .int p] τ = some (0, 0, τ') := by
  have hT := pu_T hl (by decide)
  have hC := pu_cl hl (by decide)
  have hTb := pu_T hb (by decide)
  have hCb := pu_cl hb (by decide)
  have key : ∀ fl : Int32, fl = (if σ0.1 17 b = -1 then 0 else 1) → q5 τ (rPut τ Q.length (nI b) (nI f) (nI o) p fl) ∧ qS σ0 (rPut τ Q.length (nI b) (nI f) (nI o) p fl) (Q ++ [(b, f, o, p)]) := by
    intro fl hfl
    unfold rPut
    refine ⟨⟨fun k x y => ?_, fun j hj => ?_⟩, ?_, fun i e hi => ?_⟩
    · show mm_w _ 0 37 _ k = τ.1 k
      rw [mm_w_ne x, mm_w_ne (by omega), mm_w_ne (by omega), mm_w_ne (by omega), mm_w_ne (by omega), mm_w_ne (by omega)]
    · show mm_w _ 0 37 _ 0 j = τ.1 0 j
      rw [mm_w_at2 hj, mm_w_off (by decide), mm_w_off (by decide), mm_w_off (by decide), mm_w_off (by decide), mm_w_off (by decide)]
    · simp only [mm_w_at, List.length_append, List.length_singleton]
    · by_cases hil : i < Q.length
      · rw [List.getElem?_append_left hil] at hi
        obtain ⟨a1, a2, a3, a4, a5⟩ := hq.2 i e hi
        have hne : i ≠ Q.length := by omega
        simp (decide := true) only [mm_w_off, mm_w_at2 hne]
        exact ⟨a1, a2, a3, a4, a5⟩
      · rw [List.getElem?_append_right (by omega)] at hi
        have hi0 : i - Q.length = 0 := by
          by_cases z : i - Q.length = 0
          · exact z
          · rw [List.getElem?_eq_none (by simp; omega)] at hi
            cases hi
        rw [hi0] at hi
        have he : (b, f, o, p) = e := by simpa using hi
        have hin : i = Q.length := by omega
        subst hin
        subst he
        simp (decide := true) only [mm_w_off, mm_w_at]
        exact ⟨trivial, trivial, trivial, trivial, hfl⟩
  rcases hho with h | ⟨k, hk, h⟩
  · refine ⟨rPut τ Q.length (nI b) (nI f) (nI o) p 0, (key 0 (by rw [if_pos h])).1, (key 0 (by rw [if_pos h])).2, ?_⟩
    rw [rp_34_g]
    simp (decide := true) only [hq.1, mm_w_off, mm_w_at, hT, hC, hTb, hCb, if_true, h9, h, nI_1]
    rfl
  · have hh : ¬ σ0.1 17 b = -1 := by rw [h]; exact nI_m1 (by omega)
    refine ⟨rPut τ Q.length (nI b) (nI f) (nI o) p 1, (key 1 (by rw [if_neg hh])).1, (key 1 (by rw [if_neg hh])).2, ?_⟩
    rw [rp_34_g]
    simp (decide := true) only [hq.1, mm_w_off, mm_w_at, hT, hC, hTb, hCb, if_true, h9, h, nI_1]
    rw [if_neg (nI_pos (show k < 2 ^ 31 by omega))]
    rfl
def gS (σ0 τ : mm_S) (K : Nat → Nat) (nb : Nat) : Prop := τ.1 7 = σ0.1 15 ∧ τ.1 9 = σ0.1 17 ∧ τ.1 11 = σ0.1 19 ∧ (∀ b p, p < 3 → τ.1 14 (3 * b + p) = σ0.1 (29 + p) b) ∧ (∀ b, b < nb → pE (σ0.1 16) (σ0.1 17) b = true → τ.1 16 b = nI (min 101 (K b)))
theorem gS_c {σ0 τ τ' : mm_S} {K : Nat → Nat} {nb : Nat} (h : ∀ k, 1 ≤ k → k < 20 → τ'.1 k = τ.1 k) (hg : gS σ0 τ K nb) : gS σ0 τ' K nb := by
  unfold gS at *
  rw [h 7 (by decide) (by decide), h 9 (by decide) (by decide), h 11 (by decide) (by decide), h 14 (by decide) (by decide), h 16 (by decide) (by decide)]
  exact hg
theorem cP_len {σ : mm_S} {K : Nat → Nat} {b n : Nat} : ∀ {q r : Nat}, (cP σ K b n q).length ≤ (cP σ K b n (q + r)).length
  | q, 0 => Nat.le_refl _
  | q, r + 1 => by
    have := cP_len (σ := σ) (K := K) (b := b) (n := n) (q := q) (r := r)
    rw [show q + (r + 1) = (q + r) + 1 by omega, cP, List.length_append]
    omega
set_option maxHeartbeats 2000000 in
theorem r_settle {σ0 τ : mm_S} {nb : Nat} {K : Nat → Nat} {Q : List mE} (hJ : jE σ0 nb K) (hg : gS σ0 τ K nb) (hq : qS σ0 τ Q) {i : Nat} {e : mE} (hi : Q[i]? = some e) (he : vE σ0 nb e) (hk : K e.1 ≤ 10) (hl : Q.length + (cE σ0 K e).length ≤ 16) (hU : nM σ0 K e ≤ 200) (d : Nat) : ∃ τ', (∀ k, k ≠ 0 → (k < 20 ∨ (23 < k ∧ k < 26) ∨ 30 < k) → τ'.1 k = τ.1 k) ∧ (∀ j, j ≠ 37 → τ'.1 0 j = τ.1 0 j) ∧ qS σ0 τ' (Q ++ cE σ0 K e) ∧ τ'.1 20 = uq (τ.1 20) (nM σ0 K e) (nI e.1) ∧ τ'.1 21 = uq (τ.1 21) (nM σ0 K e) (nI e.2.2.1) ∧ τ'.1 22 = uq (τ.1 22) (nM σ0 K e) e.2.2.2 ∧ τ'.1 23 = uq (τ.1 23) (nM σ0 K e) 1 ∧ rG (d + 2) 35 [.ref 0, .int (nI i)] τ = some (nI (nM σ0 K e), 0, τ') := by
  obtain ⟨j1, j2, j3, j4, j5⟩ := hJ.2 e.1 he.1 he.2
  have hn := hJ.1
  have hil : i < Q.length := by
    by_cases z : i < Q.length
    · exact z
    · rw [List.getElem?_eq_none (by omega)] at hi; cases hi
  have hTi := pu_T (show i < 16 by omega) (by decide)
  have hCi := pu_cl (show i < 16 by omega) (by decide)
  have heb : e.1 < 16 := by have := he.1; omega
  have hTb := pu_T heb (by decide)
  have hCb := pu_cl heb (by decide)
  have hTn := pu_T (show nM σ0 K e < 201 by omega) (by decide)
  have hCn := pu_cl (show nM σ0 K e < 201 by omega) (by decide)
  have hh16 : ∀ b, b < nb → pE (σ0.1 16) (σ0.1 17) b = true → σ0.1 17 b = -1 ∨ ∃ k, k < 16 ∧ σ0.1 17 b = nI k := by
    intro b hb hE
    rcases (hJ.2 b hb hE).1 with z | ⟨k, k1, k2, -⟩
    · exact Or.inl z
    · exact Or.inr ⟨k, by omega, k2⟩
  have ecl : (cE σ0 K e).length = (cHm σ0 e).length + (cP σ0 K e.1 (nM σ0 K e) (pPt σ0 e.1)).length := by unfold cE; rw [List.length_append]
  obtain ⟨a1, a2, a3, a4, a5⟩ := hq.2 i e hi
  -- from the own number on
  have rest : ∀ (τ1 : mm_S) (c : Nat), q5 τ τ1 → qS σ0 τ1 (Q ++ cHm σ0 e) → 99999966 ≤ c → ∃ τ', (∀ k, k ≠ 0 → (k < 20 ∨ (23 < k ∧ k < 26) ∨ 30 < k) → τ'.1 k = τ.1 k) ∧ (∀ j, j ≠ 37 → τ'.1 0 j = τ.1 0 j) ∧ qS σ0 τ' (Q ++ cE σ0 K e) ∧ τ'.1 20 = uq (τ.1 20) (nM σ0 K e) (nI e.1) ∧ τ'.1 21 = uq (τ.1 21) (nM σ0 K e) (nI e.2.2.1) ∧ τ'.1 22 = uq (τ.1 22) (nM σ0 K e) e.2.2.2 ∧ τ'.1 23 = uq (τ.1 23) (nM σ0 K e) 1 ∧ mm_ex sr (rG (d + 1)) 1 rp_35_l c rp_35_r1 [.ref 0, .int (nI i), .int (nI e.1), .int (nI (nM σ0 K e)), .null, .null, .null] [] τ1 = some (nI (nM σ0 K e), 0, τ') := by
    intro τ1 c h5 hq1 hc
    have hi1 : (Q ++ cHm σ0 e)[i]? = some e := by rw [List.getElem?_append_left hil]; exact hi
    obtain ⟨b1, b2, b3, b4, b5⟩ := hq1.2 i e hi1
    -- the rows
    generalize hτ2 : ((mm_w (mm_w (mm_w (mm_w τ1.1 20 (nM σ0 K e) (nI e.1)) 21 (nM σ0 K e) (nI e.2.2.1)) 22 (nM σ0 K e) e.2.2.2) 23 (nM σ0 K e) 1, τ1.2) : mm_S) = τ2
    have t2 : ∀ k, (k < 20 ∨ 23 < k) → τ2.1 k = τ1.1 k := by
      intro k hk'
      rw [← hτ2]
      show mm_w _ 23 _ _ k = τ1.1 k
      rw [mm_w_ne (by omega), mm_w_ne (by omega), mm_w_ne (by omega), mm_w_ne (by omega)]
    have t20 : τ2.1 20 = uq (τ1.1 20) (nM σ0 K e) (nI e.1) := by
      rw [← hτ2]; simp (decide := true) only [mm_w_ne, mm_w_eq]; rfl
    have t21 : τ2.1 21 = uq (τ1.1 21) (nM σ0 K e) (nI e.2.2.1) := by
      rw [← hτ2]; simp (decide := true) only [mm_w_ne, mm_w_eq]; rfl
    have t22 : τ2.1 22 = uq (τ1.1 22) (nM σ0 K e) e.2.2.2 := by
      rw [← hτ2]; simp (decide := true) only [mm_w_ne, mm_w_eq]; rfl
    have t23 : τ2.1 23 = uq (τ1.1 23) (nM σ0 K e) 1 := by
      rw [← hτ2]; simp (decide := true) only [mm_w_ne, mm_w_eq]; rfl
    have hq2 : qS σ0 τ2 (Q ++ cHm σ0 e) := by
      unfold qS at *
      rw [t2 0 (Or.inl (by decide)), t2 26 (Or.inr (by decide)), t2 27 (Or.inr (by decide)), t2 28 (Or.inr (by decide)), t2 29 (Or.inr (by decide)), t2 30 (Or.inr (by decide))]
      exact hq1
    have hg2 : gS σ0 τ2 K nb := gS_c (fun k x y => (t2 k (Or.inl y)).trans (h5.1 k (by omega) (Or.inl (by omega)))) hg
    have loop : ∀ (r q f : Nat) (τq : mm_S), q + r = pPt σ0 e.1 → 35 * (r + 1) ≤ f → q5 τ2 τq → qS σ0 τq (Q ++ cHm σ0 e ++ cP σ0 K e.1 (nM σ0 K e) q) → ∃ τm, q5 τ2 τm ∧ qS σ0 τm (Q ++ cHm σ0 e ++ cP σ0 K e.1 (nM σ0 K e) (pPt σ0 e.1)) ∧ mm_ex sr (rG (d + 1)) 1 rp_35_l f rp_35_r2 [.ref 0, .int (nI i), .int (nI e.1), .int (nI (nM σ0 K e)), .int (nI (nM σ0 K e + 1 + nX σ0 K e.1 q)), .int (nI q), .null] [] τq = some (nI (nM σ0 K e), 0, τm) := by
      intro r
      induction r with
      | zero =>
        intro q f τq hqr hff h5q hqq
        have : q = pPt σ0 e.1 := by omega
        subst this
        have hgq : gS σ0 τq K nb := gS_c (fun k x y => h5q.1 k (by omega) (Or.inl (by omega))) hg2
        refine ⟨τq, h5q, hqq, ?_⟩
        rw [show f = (f - 35) + 35 by omega, rp_35_h2]
        simp only [hTb, hCb, if_true, hgq.2.2.1, j3]
        rw [if_pos (nI_le (Nat.le_refl _) (by omega))]
      | succ r ih =>
        intro q f τq hqr hff h5q hqq
        have hgq : gS σ0 τq K nb := gS_c (fun k x y => h5q.1 k (by omega) (Or.inl (by omega))) hg2
        obtain ⟨y, y1, y2, y3⟩ := j4 q (by omega)
        have ey := pTg_e (show y < 16 by omega) y2
        have hTy := pu_T (show y < 16 by omega) (by decide)
        have hCy := pu_cl (show y < 16 by omega) (by decide)
        have e3 : (3 : Int32) * nI e.1 + nI q = nI (3 * e.1 + q) := by rw [show (3 : Int32) = nI 3 by decide, pk_mul, nI_add]
        have hT3 := pu_T (show 3 * e.1 + q < 48 by omega) (by decide)
        have hC3 := pu_cl (show 3 * e.1 + q < 48 by omega) (by decide)
        have es : nX σ0 K e.1 (q + 1) = nX σ0 K e.1 q + (if σ0.1 15 y = 0 then K y else 0) := by unfold nX; rw [pSum, ey]
        have head : mm_ex sr (rG (d + 1)) 1 rp_35_l f rp_35_r2 [.ref 0, .int (nI i), .int (nI e.1), .int (nI (nM σ0 K e)), .int (nI (nM σ0 K e + 1 + nX σ0 K e.1 q)), .int (nI q), .null] [] τq = (if σ0.1 15 y = 0 then ((rG (d + 1) 34 [.ref 0, .int (nI y), .int (nI (nM σ0 K e + 1 + nX σ0 K e.1 q)), .int (nI (nM σ0 K e)), .int (nI q)] τq).bind fun u1 => (mm_ex sr (rG (d + 1)) 1 rp_35_l (f - 35 + 0) rp_35_r2 [.ref 0, .int (nI i), .int (nI e.1), .int (nI (nM σ0 K e)), .int (nI (nM σ0 K e + 1 + nX σ0 K e.1 q) + u1.2.2.1 16 y), .int (nI (q + 1)), .int (nI y)] [] u1.2.2)) else (mm_ex sr (rG (d + 1)) 1 rp_35_l (f - 35 + 13) rp_35_r2 [.ref 0, .int (nI i), .int (nI e.1), .int (nI (nM σ0 K e)), .int (nI (nM σ0 K e + 1 + nX σ0 K e.1 q)), .int (nI (q + 1)), .int (nI y)] [] τq)) := by
          conv => lhs; rw [show f = (f - 35) + 35 by omega, rp_35_h2]
          simp only [hTb, hCb, if_true, hgq.2.2.1, j3, e3, hT3, hC3, hgq.2.2.2.1 e.1 q (by omega), y2, hTy, hCy, hgq.1, nI_1]
          rw [if_neg (nI_ge (show q < pPt σ0 e.1 by omega) (by omega))]
        by_cases z : σ0.1 15 y = 0
        · have hcm : ((y, nM σ0 K e + 1 + nX σ0 K e.1 q, nM σ0 K e, nI q) : mE) ∈ cE σ0 K e := by
            unfold cE
            refine List.mem_append_right _ (cP_mem.2 ⟨q, by omega, by rw [ey]; exact z, by rw [ey]⟩)
          obtain ⟨v1, v2, v3, v4, v5⟩ := cE_ok hJ he hcm
          simp only at v2 v5
          have ecp : cP σ0 K e.1 (nM σ0 K e) (q + 1) = cP σ0 K e.1 (nM σ0 K e) q ++ [(y, nM σ0 K e + 1 + nX σ0 K e.1 q, nM σ0 K e, nI q)] := by rw [cP, ey, if_pos z]
          have hlen : (Q ++ cHm σ0 e ++ cP σ0 K e.1 (nM σ0 K e) q).length < 16 := by
            have := cP_len (σ := σ0) (K := K) (b := e.1) (n := nM σ0 K e) (q := q + 1) (r := pPt σ0 e.1 - (q + 1))
            rw [show q + 1 + (pPt σ0 e.1 - (q + 1)) = pPt σ0 e.1 by omega, ecp, List.length_append, List.length_singleton] at this
            rw [List.length_append, List.length_append]
            omega
          obtain ⟨τp, p1, p2, p3⟩ := r_part (b := y) (f := nM σ0 K e + 1 + nX σ0 K e.1 q) (o := nM σ0 K e) (p := nI q) hqq hlen hgq.2.1 (by omega) (hh16 y y1 y3) d
          rw [List.append_assoc _ _ [_], ← ecp] at p2
          obtain ⟨τm, w1, w2, w3⟩ := ih (q + 1) (f - 35 + 0) τp (by omega) (by omega) (q5_trans h5q p1) p2
          refine ⟨τm, w1, w2, ?_⟩
          rw [head, if_pos z, p3]
          simp only [pu_bnd]
          have e16 : τp.1 16 y = nI (K y) := by
            rw [p1.1 16 (by decide) (by decide), hgq.2.2.2.2 y y1 y3, show min 101 (K y) = K y by omega]
          rw [if_pos z] at es
          rw [e16, nI_add]
          rw [es] at w3
          refine mm_ref _ _ [.ref 0, .int (nI i), .int (nI e.1), .int (nI (nM σ0 K e)), .int (nI (nM σ0 K e + 1 + (nX σ0 K e.1 q + K y))), .int (nI (q + 1)), .null] _ _ _ (by simp [mm_rf, show nM σ0 K e + 1 + nX σ0 K e.1 q + K y = nM σ0 K e + 1 + (nX σ0 K e.1 q + K y) by omega]) w3
        · have ecp : cP σ0 K e.1 (nM σ0 K e) (q + 1) = cP σ0 K e.1 (nM σ0 K e) q := by rw [cP, ey, if_neg z, List.append_nil]
          rw [if_neg z] at es
          have es2 : nX σ0 K e.1 (q + 1) = nX σ0 K e.1 q := by omega
          rw [← ecp] at hqq
          obtain ⟨τm, w1, w2, w3⟩ := ih (q + 1) (f - 35 + 13) τq (by omega) (by omega) h5q hqq
          refine ⟨τm, w1, w2, ?_⟩
          rw [head, if_neg z]
          rw [es2] at w3
          exact mm_ref _ _ [.ref 0, .int (nI i), .int (nI e.1), .int (nI (nM σ0 K e)), .int (nI (nM σ0 K e + 1 + nX σ0 K e.1 q)), .int (nI (q + 1)), .null] _ _ _ (by simp [mm_rf]) w3
    obtain ⟨τm, w1, w2, w3⟩ := loop (pPt σ0 e.1) 0 (c - 32 + 0) τ2 (by omega) (by omega) (q5_refl τ2) (by rw [cP, List.append_nil]; exact hq2)
    refine ⟨τm, fun k x y => ?_, fun j hj => ?_, ?_, ?_, ?_, ?_, ?_, ?_⟩
    · rw [w1.1 k x (by omega), t2 k (by omega), h5.1 k x (by omega)]
    · rw [w1.2 j hj, t2 0 (Or.inl (by decide)), h5.2 j hj]
    · unfold cE
      rw [← List.append_assoc]
      exact w2
    · rw [w1.1 20 (by decide) (by decide), t20, h5.1 20 (by decide) (by decide)]
    · rw [w1.1 21 (by decide) (by decide), t21, h5.1 21 (by decide) (by decide)]
    · rw [w1.1 22 (by decide) (by decide), t22, h5.1 22 (by decide) (by decide)]
    · rw [w1.1 23 (by decide) (by decide), t23, h5.1 23 (by decide) (by decide)]
    · rw [show c = (c - 32) + 32 by omega, rp_35_h1]
      simp (decide := true) only [hTn, hCn, hTi, hCi, if_true, mm_w_off, b3, b4, nI_1]
      rw [hτ2]
      have : nX σ0 K e.1 0 = 0 := rfl
      rw [this, Nat.add_zero (nM σ0 K e + 1)] at w3
      exact w3
  by_cases h17 : σ0.1 17 e.1 = -1
  · have ec : cHm σ0 e = [] := by unfold cHm; rw [if_pos h17]
    have en : nM σ0 K e = e.2.1 := by unfold nM pHK; rw [if_pos h17]; rfl
    obtain ⟨τ', r1, r2, r3, r4, r5, r6, r7, r8⟩ := rest τ (99999966 + 19) (q5_refl τ) (by rw [ec, List.append_nil]; exact hq) (by omega)
    refine ⟨τ', r1, r2, r3, r4, r5, r6, r7, ?_⟩
    rw [show d + 2 = (d + 1) + 1 from rfl, rp_35_g]
    rw [if_pos h17] at a5
    simp only [hTi, hCi, if_true, a5, a1, a2]
    rw [en] at r8
    rw [en]
    exact r8
  · obtain ⟨k, k1, k2, k3, k4, k5⟩ := j1.resolve_left h17
    have ek : (σ0.1 17 e.1).toNatClampNeg = k := by rw [k2, nI_clamp (by omega)]
    have ec : cHm σ0 e = [(k, e.2.1, 0, -1)] := by unfold cHm; rw [if_neg h17, ek]
    have en : nM σ0 K e = e.2.1 + K k := by unfold nM pHK; rw [if_neg h17, ek]
    have hTk := pu_T (show k < 16 by omega) (by decide)
    have hCk := pu_cl (show k < 16 by omega) (by decide)
    obtain ⟨τ1, p1, p2, p3⟩ := r_part (b := k) (f := e.2.1) (o := 0) (p := -1) hq (by rw [ec, List.length_singleton] at ecl; omega) hg.2.1 (by omega) (hh16 k k1 k3) d
    rw [← ec] at p2
    obtain ⟨τ', r1, r2, r3, r4, r5, r6, r7, r8⟩ := rest τ1 (99999966 + 0) p1 p2 (by omega)
    refine ⟨τ', r1, r2, r3, r4, r5, r6, r7, ?_⟩
    rw [show d + 2 = (d + 1) + 1 from rfl, rp_35_g]
    rw [if_neg h17] at a5
    have kk : K k < K e.1 := by
      have : pHK σ0 K e.1 = K k := by unfold pHK; rw [if_neg h17, ek]
      omega
    simp only [hTi, hCi, if_true, a5, a1, a2, hTb, hCb, hg.2.1, k2, pu_10, if_false]
    rw [nI_0] at p3
    rw [p3]
    simp only [pu_bnd, p1.1 9 (by decide) (by decide), p1.1 16 (by decide) (by decide), hg.2.1, k2, hTk, hCk, if_true, hg.2.2.2.2 k k1 k3]
    rw [show min 101 (K k) = K k by omega, nI_add, ← en]
    exact r8
