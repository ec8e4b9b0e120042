theorem mk2_L {σ0 σ σ' : mm_S} {K : Nat → Nat} {w : Nat → Prop} {U len G : Nat} {L L' : List mE} {kl : List Nat} (h : mk2 σ0 K w σ σ' U len G L kl) (hL : ∀ c, c ∈ L' → c ∈ L) : mk2 σ0 K w σ σ' U len G L' kl := ⟨h.1, h.2.1, h.2.2.1, fun c hc => h.2.2.2.1 c (hL c hc), h.2.2.2.2⟩
theorem cP_end {σ : mm_S} {K : Nat → Nat} {b n q : Nat} {c : mE} (h : c ∈ cP σ K b n q) : n + 1 ≤ c.2.1 ∧ c.2.1 + K c.1 ≤ n + 1 + nX σ K b q := by
  obtain ⟨p, p1, p2, rfl⟩ := cP_mem.1 h
  have es : nX σ K b (p + 1) = nX σ K b p + K (pTg σ b p) := by unfold nX; rw [pSum, if_pos p2]
  have hle := nX_le (σ := σ) (K := K) (b := b) (q := p + 1) (r := q - (p + 1))
  rw [show p + 1 + (q - (p + 1)) = q by omega] at hle
  simp only
  omega
/-- the last step of a making: the home dies with what it owns -/
theorem mk2_home {σ0 σ σm : mm_S} {nb : Nat} {K : Nat → Nat} (hJ : jE σ0 nb K) {e h : mE} (he : vE σ0 nb e) (hk : K e.1 ≤ 10) (hh : cHm σ0 e = [h]) {U G : Nat} (hf : e.2.1 = U + 1) (hU : U + K e.1 ≤ 200) (hz : ∀ x q, U < x → q < 3 → σ.1 (38 + q) x = 0) (hm : mk2 σ0 K (fun _ => False) σ σm U (K e.1) G (eN σ0 K e) ((cE σ0 K e).flatMap (kE σ0 K))) (d : Nat) : ∃ σ', mk2 σ0 K (fun _ => False) σ σ' U (K e.1) G (eN σ0 K e) (kE σ0 K e) ∧ cG (d + 12) 59 [.ref 4, .int (nI (nM σ0 K h)), .int (0 : Int32)] σm = some (0, 0, σ') := by
  obtain ⟨a1, a2, a3, a4, a5, a6, a7⟩ := hm
  have hmem : h ∈ cHm σ0 e := by rw [hh]; exact List.mem_singleton.2 rfl
  have hcE : h ∈ cE σ0 K e := by unfold cE; exact List.mem_append_left _ hmem
  obtain ⟨v1, v2, v3, v4, v5⟩ := cE_ok hJ he hcE
  have nh := nM_rng hJ v1
  have k10 : ∀ c, c ∈ eN σ0 K e → vE σ0 nb c ∧ K c.1 ≤ 10 ∧ U + 1 ≤ nM σ0 K c ∧ nM σ0 K c ≤ U + K e.1 ∧ c.2.1 + K c.1 ≤ U + 1 + K e.1 := by
    intro c hc
    obtain ⟨q1, q2, q3⟩ := eN_rng hJ e he hk c hc
    have := nM_rng hJ q1
    exact ⟨q1, by omega, by omega, by omega, by omega⟩
  have pl : ∀ c, c ∈ eN σ0 K e → ∀ q, q < 3 → pNn σ0 K c q ≤ 200 := by
    intro c hc q hq
    by_cases h0 : pNn σ0 K c q = 0
    · omega
    · obtain ⟨-, -, e3, e4⟩ := pNn_e h0
      have := k10 _ (eN_ch hJ e he hk c hc _ e4)
      rw [e3]
      omega
  -- the tree that the rows hold
  have hNc : ∀ c, c ∈ eN σ0 K e → ∀ q, q < 3 → (if U + 1 ≤ nM σ0 K c then (σm.1 (38 + q) (nM σ0 K c)).toNatClampNeg else 0) = pNn σ0 K c q := by
    intro c hc q hq
    have := k10 c hc
    rw [if_pos this.2.2.1, (a4 c hc).2.2 q hq, nI_clamp (by have := pl c hc q hq; omega)]
  have hHc : ∀ c, c ∈ eN σ0 K e → (if U + 1 ≤ nM σ0 K c ∧ nM σ0 K c ≤ U + K e.1 then hX σ0 K (σm.1 34 (nM σ0 K c)).toNatClampNeg else 0) = hX σ0 K c.1 := by
    intro c hc
    have := k10 c hc
    rw [if_pos ⟨this.2.2.1, this.2.2.2.1⟩, (a4 c hc).1, nI_clamp (by have := this.1.1; have := hJ.1; omega)]
  have hW : tW (U + K e.1) (fun q x => if U + 1 ≤ x then (σm.1 (38 + q) x).toNatClampNeg else 0) (fun x => if U + 1 ≤ x ∧ x ≤ U + K e.1 then hX σ0 K (σm.1 34 x).toNatClampNeg else 0) := by
    intro x x1 x2
    by_cases hx : U + 1 ≤ x
    · obtain ⟨c, hc, rfl⟩ := eN_cov hJ he hk (x := x) (by omega) (by omega)
      obtain ⟨q1, q2, q3, q4, q5⟩ := k10 c hc
      obtain ⟨f1, f2⟩ := pNn_f hJ q1
      have hch : ∀ p, p < 3 → ¬ pNn σ0 K c p = 0 → ∃ dd, dd ∈ eN σ0 K e ∧ pNn σ0 K c p = nM σ0 K dd ∧ dd.1 = pTg σ0 c.1 p := by
        intro p hp h0
        obtain ⟨-, -, e3, e4⟩ := pNn_e h0
        exact ⟨_, eN_ch hJ e he hk c hc _ e4, e3, rfl⟩
      simp only [hNc c hc 0 (by decide)]
      refine ⟨?_, fun p hp => ?_, fun p q hpq hq => ?_⟩
      · rw [hHc c hc]
        unfold hX
        omega
      · simp only [hNc c hc p hp, hHc c hc]
        by_cases h0 : pNn σ0 K c p = 0
        · exact Or.inl h0
        · right
          obtain ⟨g1, g2⟩ := (f1 p hp).resolve_left h0
          obtain ⟨dd, d1, d2, d3⟩ := hch p hp h0
          have := k10 dd d1
          rw [d2, hHc dd d1, d3, ← d2]
          exact ⟨g1, by omega, g2⟩
      · simp only [hNc c hc p (by omega), hNc c hc q hq]
        by_cases h0 : pNn σ0 K c p = 0
        · exact Or.inl h0
        · obtain ⟨dd, d1, d2, d3⟩ := hch p (by omega) h0
          rw [d2, hHc dd d1, d3, ← d2]
          exact f2 p q hpq hq
    · simp only [if_neg hx]
      refine ⟨?_, fun p hp => Or.inl trivial, fun p q _ _ => Or.inl trivial⟩
      rw [if_neg (fun z => hx z.1)]
      omega
  have hN : ∀ y p, U + 1 ≤ y → p < 3 → σm.1 (38 + p) y = nI (if U + 1 ≤ y then (σm.1 (38 + p) y).toNatClampNeg else 0) := by
    intro y p hy hp
    rw [if_pos hy]
    by_cases hy2 : y ≤ U + K e.1
    · obtain ⟨c, hc, rfl⟩ := eN_cov hJ he hk (x := y) (by omega) (by omega)
      rw [(a4 c hc).2.2 p hp, nI_clamp (by have := pl c hc p hp; omega)]
    · rw [a3 (38 + p) (by omega) (by omega) y (Or.inr (by omega)) (Or.inl id), hz y p (by omega) hp]
      rfl
  have etl : tL (fun q x => if U + 1 ≤ x then (σm.1 (38 + q) x).toNatClampNeg else 0) (nM σ0 K h) = tE σ0 K h := by
    refine tL_tE hJ hW h v1 (by omega) (fun c hc => ?_)
    have hc' : c ∈ eN σ0 K e := by
      rw [eN_eq hJ he hk, List.mem_cons, List.mem_flatMap]
      exact Or.inr ⟨h, hcE, hc⟩
    have := k10 c hc'
    exact ⟨by omega, by omega, fun q hq => hNc c hc' q hq⟩
  have hal : ∀ z, z ∈ tE σ0 K h → U + 1 ≤ z ∧ z ≤ U + K e.1 ∧ z ∉ (cE σ0 K e).flatMap (kE σ0 K) := by
    intro z hz'
    have tr := tE_rng hJ h v1 (by omega) z hz'
    refine ⟨by omega, by omega, fun q => ?_⟩
    rw [List.mem_flatMap] at q
    obtain ⟨c, hc, q⟩ := q
    obtain ⟨w1, w2, -⟩ := cE_ok hJ he hc
    have kr := kE_rng hJ c w1 (by omega) z q
    have : h = c := cE_dis hJ he hcE hc (by omega) (by omega) kr.1 kr.2
    subst this
    exact tE_kE hJ h v1 (by omega) z hz' q
  have hal2 : ∀ z, z ∈ tE σ0 K h → ¬ σm.1 36 z = 0 := by
    intro z hz'
    obtain ⟨z1, z2, z3⟩ := hal z hz'
    rw [a5 z z1 z2, if_neg z3]
    decide
  have hnm : U + 1 ≤ nM σ0 K h ∧ nM σ0 K h ≤ U + K e.1 := by omega
  have h9 := (hW (nM σ0 K h) (by omega) (by omega)).1
  obtain ⟨r1, D1⟩ := c_discardL (lo := U + 1) hW 10 (nM σ0 K h) (Or.inr ⟨by omega, by omega, by omega, Nat.lt_succ_of_le h9⟩) σm _ 0 d a2 hN (by rw [etl]; exact hal2) (Or.inr (by rw [Nat.zero_add]; exact Nat.le_trans h9 (by decide)))
  rw [etl] at r1 D1
  have nd : (tE σ0 K h).Nodup := by
    rw [← etl]
    exact tL_nodup hW _ (by omega) (by omega)
  refine ⟨kC σm (tE σ0 K h), ?_, r1⟩
  rw [kE_eq hJ he hk, hh, List.flatMap_singleton]
  refine ⟨fun k x y => (kC_o x (by omega) (by omega) _ _).trans (a1 k x y), ?_, fun k x1 x2 x hx hw => ?_, fun c hc => ?_, fun x x1 x2 => ?_, ?_, fun z hz' => ?_⟩
  · rw [List.length_append, ← Nat.add_assoc]
    exact D1
  · by_cases e36 : k = 36
    · subst e36
      rw [kC_36n _ _ _ (fun q => by have := hal x q; omega)]
      exact a3 36 x1 x2 x hx hw
    · rw [kC_o (by omega) e36 (by omega)]
      exact a3 k x1 x2 x hx hw
  · obtain ⟨c1, c2, c3⟩ := a4 c hc
    refine ⟨?_, ?_, fun q hq => ?_⟩
    · rw [kC_o (by decide) (by decide) (by decide)]; exact c1
    · rw [kC_o (by decide) (by decide) (by decide)]; exact c2
    · rw [kC_o (by omega) (by omega) (by omega)]; exact c3 q hq
  · by_cases q : x ∈ tE σ0 K h
    · rw [kC_36y _ _ _ (Or.inl q), if_pos (List.mem_append_right _ q)]
    · rw [kC_36n _ _ _ q, a5 x x1 x2]
      by_cases q2 : x ∈ (cE σ0 K e).flatMap (kE σ0 K)
      · rw [if_pos q2, if_pos (List.mem_append_left _ q2)]
      · rw [if_neg q2, if_neg (fun w => (List.mem_append.1 w).elim q2 q)]
  · rw [kC_41 _ a2 nd (fun z hz' => ⟨by have := hal z hz'; omega, by have := hal z hz'; omega, hal2 z hz'⟩), a6, ap_app]
  · rcases List.mem_append.1 hz' with q | q
    · exact a7 z q
    · have := hal z q
      exact ⟨this.1, this.2.1⟩
