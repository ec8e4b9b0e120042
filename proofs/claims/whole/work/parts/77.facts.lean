theorem eN_par {σ : mm_S} {nb : Nat} {K : Nat → Nat} (hJ : jE σ nb K) : ∀ e, vE σ nb e → K e.1 ≤ 10 → ∀ c, c ∈ eN σ K e → c = e ∨ ∃ a, a ∈ eN σ K e ∧ c ∈ cE σ K a := by
  apply eN_ind hJ (P := fun e => ∀ c, c ∈ eN σ K e → c = e ∨ ∃ a, a ∈ eN σ K e ∧ c ∈ cE σ K a)
  intro e he hk ih c hc
  have hs := eN_self hJ he hk
  rw [eN_eq hJ he hk, List.mem_cons, List.mem_flatMap] at hc
  rcases hc with h | ⟨a, ha, hc⟩
  · exact Or.inl h
  · right
    rcases ih a ha c hc with h | ⟨w, hw, hcw⟩
    · exact ⟨e, hs, by rw [h]; exact ha⟩
    · refine ⟨w, ?_, hcw⟩
      rw [eN_eq hJ he hk, List.mem_cons, List.mem_flatMap]
      exact Or.inr ⟨a, ha, hw⟩
theorem cE_own2 {σ : mm_S} {nb : Nat} {K : Nat → Nat} (hJ : jE σ nb K) {a c : mE} (ha : vE σ nb a) (hc : c ∈ cE σ K a) : (c ∈ cHm σ a ∧ c.2.2.1 = 0) ∨ ∃ p, p < 3 ∧ c.2.2.1 = nM σ K a ∧ c.2.2.2 = nI p ∧ pNn σ K a p = nM σ K c ∧ nM σ K a < nM σ K c := by
  have h3 := (hJ.2 a.1 ha.1 ha.2).2.1
  have hv := (cE_ok hJ ha hc).1
  have hr := nM_rng hJ hv
  unfold cE at hc
  rcases List.mem_append.1 hc with h | h
  · left
    refine ⟨h, ?_⟩
    rw [(cHm_mem.1 h).2]
  · right
    have he := cP_end h
    obtain ⟨p, p1, p2, rfl⟩ := cP_mem.1 h
    refine ⟨p, by omega, rfl, rfl, ?_, by omega⟩
    unfold pNn
    rw [if_pos ⟨p1, p2⟩]
    rfl
theorem eN_owner {σ : mm_S} {nb : Nat} {K : Nat → Nat} (hJ : jE σ nb K) {e : mE} (he : vE σ nb e) (hk : K e.1 ≤ 10) (h1 : 1 ≤ e.2.1) (h0 : e.2.2.1 = 0) {c : mE} (hc : c ∈ eN σ K e) : c.2.2.1 < nM σ K c := by
  obtain ⟨v, r1, r2⟩ := eN_rng hJ e he hk c hc
  have hr := nM_rng hJ v
  rcases eN_par hJ e he hk c hc with rfl | ⟨a, ha, hca⟩
  · omega
  · have va := (eN_rng hJ e he hk a ha).1
    rcases cE_own2 hJ va hca with ⟨-, q⟩ | ⟨p, -, q, -, -, q2⟩
    · omega
    · omega
theorem fm_le {α β γ : Type} {f : α → List β} {g : α → List γ} : ∀ {l : List α}, (∀ c, c ∈ l → (f c).length ≤ (g c).length) → (l.flatMap f).length ≤ (l.flatMap g).length
  | [], _ => by simp
  | a :: l, h => by
    have h1 := h a (List.mem_cons_self)
    have h2 := fm_le (l := l) (fun c hc => h c (List.mem_cons_of_mem _ hc))
    rw [List.flatMap_cons, List.flatMap_cons, List.length_append, List.length_append]
    omega
theorem fE_len {σ : mm_S} {nb : Nat} {K : Nat → Nat} (hJ : jE σ nb K) : ∀ e, vE σ nb e → K e.1 ≤ 10 → (fE σ K e).length ≤ (eN σ K e).length := by
  apply eN_ind hJ (P := fun e => (fE σ K e).length ≤ (eN σ K e).length)
  intro e he hk ih
  have := fm_le (f := fE σ K) (g := eN σ K) (l := cE σ K e) ih
  rw [fE_eq hJ he hk, eN_eq hJ he hk, List.length_append, List.length_cons]
  split
  · simp only [List.length_nil]; omega
  · simp only [List.length_singleton]; omega
theorem kR_25 : ∀ (L : List Nat) {τ : mm_S} {U G : Nat}, rD τ U G → L.Nodup → (∀ z, z ∈ L → 1 ≤ z ∧ z ≤ U ∧ ¬ τ.1 23 z = 0) → (kR τ L).1 25 = ap (τ.1 25) G L
  | [], _, _, _, _, _, _ => rfl
  | x :: L, τ, U, G, hD, hn, h => by
    rw [List.nodup_cons] at hn
    obtain ⟨a1, a2, a3⟩ := h x (List.mem_cons_self)
    obtain ⟨hG, h1⟩ := rD_1 hD a1 a2 a3
    have e25 : (kR1 τ x).1 25 = uq (τ.1 25) G (nI x) := by
      have : (kR1 τ x).1 25 = uq (τ.1 25) (τ.1 0 31).toNatClampNeg (nI x) := by
        unfold kR1
        simp (decide := true) only [mm_w_ne, mm_w_eq]
        rfl
      rw [this, hD.2.2.1, nI_clamp (by have := hD.1; omega)]
    rw [kR, ap, ← e25]
    refine kR_25 L h1 hn.2 (fun z hz => ?_)
    obtain ⟨b1, b2, b3⟩ := h z (List.mem_cons_of_mem _ hz)
    refine ⟨b1, b2, ?_⟩
    rw [kR1_23, uq_ne (fun q => hn.1 (by rw [← q]; exact hz))]
    exact b3
theorem kR_23y : ∀ (L : List Nat) (τ : mm_S) (z : Nat), (z ∈ L ∨ τ.1 23 z = 0) → (kR τ L).1 23 z = 0
  | [], _, _, h => h.resolve_left (List.not_mem_nil)
  | x :: L, τ, z, h => by
    rw [kR]
    apply kR_23y
    rw [kR1_23]
    by_cases e : z = x
    · subst e; exact Or.inr uq_at
    · rw [uq_ne e]
      rcases h with h | h
      · exact Or.inl ((List.mem_cons.1 h).resolve_left e)
      · exact Or.inr h
theorem pCt_add {p : Nat → Bool} {U : Nat} : ∀ r, (∀ i, U ≤ i → i < U + r → p i = false) → pCt p (U + r) = pCt p U
  | 0, _ => rfl
  | r + 1, h => by
    rw [show U + (r + 1) = (U + r) + 1 by omega, pCt, h (U + r) (by omega) (by omega), pCt_add r (fun i h1 h2 => h i h1 (by omega))]
    rfl
theorem jE_of {σ τ : mm_S} {nc nb : Nat} {F1 F2 lv H K : Nat → Nat} (h1 : cI σ nc nb F1 F2 lv H) (h3 : jX σ nc nb F1 F2 lv) (hK : jK σ τ nb K) : jE σ nb K := by
  have hn := h1.2.2.1.2
  refine ⟨hn, fun b hb hE => ?_⟩
  obtain ⟨y1, y2, y3, m, m3, em, -⟩ := h3.2.2.2.1 b hb
  obtain ⟨k1, k2, k3, k4⟩ := hK b hb hE
  have epm : pPt σ b = m := by unfold pPt; rw [em, nI_clamp (by omega)]
  refine ⟨?_, by omega, by rw [epm]; exact em, fun p hp => ?_, k2⟩
  · rcases h1.2.2.2.2.2.2.2.2.2.1 b hb with q | ⟨k, hk, q⟩
    · exact Or.inl q
    · right
      obtain ⟨z1, z2⟩ := y3 k hk q
      have hk1 : σ.1 17 k = -1 := (h3.2.2.2.1 k hk).2.1 z1
      refine ⟨k, hk, q, ?_, hk1, z2⟩
      unfold pE at hE ⊢
      rw [Bool.and_eq_true, Bool.or_eq_true, q, nI_clamp (by omega)] at hE
      rw [hk1]
      have hc : (!decide (σ.1 16 k = -1)) = true := by
        rcases hE.2 with z | z
        · exact absurd (of_decide_eq_true z) (nI_m1 (by omega))
        · exact z
      rw [hc]
      simp
  · obtain ⟨y, a, b', c⟩ := k1 p hp
    exact ⟨y, a, c, b'⟩
/-- whose home dies -/
theorem home_dies {σ : mm_S} {nb : Nat} {K : Nat → Nat} (hJ : jE σ nb K) {e : mE} (he : vE σ nb e) (hk : K e.1 ≤ 10) {a h : mE} (ha : a ∈ eN σ K e) (hh : h ∈ cHm σ a) : h.2.1 = a.2.1 ∧ nM σ K h = a.2.1 ∧ vE σ nb h ∧ K h.1 ≤ 10 ∧ h ∈ eN σ K e ∧ h.2.2.1 = 0 ∧ ∀ z, z ∈ tE σ K h → z ∈ kE σ K e := by
  obtain ⟨va, r1, r2⟩ := eN_rng hJ e he hk a ha
  have hcE : h ∈ cE σ K a := by unfold cE; exact List.mem_append_left _ hh
  obtain ⟨vh, kh, -⟩ := cE_ok hJ va hcE
  obtain ⟨q1, q2⟩ := cHm_mem.1 hh
  obtain ⟨k, k1, k2, k3, k4, k5⟩ := (hJ.2 a.1 va.1 va.2).1.resolve_left q1
  have ek : (σ.1 17 a.1).toNatClampNeg = k := by rw [k2, nI_clamp (by have := hJ.1; omega)]
  have e1 : h.2.1 = a.2.1 := by rw [q2]
  have e2 : pHK σ K h.1 = 0 := by
    rw [q2]
    unfold pHK
    simp only [ek]
    rw [if_pos k4]
  refine ⟨e1, by unfold nM; omega, vh, by omega, eN_ch hJ e he hk a ha h hcE, by rw [q2], fun z hz => ?_⟩
  rw [kE_fE hJ e he hk, List.mem_flatMap]
  refine ⟨a, (fE_mem hJ e he hk a).2 ⟨ha, q1⟩, ?_⟩
  rw [List.mem_flatMap]
  exact ⟨h, hh, hz⟩
