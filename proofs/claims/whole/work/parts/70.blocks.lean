/-! where the lists of a making lie -/
theorem tE_rng {σ : mm_S} {nb : Nat} {K : Nat → Nat} (hJ : jE σ nb K) : ∀ e, vE σ nb e → K e.1 ≤ 10 → ∀ z, z ∈ tE σ K e → nM σ K e ≤ z ∧ z < e.2.1 + K e.1 := by
  apply eN_ind hJ (P := fun e => ∀ z, z ∈ tE σ K e → nM σ K e ≤ z ∧ z < e.2.1 + K e.1)
  intro e he hk ih z hz
  have nr := nM_rng hJ he
  rw [tE_eq hJ he hk, List.mem_cons, List.mem_flatMap] at hz
  rcases hz with rfl | ⟨c, hc, hz⟩
  · omega
  · rw [List.mem_reverse] at hc
    have hm : c ∈ cE σ K e := by unfold cE; exact List.mem_append_right _ hc
    obtain ⟨c1, c2, c3, c4, c5⟩ := cE_ok hJ he hm
    have := ih c hm z hz
    have nc := nM_rng hJ c1
    obtain ⟨p, p1, p2, rfl⟩ := cP_mem.1 hc
    simp only at *
    omega
theorem kE_rng {σ : mm_S} {nb : Nat} {K : Nat → Nat} (hJ : jE σ nb K) : ∀ e, vE σ nb e → K e.1 ≤ 10 → ∀ z, z ∈ kE σ K e → e.2.1 ≤ z ∧ z < e.2.1 + K e.1 := by
  apply eN_ind hJ (P := fun e => ∀ z, z ∈ kE σ K e → e.2.1 ≤ z ∧ z < e.2.1 + K e.1)
  intro e he hk ih z hz
  rw [kE_eq hJ he hk, List.mem_append, List.mem_flatMap, List.mem_flatMap] at hz
  rcases hz with ⟨c, hc, hz⟩ | ⟨c, hc, hz⟩
  · obtain ⟨c1, c2, c3, c4, c5⟩ := cE_ok hJ he hc
    have := ih c hc z hz
    omega
  · have hm : c ∈ cE σ K e := by unfold cE; exact List.mem_append_left _ hc
    obtain ⟨c1, c2, c3, c4, c5⟩ := cE_ok hJ he hm
    have := tE_rng hJ c c1 (by omega) z hz
    have := nM_rng hJ c1
    omega
/-- two children lie apart -/
theorem cE_dis {σ : mm_S} {nb : Nat} {K : Nat → Nat} (hJ : jE σ nb K) {e a b : mE} (he : vE σ nb e) (ha : a ∈ cE σ K e) (hb : b ∈ cE σ K e) {z : Nat} (h1 : a.2.1 ≤ z) (h2 : z < a.2.1 + K a.1) (h3 : b.2.1 ≤ z) (h4 : z < b.2.1 + K b.1) : a = b := by
  have home : ∀ c, c ∈ cHm σ e → c.2.1 + K c.1 = nM σ K e := by
    intro c hc
    obtain ⟨q1, rfl⟩ := cHm_mem.1 hc
    unfold nM pHK
    rw [if_neg q1]
  have part : ∀ c, c ∈ cP σ K e.1 (nM σ K e) (pPt σ e.1) → ∃ p, c = (pTg σ e.1 p, nM σ K e + 1 + nX σ K e.1 p, nM σ K e, nI p) ∧ c.2.1 + K c.1 = nM σ K e + 1 + nX σ K e.1 (p + 1) := by
    intro c hc
    obtain ⟨p, p1, p2, rfl⟩ := cP_mem.1 hc
    refine ⟨p, rfl, ?_⟩
    have es : nX σ K e.1 (p + 1) = nX σ K e.1 p + K (pTg σ e.1 p) := by unfold nX; rw [pSum, if_pos p2]
    simp only
    omega
  unfold cE at ha hb
  rcases List.mem_append.1 ha with ha | ha
  · rcases List.mem_append.1 hb with hb | hb
    · obtain ⟨q1, q2⟩ := cHm_mem.1 ha
      obtain ⟨q3, q4⟩ := cHm_mem.1 hb
      rw [q2, q4]
    · have := home a ha
      obtain ⟨p, q, -⟩ := part b hb
      rw [q] at h3
      simp only at h3
      omega
  · obtain ⟨p, pa, pb⟩ := part a ha
    rcases List.mem_append.1 hb with hb | hb
    · have := home b hb
      rw [pa] at h1
      simp only at h1
      omega
    · obtain ⟨q, qa, qb⟩ := part b hb
      have : p = q := by
        rcases Nat.lt_trichotomy p q with h | h | h
        · have hle := nX_le (σ := σ) (K := K) (b := e.1) (q := p + 1) (r := q - (p + 1))
          rw [show p + 1 + (q - (p + 1)) = q by omega] at hle
          rw [qa] at h3
          simp only at h3
          omega
        · exact h
        · have hle := nX_le (σ := σ) (K := K) (b := e.1) (q := q + 1) (r := p - (q + 1))
          rw [show q + 1 + (p - (q + 1)) = p by omega] at hle
          rw [pa] at h1
          simp only at h1
          omega
      subst this
      rw [pa, qa]
/-- the own number lies in no child -/
theorem cE_own {σ : mm_S} {nb : Nat} {K : Nat → Nat} (hJ : jE σ nb K) {e a : mE} (he : vE σ nb e) (ha : a ∈ cE σ K e) : nM σ K e < a.2.1 ∨ a.2.1 + K a.1 ≤ nM σ K e := by
  unfold cE at ha
  rcases List.mem_append.1 ha with ha | ha
  · obtain ⟨q1, rfl⟩ := cHm_mem.1 ha
    right
    unfold nM pHK
    rw [if_neg q1]
    exact Nat.le_refl _
  · obtain ⟨p, p1, p2, rfl⟩ := cP_mem.1 ha
    left
    simp only
    omega
/-- who is left to its owner doesn't die in the making -/
theorem tE_kE {σ : mm_S} {nb : Nat} {K : Nat → Nat} (hJ : jE σ nb K) : ∀ e, vE σ nb e → K e.1 ≤ 10 → ∀ z, z ∈ tE σ K e → z ∉ kE σ K e := by
  apply eN_ind hJ (P := fun e => ∀ z, z ∈ tE σ K e → z ∉ kE σ K e)
  intro e he hk ih z hz hz'
  rw [tE_eq hJ he hk, List.mem_cons, List.mem_flatMap] at hz
  rw [kE_eq hJ he hk, List.mem_append, List.mem_flatMap, List.mem_flatMap] at hz'
  have inb : ∃ c, c ∈ cE σ K e ∧ c.2.1 ≤ z ∧ z < c.2.1 + K c.1 ∧ (z ∈ kE σ K c ∨ (c ∈ cHm σ e ∧ z ∈ tE σ K c)) := by
    rcases hz' with ⟨c, hc, q⟩ | ⟨c, hc, q⟩
    · obtain ⟨c1, c2, -⟩ := cE_ok hJ he hc
      have := kE_rng hJ c c1 (by omega) z q
      exact ⟨c, hc, this.1, this.2, Or.inl q⟩
    · have hm : c ∈ cE σ K e := by unfold cE; exact List.mem_append_left _ hc
      obtain ⟨c1, c2, -⟩ := cE_ok hJ he hm
      have := tE_rng hJ c c1 (by omega) z q
      have := nM_rng hJ c1
      exact ⟨c, hm, by omega, by omega, Or.inr ⟨hc, q⟩⟩
  obtain ⟨c, hc, r1, r2, r3⟩ := inb
  rcases hz with rfl | ⟨a, ha, hz⟩
  · have := cE_own hJ he hc
    omega
  · rw [List.mem_reverse] at ha
    have hm : a ∈ cE σ K e := by unfold cE; exact List.mem_append_right _ ha
    obtain ⟨c1, c2, -⟩ := cE_ok hJ he hm
    have t := tE_rng hJ a c1 (by omega) z hz
    have n := nM_rng hJ c1
    have : a = c := cE_dis hJ he hm hc (by omega) (by omega) r1 r2
    subst this
    rcases r3 with r3 | ⟨r3, -⟩
    · exact ih a hm z hz r3
    · obtain ⟨q1, q2⟩ := cHm_mem.1 r3
      obtain ⟨p, p1, p2, p3⟩ := cP_mem.1 ha
      have : (0 : Nat) = nM σ K e := congrArg (fun e : mE => e.2.2.1) (q2.symm.trans p3)
      have : a.2.1 = nM σ K e + 1 + nX σ K e.1 p := congrArg (fun e : mE => e.2.1) p3
      have : a.2.1 = e.2.1 := by rw [q2]
      have := nM_rng hJ he
      omega
/-- one stretch of the making: the state before and after, from number U + 1 on, len numbers, entries L, deaths kl; w: rows that are still written elsewhere -/
def mk2 (σ0 : mm_S) (K : Nat → Nat) (w : Nat → Prop) (σ σ' : mm_S) (U len G : Nat) (L : List mE) (kl : List Nat) : Prop :=
  (∀ k, k ≠ 4 → (k < 34 ∨ 41 < k) → σ'.1 k = σ.1 k) ∧ cD σ' (U + len) (G + kl.length) ∧
  (∀ k, 34 ≤ k → k ≤ 40 → ∀ x, (x < U + 1 ∨ U + len < x) → (¬ w x ∨ k < 38) → σ'.1 k x = σ.1 k x) ∧
  (∀ c, c ∈ L → σ'.1 34 (nM σ0 K c) = nI c.1 ∧ σ'.1 35 (nM σ0 K c) = nI c.2.2.1 ∧ ∀ q, q < 3 → σ'.1 (38 + q) (nM σ0 K c) = nI (pNn σ0 K c q)) ∧
  (∀ x, U + 1 ≤ x → x ≤ U + len → σ'.1 36 x = if x ∈ kl then 0 else 1) ∧
  σ'.1 41 = ap (σ.1 41) G kl ∧ (∀ z, z ∈ kl → U + 1 ≤ z ∧ z ≤ U + len)
theorem mk2_comp {σ0 σ σ1 σ2 : mm_S} {K : Nat → Nat} {w : Nat → Prop} {U l1 l2 G : Nat} {L1 L2 : List mE} {k1 k2 : List Nat} (h1 : mk2 σ0 K w σ σ1 U l1 G L1 k1) (h2 : mk2 σ0 K (fun _ => False) σ1 σ2 (U + l1) l2 (G + k1.length) L2 k2) (hL : ∀ c, c ∈ L1 → nM σ0 K c ≤ U + l1) : mk2 σ0 K w σ σ2 U (l1 + l2) G (L1 ++ L2) (k1 ++ k2) := by
  obtain ⟨a1, a2, a3, a4, a5, a6, a7⟩ := h1
  obtain ⟨b1, b2, b3, b4, b5, b6, b7⟩ := h2
  refine ⟨fun k x y => (b1 k x y).trans (a1 k x y), ?_, fun k x1 x2 x hx hw => ?_, fun c hc => ?_, fun x x1 x2 => ?_, ?_, fun z hz => ?_⟩
  · rw [List.length_append, show U + (l1 + l2) = U + l1 + l2 by omega, show G + (k1.length + k2.length) = G + k1.length + k2.length by omega]
    exact b2
  · rw [b3 k x1 x2 x (by omega) (Or.inl id)]
    exact a3 k x1 x2 x (by omega) hw
  · rcases List.mem_append.1 hc with hc | hc
    · have hl := hL c hc
      obtain ⟨c1, c2, c3⟩ := a4 c hc
      refine ⟨?_, ?_, fun q hq => ?_⟩
      · rw [b3 34 (by decide) (by decide) _ (by omega) (Or.inl id)]; exact c1
      · rw [b3 35 (by decide) (by decide) _ (by omega) (Or.inl id)]; exact c2
      · rw [b3 (38 + q) (by omega) (by omega) _ (by omega) (Or.inl id)]; exact c3 q hq
    · exact b4 c hc
  · by_cases hx : x ≤ U + l1
    · rw [b3 36 (by decide) (by decide) x (by omega) (Or.inl id), a5 x x1 hx]
      by_cases z : x ∈ k1
      · rw [if_pos z, if_pos (List.mem_append_left _ z)]
      · rw [if_neg z, if_neg]
        intro q
        rcases List.mem_append.1 q with q | q
        · exact z q
        · have := b7 x q
          omega
    · rw [b5 x (by omega) (by omega)]
      by_cases z : x ∈ k2
      · rw [if_pos z, if_pos (List.mem_append_right _ z)]
      · rw [if_neg z, if_neg]
        intro q
        rcases List.mem_append.1 q with q | q
        · have := a7 x q
          omega
        · exact z q
  · rw [b6, a6, ap_app]
  · rcases List.mem_append.1 hz with q | q
    · have := a7 z q; omega
    · have := b7 z q; omega
theorem mk2_0 {σ0 σ : mm_S} {K : Nat → Nat} {w : Nat → Prop} {U G : Nat} (hD : cD σ U G) : mk2 σ0 K w σ σ U 0 G [] [] := ⟨fun _ _ _ => rfl, hD, fun _ _ _ _ _ _ => rfl, fun c hc => absurd hc (List.not_mem_nil), fun x x1 x2 => by omega, rfl, fun z hz => absurd hz (List.not_mem_nil)⟩
theorem mk2_w {σ0 σ σ' : mm_S} {K : Nat → Nat} {n U len G q : Nat} {L : List mE} {kl : List Nat} {v : Int32} (h : mk2 σ0 K (fun x => x = n) σ σ' U len G L kl) (hq : q < 3) (hn : n < U + 1) (hL : ∀ c, c ∈ L → U + 1 ≤ nM σ0 K c) : mk2 σ0 K (fun x => x = n) σ (mm_w σ'.1 (38 + q) n v, σ'.2) U len G L kl := by
  obtain ⟨a1, a2, a3, a4, a5, a6, a7⟩ := h
  have o : ∀ k x, x ≠ n → mm_w σ'.1 (38 + q) n v k x = σ'.1 k x := by
    intro k x hx
    by_cases e : k = 38 + q
    · subst e; exact mm_w_at2 hx
    · exact mm_w_off e
  have o2 : ∀ k, k < 38 ∨ 40 < k → mm_w σ'.1 (38 + q) n v k = σ'.1 k := fun k hk => mm_w_ne (by omega)
  refine ⟨fun k x y => (o2 k (by omega)).trans (a1 k x y), ?_, fun k x1 x2 x hx hw => ?_, fun c hc => ?_, fun x x1 x2 => ?_, (o2 41 (by decide)).trans a6, a7⟩
  · unfold cD at a2 ⊢
    rw [show ((mm_w σ'.1 (38 + q) n v, σ'.2) : mm_S).1 4 = σ'.1 4 from o2 4 (by decide), show ((mm_w σ'.1 (38 + q) n v, σ'.2) : mm_S).1 36 = σ'.1 36 from o2 36 (by decide)]
    exact a2
  · show mm_w σ'.1 (38 + q) n v k x = σ.1 k x
    by_cases e : x = n
    · rw [o2 k (by rcases hw with hw | hw; exact absurd e hw; exact Or.inl hw)]
      exact a3 k x1 x2 x hx hw
    · rw [o k x e]
      exact a3 k x1 x2 x hx hw
  · have hne : nM σ0 K c ≠ n := by have := hL c hc; omega
    obtain ⟨c1, c2, c3⟩ := a4 c hc
    exact ⟨(o 34 _ hne).trans c1, (o 35 _ hne).trans c2, fun p hp => (o (38 + p) _ hne).trans (c3 p hp)⟩
  · show mm_w σ'.1 (38 + q) n v 36 x = _
    rw [o2 36 (by decide)]
    exact a5 x x1 x2
