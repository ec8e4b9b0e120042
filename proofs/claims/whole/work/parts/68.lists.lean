theorem nd_inj {α β : Type} {f : α → β} : ∀ {l : List α}, (l.map f).Nodup → ∀ a, a ∈ l → ∀ b, b ∈ l → f a = f b → a = b
  | [], _, a, ha => absurd ha (List.not_mem_nil)
  | x :: l, h, a, ha => by
    intro b hb e
    rw [List.map_cons, List.nodup_cons] at h
    rcases List.mem_cons.1 ha with ha | ha'
    · rcases List.mem_cons.1 hb with hb | hb'
      · rw [ha, hb]
      · exact absurd (by rw [← ha, e]; exact List.mem_map_of_mem hb') h.1
    · rcases List.mem_cons.1 hb with hb | hb'
      · exact absurd (by rw [← hb, ← e]; exact List.mem_map_of_mem ha') h.1
      · exact nd_inj h.2 a ha' b hb' e
theorem eN_cov {σ : mm_S} {nb : Nat} {K : Nat → Nat} (hJ : jE σ nb K) {e : mE} (he : vE σ nb e) (hk : K e.1 ≤ 10) {x : Nat} (h1 : e.2.1 ≤ x) (h2 : x < e.2.1 + K e.1) : ∃ c, c ∈ eN σ K e ∧ nM σ K c = x := by
  have := (eN_perm hJ e he hk).mem_iff (a := x)
  rw [List.mem_range'_1, List.mem_map] at this
  exact this.2 ⟨h1, h2⟩
theorem eN_nd {σ : mm_S} {nb : Nat} {K : Nat → Nat} (hJ : jE σ nb K) {e : mE} (he : vE σ nb e) (hk : K e.1 ≤ 10) : ((eN σ K e).map (nM σ K)).Nodup := (eN_perm hJ e he hk).nodup_iff.2 (List.nodup_range' 1)
theorem eN_uni {σ : mm_S} {nb : Nat} {K : Nat → Nat} (hJ : jE σ nb K) {e : mE} (he : vE σ nb e) (hk : K e.1 ≤ 10) {c d : mE} (hc : c ∈ eN σ K e) (hd : d ∈ eN σ K e) (h : nM σ K c = nM σ K d) : c = d := nd_inj (eN_nd hJ he hk) c hc d hd h
theorem eN_len {σ : mm_S} {nb : Nat} {K : Nat → Nat} (hJ : jE σ nb K) {e : mE} (he : vE σ nb e) (hk : K e.1 ≤ 10) : (eN σ K e).length = K e.1 := by
  have := (eN_perm hJ e he hk).length_eq
  rw [List.length_map, List.length_range'] at this
  exact this
theorem nM_rng {σ : mm_S} {nb : Nat} {K : Nat → Nat} (hJ : jE σ nb K) {c : mE} (hc : vE σ nb c) : c.2.1 ≤ nM σ K c ∧ nM σ K c < c.2.1 + K c.1 := by
  have := (hJ.2 c.1 hc.1 hc.2).2.2.2.2
  unfold nM
  omega
/-- how far an instance and what it owns reach -/
def hX (σ : mm_S) (K : Nat → Nat) (b : Nat) : Nat := K b - 1 - pHK σ K b
def pNn (σ : mm_S) (K : Nat → Nat) (c : mE) (q : Nat) : Nat := if q < pPt σ c.1 ∧ σ.1 15 (pTg σ c.1 q) = 0 then nM σ K c + 1 + nX σ K c.1 q + pHK σ K (pTg σ c.1 q) else 0
theorem pNn_e {σ : mm_S} {K : Nat → Nat} {c : mE} {q : Nat} (h : ¬ pNn σ K c q = 0) : q < pPt σ c.1 ∧ σ.1 15 (pTg σ c.1 q) = 0 ∧ pNn σ K c q = nM σ K (pTg σ c.1 q, nM σ K c + 1 + nX σ K c.1 q, nM σ K c, nI q) ∧ (pTg σ c.1 q, nM σ K c + 1 + nX σ K c.1 q, nM σ K c, nI q) ∈ cE σ K c := by
  unfold pNn at h ⊢
  split at h
  · next z =>
    refine ⟨z.1, z.2, by rw [if_pos z]; rfl, ?_⟩
    unfold cE
    exact List.mem_append_right _ (cP_mem.2 ⟨q, z.1, z.2, rfl⟩)
  · exact absurd rfl h
theorem pNn_f {σ : mm_S} {nb : Nat} {K : Nat → Nat} (hJ : jE σ nb K) {c : mE} (hc : vE σ nb c) : (∀ p, p < 3 → pNn σ K c p = 0 ∨ (nM σ K c < pNn σ K c p ∧ pNn σ K c p + hX σ K (pTg σ c.1 p) ≤ nM σ K c + hX σ K c.1)) ∧ (∀ p q, p < q → q < 3 → pNn σ K c p = 0 ∨ pNn σ K c q = 0 ∨ pNn σ K c p + hX σ K (pTg σ c.1 p) < pNn σ K c q) := by
  have kc := (hJ.2 c.1 hc.1 hc.2).2.2.2.2
  have hdk : pDK σ K c.1 = nX σ K c.1 (pPt σ c.1) := rfl
  have key : ∀ p, ¬ pNn σ K c p = 0 → p < pPt σ c.1 ∧ pNn σ K c p = nM σ K c + 1 + nX σ K c.1 p + pHK σ K (pTg σ c.1 p) ∧ pNn σ K c p + hX σ K (pTg σ c.1 p) + 1 = nM σ K c + 1 + nX σ K c.1 (p + 1) := by
    intro p hp
    obtain ⟨a1, a2, a3, a4⟩ := pNn_e hp
    obtain ⟨b1, b2, b3, b4, b5⟩ := cE_ok hJ hc a4
    have ky := (hJ.2 _ b1.1 b1.2).2.2.2.2
    have es : nX σ K c.1 (p + 1) = nX σ K c.1 p + K (pTg σ c.1 p) := by unfold nX; rw [pSum, if_pos a2]
    have en : pNn σ K c p = nM σ K c + 1 + nX σ K c.1 p + pHK σ K (pTg σ c.1 p) := by rw [a3]; rfl
    refine ⟨a1, en, ?_⟩
    unfold hX
    simp only at ky
    omega
  refine ⟨fun p hp => ?_, fun p q hpq hq => ?_⟩
  · by_cases h : pNn σ K c p = 0
    · exact Or.inl h
    · right
      obtain ⟨a1, a2, a3⟩ := key p h
      have hle := nX_le (σ := σ) (K := K) (b := c.1) (q := p + 1) (r := pPt σ c.1 - (p + 1))
      rw [show p + 1 + (pPt σ c.1 - (p + 1)) = pPt σ c.1 by omega] at hle
      have : hX σ K c.1 = pDK σ K c.1 := by unfold hX; omega
      omega
  · by_cases h : pNn σ K c p = 0
    · exact Or.inl h
    · by_cases h' : pNn σ K c q = 0
      · exact Or.inr (Or.inl h')
      · right; right
        obtain ⟨a1, a2, a3⟩ := key p h
        obtain ⟨b1, b2, b3⟩ := key q h'
        have hle := nX_le (σ := σ) (K := K) (b := c.1) (q := p + 1) (r := q - (p + 1))
        rw [show p + 1 + (q - (p + 1)) = q by omega] at hle
        omega
/-! the order in which an entry's instance dies with what it owns (tE), the deaths of a whole making (kE) -/
def te (σ : mm_S) (K : Nat → Nat) : Nat → mE → List Nat
  | 0, _ => []
  | k + 1, c => nM σ K c :: ((cP σ K c.1 (nM σ K c) (pPt σ c.1)).reverse).flatMap (te σ K k)
def tE (σ : mm_S) (K : Nat → Nat) (c : mE) : List Nat := te σ K 11 c
theorem te_fuel {σ : mm_S} {nb : Nat} {K : Nat → Nat} (hJ : jE σ nb K) : ∀ k k' e, vE σ nb e → K e.1 ≤ k → K e.1 ≤ k' → te σ K k e = te σ K k' e
  | 0, k', e, he, h, _ => by
    have := (hJ.2 e.1 he.1 he.2).2.2.2.2
    omega
  | k + 1, 0, e, he, _, h => by
    have := (hJ.2 e.1 he.1 he.2).2.2.2.2
    omega
  | k + 1, k' + 1, e, he, h, h' => by
    rw [te, te]
    congr 1
    refine fm_congr (fun c hc => ?_)
    obtain ⟨c1, c2, -⟩ := cE_ok hJ he (show c ∈ cE σ K e by unfold cE; exact List.mem_append_right _ (List.mem_reverse.1 hc))
    exact te_fuel hJ k k' c c1 (by omega) (by omega)
theorem tE_eq {σ : mm_S} {nb : Nat} {K : Nat → Nat} (hJ : jE σ nb K) {e : mE} (he : vE σ nb e) (hk : K e.1 ≤ 10) : tE σ K e = nM σ K e :: ((cP σ K e.1 (nM σ K e) (pPt σ e.1)).reverse).flatMap (tE σ K) := by
  unfold tE
  rw [show te σ K 11 e = nM σ K e :: ((cP σ K e.1 (nM σ K e) (pPt σ e.1)).reverse).flatMap (te σ K 10) from rfl]
  congr 1
  refine fm_congr (fun c hc => ?_)
  obtain ⟨c1, c2, -⟩ := cE_ok hJ he (show c ∈ cE σ K e by unfold cE; exact List.mem_append_right _ (List.mem_reverse.1 hc))
  exact te_fuel hJ 10 11 c c1 (by omega) (by omega)
def ke (σ : mm_S) (K : Nat → Nat) : Nat → mE → List Nat
  | 0, _ => []
  | k + 1, e => (cE σ K e).flatMap (ke σ K k) ++ (cHm σ e).flatMap (tE σ K)
def kE (σ : mm_S) (K : Nat → Nat) (e : mE) : List Nat := ke σ K 11 e
theorem ke_fuel {σ : mm_S} {nb : Nat} {K : Nat → Nat} (hJ : jE σ nb K) : ∀ k k' e, vE σ nb e → K e.1 ≤ k → K e.1 ≤ k' → ke σ K k e = ke σ K k' e
  | 0, k', e, he, h, _ => by
    have := (hJ.2 e.1 he.1 he.2).2.2.2.2
    omega
  | k + 1, 0, e, he, _, h => by
    have := (hJ.2 e.1 he.1 he.2).2.2.2.2
    omega
  | k + 1, k' + 1, e, he, h, h' => by
    rw [ke, ke]
    congr 1
    refine fm_congr (fun c hc => ?_)
    obtain ⟨c1, c2, -⟩ := cE_ok hJ he hc
    exact ke_fuel hJ k k' c c1 (by omega) (by omega)
theorem kE_eq {σ : mm_S} {nb : Nat} {K : Nat → Nat} (hJ : jE σ nb K) {e : mE} (he : vE σ nb e) (hk : K e.1 ≤ 10) : kE σ K e = (cE σ K e).flatMap (kE σ K) ++ (cHm σ e).flatMap (tE σ K) := by
  unfold kE
  rw [show ke σ K 11 e = (cE σ K e).flatMap (ke σ K 10) ++ (cHm σ e).flatMap (tE σ K) from rfl]
  congr 1
  refine fm_congr (fun c hc => ?_)
  obtain ⟨c1, c2, -⟩ := cE_ok hJ he hc
  exact ke_fuel hJ 10 11 c c1 (by omega) (by omega)
theorem cP_r {σ : mm_S} {K : Nat → Nat} {b n q : Nat} {g : mE → List Nat} : ((cP σ K b n (q + 1)).reverse).flatMap g = (if σ.1 15 (pTg σ b q) = 0 then g (pTg σ b q, n + 1 + nX σ K b q, n, nI q) else []) ++ ((cP σ K b n q).reverse).flatMap g := by
  rw [cP, List.reverse_append, List.flatMap_append]
  congr 1
  split
  · rw [List.reverse_singleton, List.flatMap_singleton]
  · rfl
theorem cP_r0 {σ : mm_S} {K : Nat → Nat} {b n : Nat} {g : mE → List Nat} : ((cP σ K b n 0).reverse).flatMap g = [] := rfl
/-- the tree over the numbers is the tree over the entries -/
theorem tL_tE {σ : mm_S} {nb U : Nat} {K : Nat → Nat} {N : Nat → Nat → Nat} {ht : Nat → Nat} (hJ : jE σ nb K) (hW : tW U N ht) : ∀ e, vE σ nb e → K e.1 ≤ 10 → (∀ c, c ∈ eN σ K e → 1 ≤ nM σ K c ∧ nM σ K c ≤ U ∧ ∀ q, q < 3 → N q (nM σ K c) = pNn σ K c q) → tL N (nM σ K e) = tE σ K e := by
  apply eN_ind hJ (P := fun e => (∀ c, c ∈ eN σ K e → 1 ≤ nM σ K c ∧ nM σ K c ≤ U ∧ ∀ q, q < 3 → N q (nM σ K c) = pNn σ K c q) → tL N (nM σ K e) = tE σ K e)
  intro e he hk ih hN
  obtain ⟨n1, n2, n3⟩ := hN e (eN_self hJ he hk)
  have h3 := (hJ.2 e.1 he.1 he.2).2.1
  rw [tL_eq hW n1 n2, tE_eq hJ he hk]
  congr 1
  have part : ∀ q, q < 3 → tL N (N q (nM σ K e)) = if q < pPt σ e.1 ∧ σ.1 15 (pTg σ e.1 q) = 0 then tE σ K (pTg σ e.1 q, nM σ K e + 1 + nX σ K e.1 q, nM σ K e, nI q) else [] := by
    intro q hq
    rw [n3 q hq]
    by_cases h0 : q < pPt σ e.1 ∧ σ.1 15 (pTg σ e.1 q) = 0
    · rw [if_pos h0]
      have hm : (pTg σ e.1 q, nM σ K e + 1 + nX σ K e.1 q, nM σ K e, nI q) ∈ cE σ K e := by
        unfold cE
        exact List.mem_append_right _ (cP_mem.2 ⟨q, h0.1, h0.2, rfl⟩)
      have en : pNn σ K e q = nM σ K (pTg σ e.1 q, nM σ K e + 1 + nX σ K e.1 q, nM σ K e, nI q) := by unfold pNn; rw [if_pos h0]; rfl
      rw [en]
      refine ih _ hm (fun c hc => hN c ?_)
      rw [eN_eq hJ he hk, List.mem_cons, List.mem_flatMap]
      exact Or.inr ⟨_, hm, hc⟩
    · rw [if_neg h0]
      have : pNn σ K e q = 0 := by unfold pNn; rw [if_neg h0]
      rw [this, tL_0]
  rw [part 2 (by decide), part 1 (by decide), part 0 (by decide)]
  clear part ih hN
  generalize tE σ K = g
  have ifc : ∀ (m q : Nat) (A : List Nat), q < m → (if q < m ∧ σ.1 15 (pTg σ e.1 q) = 0 then A else []) = (if σ.1 15 (pTg σ e.1 q) = 0 then A else []) := by
    intro m q A hq
    by_cases z : σ.1 15 (pTg σ e.1 q) = 0
    · rw [if_pos ⟨hq, z⟩, if_pos z]
    · rw [if_neg (fun w => z w.2), if_neg z]
  have ifn : ∀ (m q : Nat) (A : List Nat), ¬ q < m → (if q < m ∧ σ.1 15 (pTg σ e.1 q) = 0 then A else []) = [] := fun m q A hq => if_neg (fun w => hq w.1)
  rcases (show pPt σ e.1 = 0 ∨ pPt σ e.1 = 1 ∨ pPt σ e.1 = 2 ∨ pPt σ e.1 = 3 by omega) with h | h | h | h
  · rw [h, ifn 0 2 _ (by decide), ifn 0 1 _ (by decide), ifn 0 0 _ (by decide)]
    rfl
  · rw [h, ifn 1 2 _ (by decide), ifn 1 1 _ (by decide), ifc 1 0 _ (by decide), cP_r, cP_r0, List.nil_append, List.nil_append, List.append_nil]
  · rw [h, ifn 2 2 _ (by decide), ifc 2 1 _ (by decide), ifc 2 0 _ (by decide), cP_r, cP_r, cP_r0, List.nil_append, List.append_nil]
  · rw [h, ifc 3 2 _ (by decide), ifc 3 1 _ (by decide), ifc 3 0 _ (by decide), cP_r, cP_r, cP_r, cP_r0, List.append_nil]
