/-! the entries with a home, in the order in which their homes die -/
def fe (σ : mm_S) (K : Nat → Nat) : Nat → mE → List mE
  | 0, _ => []
  | k + 1, e => (cE σ K e).flatMap (fe σ K k) ++ (if σ.1 17 e.1 = -1 then [] else [e])
def fE (σ : mm_S) (K : Nat → Nat) (e : mE) : List mE := fe σ K 11 e
theorem fe_fuel {σ : mm_S} {nb : Nat} {K : Nat → Nat} (hJ : jE σ nb K) : ∀ k k' e, vE σ nb e → K e.1 ≤ k → K e.1 ≤ k' → fe σ K k e = fe σ K k' e
  | 0, k', e, he, h, _ => by
    have := (hJ.2 e.1 he.1 he.2).2.2.2.2
    omega
  | k + 1, 0, e, he, _, h => by
    have := (hJ.2 e.1 he.1 he.2).2.2.2.2
    omega
  | k + 1, k' + 1, e, he, h, h' => by
    rw [fe, fe]
    congr 1
    refine fm_congr (fun c hc => ?_)
    obtain ⟨c1, c2, -⟩ := cE_ok hJ he hc
    exact fe_fuel hJ k k' c c1 (by omega) (by omega)
theorem fE_eq {σ : mm_S} {nb : Nat} {K : Nat → Nat} (hJ : jE σ nb K) {e : mE} (he : vE σ nb e) (hk : K e.1 ≤ 10) : fE σ K e = (cE σ K e).flatMap (fE σ K) ++ (if σ.1 17 e.1 = -1 then [] else [e]) := by
  unfold fE
  rw [show fe σ K 11 e = (cE σ K e).flatMap (fe σ K 10) ++ (if σ.1 17 e.1 = -1 then [] else [e]) from rfl]
  congr 1
  refine fm_congr (fun c hc => ?_)
  obtain ⟨c1, c2, -⟩ := cE_ok hJ he hc
  exact fe_fuel hJ 10 11 c c1 (by omega) (by omega)
theorem fE_mem {σ : mm_S} {nb : Nat} {K : Nat → Nat} (hJ : jE σ nb K) : ∀ e, vE σ nb e → K e.1 ≤ 10 → ∀ a, a ∈ fE σ K e ↔ a ∈ eN σ K e ∧ ¬ σ.1 17 a.1 = -1 := by
  apply eN_ind hJ (P := fun e => ∀ a, a ∈ fE σ K e ↔ a ∈ eN σ K e ∧ ¬ σ.1 17 a.1 = -1)
  intro e he hk ih a
  rw [fE_eq hJ he hk, eN_eq hJ he hk, List.mem_append, List.mem_cons, List.mem_flatMap, List.mem_flatMap]
  constructor
  · rintro (⟨c, hc, h⟩ | h)
    · have := (ih c hc a).1 h
      exact ⟨Or.inr ⟨c, hc, this.1⟩, this.2⟩
    · by_cases z : σ.1 17 e.1 = -1
      · rw [if_pos z] at h; exact absurd h (List.not_mem_nil)
      · rw [if_neg z, List.mem_singleton] at h
        subst h
        exact ⟨Or.inl rfl, z⟩
  · rintro ⟨h | ⟨c, hc, h⟩, h2⟩
    · subst h
      right
      rw [if_neg h2]
      exact List.mem_singleton.2 rfl
    · exact Or.inl ⟨c, hc, (ih c hc a).2 ⟨h, h2⟩⟩
/-- the sooner end; of the same end, the later begun -/
def sn (K : Nat → Nat) (a b : mE) : Prop := a.2.1 + K a.1 < b.2.1 + K b.1 ∨ (a.2.1 + K a.1 = b.2.1 + K b.1 ∧ b.2.1 < a.2.1)
theorem cP_ord {σ : mm_S} {K : Nat → Nat} {b n : Nat} : ∀ q, (cP σ K b n q).Pairwise (fun a c => a.2.1 + K a.1 ≤ c.2.1)
  | 0 => List.Pairwise.nil
  | q + 1 => by
    rw [cP, List.pairwise_append]
    refine ⟨cP_ord q, ?_, fun a ha c hc => ?_⟩
    · split
      · exact List.pairwise_singleton _ _
      · exact List.Pairwise.nil
    · have := cP_end ha
      split at hc
      · rw [List.mem_singleton] at hc
        subst hc
        simp only
        omega
      · exact absurd hc (List.not_mem_nil)
theorem cE_ord {σ : mm_S} {K : Nat → Nat} {e : mE} : (cE σ K e).Pairwise (fun a c => a.2.1 + K a.1 ≤ c.2.1) := by
  unfold cE
  rw [List.pairwise_append]
  refine ⟨?_, cP_ord _, fun a ha c hc => ?_⟩
  · unfold cHm
    split
    · exact List.Pairwise.nil
    · exact List.pairwise_singleton _ _
  · obtain ⟨q1, rfl⟩ := cHm_mem.1 ha
    have := cP_end hc
    have e1 : nM σ K e = e.2.1 + K (σ.1 17 e.1).toNatClampNeg := by unfold nM pHK; rw [if_neg q1]
    simp only
    omega
theorem fE_from {σ : mm_S} {nb : Nat} {K : Nat → Nat} (hJ : jE σ nb K) {e : mE} (he : vE σ nb e) (hk : K e.1 ≤ 10) (h : σ.1 17 e.1 = -1) : ∀ a, a ∈ fE σ K e → e.2.1 < a.2.1 := by
  intro a ha
  rw [fE_eq hJ he hk, if_pos h, List.append_nil, List.mem_flatMap] at ha
  obtain ⟨c, hc, ha⟩ := ha
  obtain ⟨c1, c2, -⟩ := cE_ok hJ he hc
  have := ((fE_mem hJ c c1 (by omega) a).1 ha).1
  have := eN_rng hJ c c1 (by omega) a this
  have hcp : c ∈ cP σ K e.1 (nM σ K e) (pPt σ e.1) := by
    unfold cE at hc
    rcases List.mem_append.1 hc with hc | hc
    · exact absurd h (cHm_mem.1 hc).1
    · exact hc
  have := cP_end hcp
  have := nM_rng hJ he
  omega
theorem fE_sort {σ : mm_S} {nb : Nat} {K : Nat → Nat} (hJ : jE σ nb K) : ∀ e, vE σ nb e → K e.1 ≤ 10 → (fE σ K e).Pairwise (sn K) := by
  apply eN_ind hJ (P := fun e => (fE σ K e).Pairwise (sn K))
  intro e he hk ih
  have mem : ∀ c, c ∈ cE σ K e → ∀ a, a ∈ fE σ K c → vE σ nb a ∧ c.2.1 ≤ a.2.1 ∧ a.2.1 + K a.1 ≤ c.2.1 + K c.1 ∧ 1 ≤ K a.1 := by
    intro c hc a ha
    obtain ⟨c1, c2, -⟩ := cE_ok hJ he hc
    have h1 := ((fE_mem hJ c c1 (by omega) a).1 ha).1
    obtain ⟨r1, r2, r3⟩ := eN_rng hJ c c1 (by omega) a h1
    exact ⟨r1, r2, r3, by rw [(hJ.2 a.1 r1.1 r1.2).2.2.2.2]; omega⟩
  rw [fE_eq hJ he hk, List.pairwise_append]
  refine ⟨?_, ?_, fun a ha b hb => ?_⟩
  · rw [List.pairwise_flatMap]
    refine ⟨fun c hc => ih c hc, ?_⟩
    refine List.Pairwise.imp_of_mem ?_ (cE_ord (σ := σ) (K := K) (e := e))
    intro c c' hc hc' hle a ha b hb
    have ma := mem c hc a ha
    have mb := mem c' hc' b hb
    left
    omega
  · split
    · exact List.Pairwise.nil
    · exact List.pairwise_singleton _ _
  · by_cases z : σ.1 17 e.1 = -1
    · rw [if_pos z] at hb; exact absurd hb (List.not_mem_nil)
    · rw [if_neg z, List.mem_singleton] at hb
      subst hb
      rw [List.mem_flatMap] at ha
      obtain ⟨c, hc, ha⟩ := ha
      obtain ⟨c1, c2, c3, c4, c5⟩ := cE_ok hJ he hc
      have ma := mem c hc a ha
      have hgt : b.2.1 < a.2.1 := by
        unfold cE at hc
        rcases List.mem_append.1 hc with hc | hc
        · obtain ⟨q1, rfl⟩ := cHm_mem.1 hc
          obtain ⟨k, k1, k2, k3, k4, k5⟩ := (hJ.2 b.1 he.1 he.2).1.resolve_left q1
          have ek : (σ.1 17 b.1).toNatClampNeg = k := by rw [k2, nI_clamp (by have := hJ.1; omega)]
          exact fE_from hJ c1 (by omega) (by simp only [ek]; exact k4) a ha
        · have := cP_end hc
          have := nM_rng hJ he
          omega
      unfold sn
      omega
theorem kE_fE {σ : mm_S} {nb : Nat} {K : Nat → Nat} (hJ : jE σ nb K) : ∀ e, vE σ nb e → K e.1 ≤ 10 → kE σ K e = (fE σ K e).flatMap (fun a => (cHm σ a).flatMap (tE σ K)) := by
  apply eN_ind hJ (P := fun e => kE σ K e = (fE σ K e).flatMap (fun a => (cHm σ a).flatMap (tE σ K)))
  intro e he hk ih
  rw [kE_eq hJ he hk, fE_eq hJ he hk, List.flatMap_append, List.flatMap_assoc]
  congr 1
  · exact fm_congr (fun c hc => ih c hc)
  · by_cases z : σ.1 17 e.1 = -1
    · rw [if_pos z, show cHm σ e = [] by unfold cHm; rw [if_pos z]]
      rfl
    · rw [if_neg z, List.flatMap_singleton]
theorem tE_nd {σ : mm_S} {nb : Nat} {K : Nat → Nat} (hJ : jE σ nb K) : ∀ e, vE σ nb e → K e.1 ≤ 10 → (tE σ K e).Nodup := by
  apply eN_ind hJ (P := fun e => (tE σ K e).Nodup)
  intro e he hk ih
  have hcE : ∀ c, c ∈ cP σ K e.1 (nM σ K e) (pPt σ e.1) → c ∈ cE σ K e := fun c hc => by unfold cE; exact List.mem_append_right _ hc
  rw [tE_eq hJ he hk, List.nodup_cons]
  refine ⟨fun q => ?_, ?_⟩
  · rw [List.mem_flatMap] at q
    obtain ⟨c, hc, q⟩ := q
    rw [List.mem_reverse] at hc
    obtain ⟨c1, c2, -⟩ := cE_ok hJ he (hcE c hc)
    have := tE_rng hJ c c1 (by omega) _ q
    have := nM_rng hJ c1
    have := cP_end hc
    omega
  · unfold List.Nodup
    rw [List.pairwise_flatMap]
    refine ⟨fun c hc => ih c (hcE c (List.mem_reverse.1 hc)), ?_⟩
    rw [List.pairwise_reverse]
    refine List.Pairwise.imp_of_mem ?_ (cP_ord (σ := σ) (K := K) (b := e.1) (n := nM σ K e) (pPt σ e.1))
    intro a b ha hb hle x hx y hy hxy
    subst hxy
    obtain ⟨a1, a2, -⟩ := cE_ok hJ he (hcE a ha)
    obtain ⟨b1, b2, -⟩ := cE_ok hJ he (hcE b hb)
    have ra := tE_rng hJ a a1 (by omega) x hy
    have rb := tE_rng hJ b b1 (by omega) x hx
    have := nM_rng hJ b1
    omega
theorem kE_nd {σ : mm_S} {nb : Nat} {K : Nat → Nat} (hJ : jE σ nb K) : ∀ e, vE σ nb e → K e.1 ≤ 10 → (kE σ K e).Nodup := by
  apply eN_ind hJ (P := fun e => (kE σ K e).Nodup)
  intro e he hk ih
  rw [kE_eq hJ he hk, List.nodup_append]
  refine ⟨?_, ?_, fun x hx y hy hxy => ?_⟩
  · unfold List.Nodup
    rw [List.pairwise_flatMap]
    refine ⟨fun c hc => ih c hc, ?_⟩
    refine List.Pairwise.imp_of_mem ?_ (cE_ord (σ := σ) (K := K) (e := e))
    intro a b ha hb hle x hx y hy hxy
    subst hxy
    obtain ⟨a1, a2, -⟩ := cE_ok hJ he ha
    obtain ⟨b1, b2, -⟩ := cE_ok hJ he hb
    have ra := kE_rng hJ a a1 (by omega) x hx
    have rb := kE_rng hJ b b1 (by omega) x hy
    omega
  · by_cases z : σ.1 17 e.1 = -1
    · rw [show cHm σ e = [] by unfold cHm; rw [if_pos z]]
      exact List.nodup_nil
    · have ec : cHm σ e = [((σ.1 17 e.1).toNatClampNeg, e.2.1, 0, -1)] := by unfold cHm; rw [if_neg z]
      rw [ec, List.flatMap_singleton]
      obtain ⟨c1, c2, -⟩ := cE_ok hJ he (show ((σ.1 17 e.1).toNatClampNeg, e.2.1, 0, -1) ∈ cE σ K e by unfold cE; exact List.mem_append_left _ (by rw [ec]; exact List.mem_singleton.2 rfl))
      exact tE_nd hJ _ c1 (by omega)
  · subst hxy
    rw [List.mem_flatMap] at hx hy
    obtain ⟨c, hc, hx⟩ := hx
    obtain ⟨h, hh, hy⟩ := hy
    have hhE : h ∈ cE σ K e := by unfold cE; exact List.mem_append_left _ hh
    obtain ⟨a1, a2, -⟩ := cE_ok hJ he hc
    obtain ⟨b1, b2, -⟩ := cE_ok hJ he hhE
    have ra := kE_rng hJ c a1 (by omega) x hx
    have rb := tE_rng hJ h b1 (by omega) x hy
    have := nM_rng hJ b1
    have : c = h := cE_dis hJ he hc hhE ra.1 ra.2 (by omega) (by omega)
    subst this
    exact tE_kE hJ c a1 (by omega) x hy hx
