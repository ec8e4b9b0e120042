/-! how the numbers of one making lie: an entry is (bean, first number, owner, point) -/
abbrev mE := Nat × Nat × Nat × Int32
def jE (σ : mm_S) (nb : Nat) (K : Nat → Nat) : Prop := nb ≤ 16 ∧ ∀ b, b < nb → pE (σ.1 16) (σ.1 17) b = true → (σ.1 17 b = -1 ∨ ∃ k, k < nb ∧ σ.1 17 b = nI k ∧ pE (σ.1 16) (σ.1 17) k = true ∧ σ.1 17 k = -1 ∧ σ.1 15 k = 0) ∧ pPt σ b ≤ 3 ∧ σ.1 19 b = nI (pPt σ b) ∧ (∀ p, p < pPt σ b → ∃ y, y < nb ∧ σ.1 (29 + p) b = nI y ∧ pE (σ.1 16) (σ.1 17) y = true) ∧ K b = 1 + pHK σ K b + pDK σ K b
/-- what the parts before point q take -/
def nX (σ : mm_S) (K : Nat → Nat) (b q : Nat) : Nat := pSum (fun p => if σ.1 15 (pTg σ b p) = 0 then K (pTg σ b p) else 0) q
def nM (σ : mm_S) (K : Nat → Nat) (e : mE) : Nat := e.2.1 + pHK σ K e.1
def cP (σ : mm_S) (K : Nat → Nat) (b n : Nat) : Nat → List mE
  | 0 => []
  | q + 1 => cP σ K b n q ++ (if σ.1 15 (pTg σ b q) = 0 then [(pTg σ b q, n + 1 + nX σ K b q, n, nI q)] else [])
def cHm (σ : mm_S) (e : mE) : List mE := if σ.1 17 e.1 = -1 then [] else [((σ.1 17 e.1).toNatClampNeg, e.2.1, 0, -1)]
def cE (σ : mm_S) (K : Nat → Nat) (e : mE) : List mE := cHm σ e ++ cP σ K e.1 (nM σ K e) (pPt σ e.1)
def en (σ : mm_S) (K : Nat → Nat) : Nat → mE → List mE
  | 0, _ => []
  | k + 1, e => e :: (cE σ K e).flatMap (en σ K k)
def vE (σ : mm_S) (nb : Nat) (e : mE) : Prop := e.1 < nb ∧ pE (σ.1 16) (σ.1 17) e.1 = true
theorem nX_le {σ : mm_S} {K : Nat → Nat} {b : Nat} : ∀ {q r : Nat}, nX σ K b q ≤ nX σ K b (q + r)
  | q, 0 => Nat.le_refl _
  | q, r + 1 => by
    have := nX_le (σ := σ) (K := K) (b := b) (q := q) (r := r)
    rw [show q + (r + 1) = (q + r) + 1 by omega]
    unfold nX at *
    rw [pSum]
    omega
theorem cP_mem {σ : mm_S} {K : Nat → Nat} {b n : Nat} {c : mE} : ∀ {q : Nat}, c ∈ cP σ K b n q ↔ ∃ p, p < q ∧ σ.1 15 (pTg σ b p) = 0 ∧ c = (pTg σ b p, n + 1 + nX σ K b p, n, nI p)
  | 0 => by simp [cP]
  | q + 1 => by
    rw [cP, List.mem_append, cP_mem (q := q)]
    constructor
    · rintro (⟨p, h1, h2, h3⟩ | h)
      · exact ⟨p, by omega, h2, h3⟩
      · by_cases z : σ.1 15 (pTg σ b q) = 0
        · rw [if_pos z, List.mem_singleton] at h
          exact ⟨q, by omega, z, h⟩
        · rw [if_neg z] at h
          exact absurd h (List.not_mem_nil)
    · rintro ⟨p, h1, h2, h3⟩
      by_cases z : p = q
      · subst z
        right
        rw [if_pos h2, h3]
        exact List.mem_singleton.2 rfl
      · exact Or.inl ⟨p, by omega, h2, h3⟩
theorem cHm_mem {σ : mm_S} {e c : mE} : c ∈ cHm σ e ↔ ¬ σ.1 17 e.1 = -1 ∧ c = ((σ.1 17 e.1).toNatClampNeg, e.2.1, 0, -1) := by
  unfold cHm
  split
  · next h => simp [h]
  · next h => simp [h]
/-- what a child of an entry is -/
theorem cE_ok {σ : mm_S} {nb : Nat} {K : Nat → Nat} (hJ : jE σ nb K) {e c : mE} (he : vE σ nb e) (hc : c ∈ cE σ K e) : vE σ nb c ∧ K c.1 < K e.1 ∧ e.2.1 ≤ c.2.1 ∧ c.2.1 + K c.1 ≤ e.2.1 + K e.1 ∧ 1 ≤ K c.1 := by
  obtain ⟨hn, hJ⟩ := hJ
  obtain ⟨j1, j2, j3, j4, j5⟩ := hJ e.1 he.1 he.2
  have kp : ∀ b, b < nb → pE (σ.1 16) (σ.1 17) b = true → 1 ≤ K b := fun b hb hE => by rw [(hJ b hb hE).2.2.2.2]; omega
  unfold cE at hc
  rcases List.mem_append.1 hc with h | h
  · obtain ⟨h1, rfl⟩ := cHm_mem.1 h
    obtain ⟨k, k1, k2, k3, k4⟩ := j1.resolve_left h1
    have ek : (σ.1 17 e.1).toNatClampNeg = k := by rw [k2, nI_clamp (by omega)]
    have eh : pHK σ K e.1 = K k := by unfold pHK; rw [if_neg h1, ek]
    simp only [ek]
    exact ⟨⟨k1, k3⟩, by omega, by omega, by omega, kp k k1 k3⟩
  · obtain ⟨p, p1, p2, rfl⟩ := cP_mem.1 h
    obtain ⟨y, y1, y2, y3⟩ := j4 p p1
    have ey := pTg_e (show y < 16 by omega) y2
    have hd : nX σ K e.1 (p + 1) = nX σ K e.1 p + K y := by unfold nX; rw [pSum, ey, if_pos (by rw [← ey]; exact p2)]
    have hle := nX_le (σ := σ) (K := K) (b := e.1) (q := p + 1) (r := pPt σ e.1 - (p + 1))
    rw [show p + 1 + (pPt σ e.1 - (p + 1)) = pPt σ e.1 by omega] at hle
    have hdk : pDK σ K e.1 = nX σ K e.1 (pPt σ e.1) := rfl
    simp only [ey]
    unfold nM
    exact ⟨⟨y1, y3⟩, by omega, by omega, by omega, kp y y1 y3⟩
theorem fm_congr {α β : Type} {f g : α → List β} : ∀ {l : List α}, (∀ c, c ∈ l → f c = g c) → l.flatMap f = l.flatMap g
  | [], _ => rfl
  | a :: l, h => by rw [List.flatMap_cons, List.flatMap_cons, h a (List.mem_cons_self), fm_congr (fun c hc => h c (List.mem_cons_of_mem _ hc))]
theorem en_fuel {σ : mm_S} {nb : Nat} {K : Nat → Nat} (hJ : jE σ nb K) : ∀ k k' e, vE σ nb e → K e.1 ≤ k → K e.1 ≤ k' → en σ K k e = en σ K k' e
  | 0, k', e, he, h, _ => by
    have := (hJ.2 e.1 he.1 he.2).2.2.2.2
    omega
  | k + 1, 0, e, he, _, h => by
    have := (hJ.2 e.1 he.1 he.2).2.2.2.2
    omega
  | k + 1, k' + 1, e, he, h, h' => by
    rw [en, en]
    congr 1
    refine fm_congr (fun c hc => ?_)
    obtain ⟨c1, c2, -⟩ := cE_ok hJ he hc
    exact en_fuel hJ k k' c c1 (by omega) (by omega)
def eN (σ : mm_S) (K : Nat → Nat) (e : mE) : List mE := en σ K 11 e
theorem eN_eq {σ : mm_S} {nb : Nat} {K : Nat → Nat} (hJ : jE σ nb K) {e : mE} (he : vE σ nb e) (hk : K e.1 ≤ 10) : eN σ K e = e :: (cE σ K e).flatMap (eN σ K) := by
  unfold eN
  rw [show en σ K 11 e = e :: (cE σ K e).flatMap (en σ K 10) from rfl]
  congr 1
  refine fm_congr (fun c hc => ?_)
  obtain ⟨c1, c2, -⟩ := cE_ok hJ he hc
  exact en_fuel hJ 10 11 c c1 (by omega) (by omega)
/-- induction over entries -/
theorem eN_ind {σ : mm_S} {nb : Nat} {K : Nat → Nat} (hJ : jE σ nb K) {P : mE → Prop} (h : ∀ e, vE σ nb e → K e.1 ≤ 10 → (∀ c, c ∈ cE σ K e → P c) → P e) : ∀ e, vE σ nb e → K e.1 ≤ 10 → P e := by
  have key : ∀ k e, vE σ nb e → K e.1 ≤ 10 → K e.1 ≤ k → P e := by
    intro k
    induction k with
    | zero =>
      intro e he _ h0
      have := (hJ.2 e.1 he.1 he.2).2.2.2.2
      omega
    | succ k ih =>
      intro e he h10 hk
      refine h e he h10 (fun c hc => ?_)
      obtain ⟨c1, c2, -⟩ := cE_ok hJ he hc
      exact ih c c1 (by omega) (by omega)
  intro e he h10
  exact key (K e.1) e he h10 (Nat.le_refl _)
theorem eN_rng {σ : mm_S} {nb : Nat} {K : Nat → Nat} (hJ : jE σ nb K) : ∀ e, vE σ nb e → K e.1 ≤ 10 → ∀ c, c ∈ eN σ K e → vE σ nb c ∧ e.2.1 ≤ c.2.1 ∧ c.2.1 + K c.1 ≤ e.2.1 + K e.1 := by
  apply eN_ind hJ (P := fun e => ∀ c, c ∈ eN σ K e → vE σ nb c ∧ e.2.1 ≤ c.2.1 ∧ c.2.1 + K c.1 ≤ e.2.1 + K e.1)
  intro e he hk ih c hc
  rw [eN_eq hJ he hk, List.mem_cons, List.mem_flatMap] at hc
  rcases hc with rfl | ⟨a, ha, hc⟩
  · exact ⟨he, by omega, by omega⟩
  · obtain ⟨c1, c2, c3, c4, c5⟩ := cE_ok hJ he ha
    obtain ⟨d1, d2, d3⟩ := ih a ha c hc
    exact ⟨d1, by omega, by omega⟩
theorem eN_self {σ : mm_S} {nb : Nat} {K : Nat → Nat} (hJ : jE σ nb K) {e : mE} (he : vE σ nb e) (hk : K e.1 ≤ 10) : e ∈ eN σ K e := by
  rw [eN_eq hJ he hk]
  exact List.mem_cons_self
theorem eN_ch {σ : mm_S} {nb : Nat} {K : Nat → Nat} (hJ : jE σ nb K) : ∀ e, vE σ nb e → K e.1 ≤ 10 → ∀ a, a ∈ eN σ K e → ∀ c, c ∈ cE σ K a → c ∈ eN σ K e := by
  apply eN_ind hJ (P := fun e => ∀ a, a ∈ eN σ K e → ∀ c, c ∈ cE σ K a → c ∈ eN σ K e)
  intro e he hk ih a ha c hc
  rw [eN_eq hJ he hk, List.mem_cons, List.mem_flatMap] at ha ⊢
  right
  rcases ha with rfl | ⟨w, hw, ha⟩
  · obtain ⟨c1, c2, -⟩ := cE_ok hJ he hc
    exact ⟨c, hc, eN_self hJ c1 (by omega)⟩
  · exact ⟨w, hw, ih w hw a ha c hc⟩
/-- the numbers of the entries are those of the block, each once -/
theorem eN_perm {σ : mm_S} {nb : Nat} {K : Nat → Nat} (hJ : jE σ nb K) : ∀ e, vE σ nb e → K e.1 ≤ 10 → ((eN σ K e).map (nM σ K)).Perm (List.range' e.2.1 (K e.1)) := by
  apply eN_ind hJ (P := fun e => ((eN σ K e).map (nM σ K)).Perm (List.range' e.2.1 (K e.1)))
  intro e he hk ih
  obtain ⟨j1, j2, j3, j4, j5⟩ := hJ.2 e.1 he.1 he.2
  have hdk : pDK σ K e.1 = nX σ K e.1 (pPt σ e.1) := rfl
  have home : (((cHm σ e).flatMap (eN σ K)).map (nM σ K)).Perm (List.range' e.2.1 (pHK σ K e.1)) := by
    by_cases h : σ.1 17 e.1 = -1
    · rw [show cHm σ e = [] by unfold cHm; rw [if_pos h], show pHK σ K e.1 = 0 by unfold pHK; rw [if_pos h]]
      exact List.Perm.refl _
    · rw [show cHm σ e = [((σ.1 17 e.1).toNatClampNeg, e.2.1, 0, -1)] by unfold cHm; rw [if_neg h], show pHK σ K e.1 = K (σ.1 17 e.1).toNatClampNeg by unfold pHK; rw [if_neg h], List.flatMap_singleton]
      exact ih _ (by unfold cE; exact List.mem_append_left _ (cHm_mem.2 ⟨h, rfl⟩))
  have parts : ∀ q, q ≤ pPt σ e.1 → (((cP σ K e.1 (nM σ K e) q).flatMap (eN σ K)).map (nM σ K)).Perm (List.range' (nM σ K e + 1) (nX σ K e.1 q)) := by
    intro q
    induction q with
    | zero => intro _; exact List.Perm.refl _
    | succ q ihq =>
      intro hq
      have hh := ihq (by omega)
      have es : nX σ K e.1 (q + 1) = nX σ K e.1 q + (if σ.1 15 (pTg σ e.1 q) = 0 then K (pTg σ e.1 q) else 0) := by unfold nX; rw [pSum]
      rw [cP, List.flatMap_append, List.map_append, es]
      by_cases z : σ.1 15 (pTg σ e.1 q) = 0
      · rw [if_pos z, if_pos z, List.flatMap_singleton, ← List.range'_append_1]
        refine List.Perm.append hh ?_
        exact ih _ (by unfold cE; exact List.mem_append_right _ (cP_mem.2 ⟨q, by omega, z, rfl⟩))
      · rw [if_neg z, if_neg z, Nat.add_zero, List.flatMap_nil, List.map_nil, List.append_nil]
        exact hh
  rw [eN_eq hJ he hk, List.map_cons]
  unfold cE
  rw [List.flatMap_append, List.map_append, j5, hdk, show 1 + pHK σ K e.1 + nX σ K e.1 (pPt σ e.1) = pHK σ K e.1 + (1 + nX σ K e.1 (pPt σ e.1)) by omega, ← List.range'_append_1, ← List.range'_append_1]
  have pm := List.Perm.append home (parts (pPt σ e.1) (Nat.le_refl _))
  have e1 : List.range' (e.2.1 + pHK σ K e.1) 1 = [nM σ K e] := rfl
  rw [e1]
  refine (List.Perm.cons _ pm).trans ?_
  exact List.perm_middle.symm
