def rw4 (σ0 : mm_S) (K : Nat → Nat) (τ : mm_S) (c : mE) : Prop := τ.1 20 (nM σ0 K c) = nI c.1 ∧ τ.1 21 (nM σ0 K c) = nI c.2.2.1 ∧ τ.1 22 (nM σ0 K c) = c.2.2.2 ∧ τ.1 23 (nM σ0 K c) = 1
def sQ (σ0 : mm_S) (K : Nat → Nat) (τ τ' : mm_S) (Q : List mE) (i : Nat) : Prop := qS σ0 τ' Q ∧ (∀ k, k ≠ 0 → (k < 20 ∨ (23 < k ∧ k < 26) ∨ 30 < k) → τ'.1 k = τ.1 k) ∧ (∀ j, j ≠ 37 → τ'.1 0 j = τ.1 0 j) ∧ (∀ c, c ∈ Q.take i → rw4 σ0 K τ' c) ∧ (∀ k, 20 ≤ k → k ≤ 23 → ∀ x, (∀ c, c ∈ Q.take i → nM σ0 K c ≠ x) → τ'.1 k x = τ.1 k x)
theorem fm_len {σ0 : mm_S} {nb : Nat} {K : Nat → Nat} (hJ : jE σ0 nb K) : ∀ {l : List mE}, (∀ c, c ∈ l → vE σ0 nb c ∧ K c.1 ≤ 10) → l.length ≤ (l.flatMap (eN σ0 K)).length
  | [], _ => by simp
  | a :: l, h => by
    have ih := fm_len hJ (l := l) (fun c hc => h c (List.mem_cons_of_mem _ hc))
    obtain ⟨h1, h2⟩ := h a (List.mem_cons_self)
    have l1 := eN_len hJ h1 h2
    have := (hJ.2 a.1 h1.1 h1.2).2.2.2.2
    rw [List.flatMap_cons, List.length_append, List.length_cons]
    omega
set_option maxHeartbeats 2000000 in
theorem r_queue {σ0 τ : mm_S} {nb : Nat} {K : Nat → Nat} (hJ : jE σ0 nb K) (hg : gS σ0 τ K nb) {e : mE} (he : vE σ0 nb e) (hk : K e.1 ≤ 10) (hU : e.2.1 + K e.1 ≤ 201) {x1 x2 : Int32} (d : Nat) : ∀ (r i f : Nat) (Q : List mE) (τ' : mm_S), i + r = K e.1 → 10 * (r + 1) ≤ f → sQ σ0 K τ τ' Q i → (∀ c, c ∈ Q → vE σ0 nb c ∧ K c.1 ≤ 10) → ((Q.take i) ++ (Q.drop i).flatMap (eN σ0 K)).Perm (eN σ0 K e) → i ≤ Q.length → ∃ (Q' : List mE) (τ'' : mm_S) (g : Nat), f ≤ g + 10 * (r + 1) ∧ sQ σ0 K τ τ'' Q' Q'.length ∧ Q'.Perm (eN σ0 K e) ∧ ∀ res, mm_ex sr (rG (d + 2)) 1 rp_36_l g rp_36_r5 [.ref 0, .int x1, .int x2, .int (nI 0), .null, .null] [] τ'' = some res → mm_ex sr (rG (d + 2)) 1 rp_36_l f rp_36_r3 [.ref 0, .int x1, .int x2, .int (nI i), .null, .null] [] τ' = some res := by
  have tl := eN_len hJ he hk
  intro r
  induction r with
  | zero =>
    intro i f Q τ' hi hf hs hv hp hiQ
    have hlen := hp.length_eq
    rw [List.length_append, List.length_take, tl] at hlen
    have hfl := fm_len hJ (l := Q.drop i) (fun c hc => hv c (List.mem_of_mem_drop hc))
    rw [List.length_drop] at hfl
    have hQ : Q.length = i := by omega
    have hd : Q.drop i = [] := List.drop_eq_nil_of_le (by omega)
    have ht : Q.take i = Q := List.take_of_length_le (by omega)
    rw [hd, ht, List.flatMap_nil, List.append_nil] at hp
    refine ⟨Q, τ', f - 10 + 4, by omega, by rw [hQ]; exact hs, hp, fun res h => ?_⟩
    rw [show f = (f - 10) + 10 by omega, rp_36_h3, hs.1.1, if_pos (nI_le (by omega) (by omega))]
    exact h
  | succ r ih =>
    intro i f Q τ' hi hf hs hv hp hiQ
    have hlen := hp.length_eq
    rw [List.length_append, List.length_take, tl] at hlen
    have hfl := fm_len hJ (l := Q.drop i) (fun c hc => hv c (List.mem_of_mem_drop hc))
    rw [List.length_drop] at hfl
    have hiL : i < Q.length := by
      by_cases z : i < Q.length
      · exact z
      · have hd : Q.drop i = [] := List.drop_eq_nil_of_le (by omega)
        rw [hd, List.flatMap_nil, List.length_nil] at hlen
        omega
    obtain ⟨a, ha⟩ : ∃ a, Q[i]? = some a := ⟨Q[i], List.getElem?_eq_getElem hiL⟩
    have hdrop : Q.drop i = a :: Q.drop (i + 1) := by
      rw [List.drop_eq_getElem_cons hiL]
      congr 1
      rw [List.getElem?_eq_getElem hiL] at ha
      exact Option.some.inj ha
    have haQ : a ∈ Q := List.mem_of_getElem? ha
    obtain ⟨va, ka⟩ := hv a haQ
    -- the numbers are all different
    have hnd : (((Q.take i) ++ (Q.drop i).flatMap (eN σ0 K)).map (nM σ0 K)).Nodup := (hp.map (nM σ0 K)).nodup_iff.2 (eN_nd hJ he hk)
    have hne : ∀ c, c ∈ Q.take i → nM σ0 K c ≠ nM σ0 K a := by
      intro c hc
      rw [List.map_append, List.nodup_append] at hnd
      refine hnd.2.2 (nM σ0 K c) (List.mem_map_of_mem hc) (nM σ0 K a) (List.mem_map_of_mem ?_)
      rw [hdrop, List.flatMap_cons]
      exact List.mem_append_left _ (eN_self hJ va ka)
    have haE : a ∈ eN σ0 K e := by
      refine hp.mem_iff.1 (List.mem_append_right _ ?_)
      rw [hdrop, List.flatMap_cons]
      exact List.mem_append_left _ (eN_self hJ va ka)
    have har := eN_rng hJ e he hk a haE
    have hnr := nM_rng hJ va
    have hvc : ∀ c, c ∈ cE σ0 K a → vE σ0 nb c ∧ K c.1 ≤ 10 := fun c hc => by
      obtain ⟨c1, c2, -⟩ := cE_ok hJ va hc
      exact ⟨c1, by omega⟩
    have hcl : (cE σ0 K a).length + 1 ≤ K a.1 := by
      have := fm_len hJ hvc
      have := eN_len hJ va ka
      rw [eN_eq hJ va ka, List.length_cons] at this
      omega
    have hlQ : Q.length + (cE σ0 K a).length ≤ 16 := by
      have h1 := eN_len hJ va ka
      rw [hdrop, List.flatMap_cons, List.length_append, h1] at hlen
      have h2 := fm_len hJ (l := Q.drop (i + 1)) (fun c hc => hv c (List.mem_of_mem_drop hc))
      rw [List.length_drop] at h2
      omega
    have hgs : gS σ0 τ' K nb := gS_c (fun k x y => hs.2.1 k (by omega) (Or.inl y)) hg
    obtain ⟨τ1, s1, s2, s3, s4, s5, s6, s7, s8⟩ := r_settle hJ hgs hs.1 ha va ka hlQ (by omega) d
    have htk : (Q ++ cE σ0 K a).take (i + 1) = Q.take i ++ [a] := by
      rw [List.take_append_of_le_length (by omega), List.take_succ, ha]
      rfl
    have hdp : (Q ++ cE σ0 K a).drop (i + 1) = Q.drop (i + 1) ++ cE σ0 K a := List.drop_append_of_le_length (by omega)
    have hs1 : sQ σ0 K τ τ1 (Q ++ cE σ0 K a) (i + 1) := by
      refine ⟨s3, fun k x y => (s1 k x y).trans (hs.2.1 k x y), fun j hj => (s2 j hj).trans (hs.2.2.1 j hj), fun c hc => ?_, fun k k1 k2 x hx => ?_⟩
      · rw [htk, List.mem_append, List.mem_singleton] at hc
        unfold rw4
        rw [s4, s5, s6, s7]
        rcases hc with hc | rfl
        · have := hne c hc
          rw [uq_ne this, uq_ne this, uq_ne this, uq_ne this]
          exact hs.2.2.2.1 c hc
        · rw [uq_at, uq_at, uq_at, uq_at]
          exact ⟨rfl, rfl, rfl, rfl⟩
      · have hxa : x ≠ nM σ0 K a := fun q => hx a (by rw [htk]; exact List.mem_append_right _ (List.mem_singleton.2 rfl)) q.symm
        have hx' : ∀ c, c ∈ Q.take i → nM σ0 K c ≠ x := fun c hc => hx c (by rw [htk]; exact List.mem_append_left _ hc)
        rw [← hs.2.2.2.2 k k1 k2 x hx']
        rcases (show k = 20 ∨ k = 21 ∨ k = 22 ∨ k = 23 by omega) with rfl | rfl | rfl | rfl
        · rw [s4, uq_ne hxa]
        · rw [s5, uq_ne hxa]
        · rw [s6, uq_ne hxa]
        · rw [s7, uq_ne hxa]
    have hp1 : (((Q ++ cE σ0 K a).take (i + 1)) ++ ((Q ++ cE σ0 K a).drop (i + 1)).flatMap (eN σ0 K)).Perm (eN σ0 K e) := by
      refine List.Perm.trans ?_ hp
      rw [htk, hdp, hdrop, List.flatMap_append, List.flatMap_cons, eN_eq hJ va ka, List.append_assoc]
      refine List.Perm.append_left _ ?_
      rw [List.singleton_append, List.cons_append]
      exact List.Perm.cons _ List.perm_append_comm
    have hv1 : ∀ c, c ∈ Q ++ cE σ0 K a → vE σ0 nb c ∧ K c.1 ≤ 10 := fun c hc => (List.mem_append.1 hc).elim (hv c) (hvc c)
    obtain ⟨Q', τ'', g, q1, q2, q3, q4⟩ := ih (i + 1) (f - 10 + 0) (Q ++ cE σ0 K a) τ1 (by omega) (by omega) hs1 hv1 hp1 (by rw [List.length_append]; omega)
    refine ⟨Q', τ'', g, by omega, q2, q3, fun res h => ?_⟩
    rw [show f = (f - 10) + 10 by omega, rp_36_h3, hs.1.1, if_neg (nI_ge hiL (by omega)), s8]
    simp only [pu_bnd, nI_1]
    exact q4 res h
