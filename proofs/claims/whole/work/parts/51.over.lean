/-! the end of a context -/
def mxv (h : Nat → Nat) : Nat → Nat × Nat
  | 0 => (0, 0)
  | n + 1 => if (mxv h n).1 < h n then (h n, n) else mxv h n
theorem mxv_f {h : Nat → Nat} : ∀ n, ((mxv h n).1 = 0 → (mxv h n).2 = 0 ∧ ∀ b, b < n → h b = 0) ∧ (¬ (mxv h n).1 = 0 → (mxv h n).2 < n ∧ h (mxv h n).2 = (mxv h n).1)
  | 0 => ⟨fun _ => ⟨rfl, fun b hb => absurd hb (Nat.not_lt_zero _)⟩, fun q => absurd rfl q⟩
  | n + 1 => by
    obtain ⟨i1, i2⟩ := mxv_f (h := h) n
    rw [mxv]
    by_cases q : (mxv h n).1 < h n
    · rw [if_pos q]
      exact ⟨fun z => by simp only at z; omega, fun _ => ⟨Nat.lt_succ_self _, rfl⟩⟩
    · rw [if_neg q]
      refine ⟨fun z => ⟨(i1 z).1, fun b hb => ?_⟩, fun z => ⟨Nat.lt_succ_of_lt (i2 z).1, (i2 z).2⟩⟩
      by_cases e : b = n
      · subst e; omega
      · exact (i1 z).2 b (by omega)
theorem mxv_le {h : Nat → Nat} {m n : Nat} (hm : ∀ b, b < n → h b ≤ m) : (mxv h n).1 ≤ m := by
  by_cases q : (mxv h n).1 = 0
  · omega
  · have := (mxv_f (h := h) n).2 q
    rw [← this.2]
    exact hm _ this.1
theorem mxv_2 {h : Nat → Nat} {n : Nat} (hn : 0 < n) : (mxv h n).2 < n := by
  by_cases q : (mxv h n).1 = 0
  · have := ((mxv_f (h := h) n).1 q).1
    omega
  · exact ((mxv_f (h := h) n).2 q).1
theorem mxv_ex {h : Nat → Nat} {n : Nat} : ∀ r, (∀ b, n ≤ b → b < n + r → h b = 0) → mxv h (n + r) = mxv h n
  | 0, _ => rfl
  | r + 1, hz => by
    rw [show n + (r + 1) = (n + r) + 1 by omega, mxv, if_neg (by rw [hz (n + r) (by omega) (by omega)]; omega)]
    exact mxv_ex r (fun b h1 h2 => hz b h1 (by omega))
theorem c_take_loop {σ : mm_S} {c : Nat} {h : Nat → Nat} (hc : c < 4) (hh : ∀ b, b < 16 → σ.1 (44 + c) b = nI (h b) ∧ h b ≤ 200) (d : Nat) : ∀ (r b f : Nat), b + r = 16 → 22 * (r + 1) ≤ f → mm_ex sc (cG d) 1 cp_45_l f cp_45_r2 [.ref 5, .int (nI c), .int (nI (mxv h b).1), .int (nI (mxv h b).2), .int (nI b)] [] σ = some (nI (mxv h 16).1, 0, (mm_w σ.1 (44 + c) (mxv h 16).2 0, σ.2)) := by
  obtain ⟨g1, g2⟩ := c_grid43 hc
  intro r
  induction r with
  | zero =>
    intro b f hb hf
    have e : b = 16 := by omega
    subst e
    have h2 := mxv_2 (h := h) (show 0 < 16 by decide)
    rw [show f = (f - 22) + 22 by omega, cp_45_h2, if_pos (show (16 : Int32) ≤ nI 16 by decide)]
    simp only [g1, g2, pu_bind, pu_T h2 (by decide), pu_cl h2 (by decide), if_true]
  | succ r ih =>
    intro b f hb hf
    have hT := pu_T (show b < 16 by omega) (by decide)
    have hC := pu_cl (show b < 16 by omega) (by decide)
    obtain ⟨e1, e2⟩ := hh b (by omega)
    have hm : (mxv h b).1 ≤ 200 := mxv_le (fun i hi => (hh i (by omega)).2)
    rw [show f = (f - 22) + 22 by omega, cp_45_h2, if_neg (show ¬ (16 : Int32) ≤ nI b from (nI_ge (by omega) (by decide) : ¬ nI 16 ≤ nI b))]
    simp only [g1, g2, pu_bind, hT, hC, if_true, e1, nI_1, nI_leI (show h b < 2 ^ 31 by omega) (show (mxv h b).1 < 2 ^ 31 by omega)]
    by_cases q : h b ≤ (mxv h b).1
    · rw [if_pos q]
      have := ih (b + 1) (f - 22 + 9) (by omega) (by omega)
      rw [mxv, if_neg (show ¬ (mxv h b).1 < h b by omega)] at this
      exact this
    · rw [if_neg q]
      have := ih (b + 1) (f - 22 + 0) (by omega) (by omega)
      rw [mxv, if_pos (show (mxv h b).1 < h b by omega)] at this
      exact this
theorem c_takeLatest {σ : mm_S} {c : Nat} {h : Nat → Nat} (hc : c < 4) (hh : ∀ b, b < 16 → σ.1 (44 + c) b = nI (h b) ∧ h b ≤ 200) (d : Nat) : cG (d + 2) 45 [.ref 5, .int (nI c)] σ = some (nI (mxv h 16).1, 0, (mm_w σ.1 (44 + c) (mxv h 16).2 0, σ.2)) := by
  rw [cp_45_g, c_isContext hc]
  simp only [pu_bind, pu_10, if_false]
  exact c_take_loop hc hh (d + 1) 16 0 _ rfl (by omega)
def aI (h : Nat → Nat) (n : Nat) : Int32 := if (mxv h n).1 = 0 then -1 else nI (mxv h n).2
set_option maxHeartbeats 1000000 in
theorem r_over_scan {τ : mm_S} {c nb : Nat} {h : Nat → Nat} (hB : rB τ nb) (hc : c < 4) (hh : ∀ b, b < nb → τ.1 33 (16 * c + b) = nI (h b) ∧ h b ≤ 200) {k t : Int32} {res : mm_R} (d : Nat) : ∀ (r b f : Nat), b + r = nb → 36 * (r + 1) ≤ f → (∀ g, f ≤ g + 36 * r → mm_ex sr (rG d) 1 rp_39_l g rp_39_r2 [.ref 0, .int (nI c), .int k, .int t, .int (aI h nb), .int (nI nb)] [] τ = some res) → mm_ex sr (rG d) 1 rp_39_l f rp_39_r2 [.ref 0, .int (nI c), .int k, .int t, .int (aI h b), .int (nI b)] [] τ = some res := by
  have hn := hB.2
  intro r
  induction r with
  | zero =>
    intro b f hb hf hk
    have e : b = nb := by omega
    subst e
    exact hk f (by omega)
  | succ r ih =>
    intro b f hb hf hk
    obtain ⟨e1, e2⟩ := hh b (by omega)
    have e16 : ∀ i, (16 : Int32) * nI c + nI i = nI (16 * c + i) := fun i => by rw [show (16 : Int32) = nI 16 by decide, pk_mul, nI_add]
    have hT := pu_T (show 16 * c + b < 64 by omega) (by decide)
    have hC := pu_cl (show 16 * c + b < 64 by omega) (by decide)
    rw [show f = (f - 36) + 36 by omega, rp_39_h2, hB.1, if_neg (nI_ge (show b < nb by omega) (by omega))]
    simp only [e16, hT, hC, if_true, e1, nI_1]
    by_cases q0 : h b = 0
    · rw [if_pos (show nI (h b) ≤ 0 by rw [q0]; decide)]
      have em : mxv h (b + 1) = mxv h b := by rw [mxv, if_neg (by omega)]
      have := ih (b + 1) (f - 36 + 21) (by omega) (by omega) (fun g hg => hk g (by omega))
      unfold aI at this ⊢
      rw [em] at this
      exact this
    · rw [if_neg (nI_nle (by omega) (by omega))]
      by_cases q1 : (mxv h b).1 = 0
      · have ea : aI h b = -1 := by unfold aI; rw [if_pos q1]
        have em : mxv h (b + 1) = (h b, b) := by rw [mxv, if_pos (by omega)]
        have ea' : aI h (b + 1) = nI b := by unfold aI; rw [em, if_neg q0]
        rw [ea, if_pos (by decide)]
        have := ih (b + 1) (f - 36 + 17) (by omega) (by omega) (fun g hg => hk g (by omega))
        rw [ea'] at this
        exact this
      · obtain ⟨f1, f2⟩ := (mxv_f (h := h) b).2 q1
        have ea : aI h b = nI (mxv h b).2 := by unfold aI; rw [if_neg q1]
        have hT2 := pu_T (show 16 * c + (mxv h b).2 < 64 by omega) (by decide)
        have hC2 := pu_cl (show 16 * c + (mxv h b).2 < 64 by omega) (by decide)
        have e3 := hh (mxv h b).2 (by omega)
        rw [ea, if_neg (nI_pos (by omega))]
        simp only [e16, hT2, hC2, if_true, e3.1, f2, nI_leI (show h b < 2 ^ 31 by omega) (show (mxv h b).1 < 2 ^ 31 by omega)]
        by_cases q2 : h b ≤ (mxv h b).1
        · rw [if_pos q2]
          have em : mxv h (b + 1) = mxv h b := by rw [mxv, if_neg (by omega)]
          have ea' : aI h (b + 1) = nI (mxv h b).2 := by unfold aI; rw [em, if_neg q1]
          have := ih (b + 1) (f - 36 + 2) (by omega) (by omega) (fun g hg => hk g (by omega))
          rw [ea'] at this
          exact this
        · rw [if_neg q2]
          have em : mxv h (b + 1) = (h b, b) := by rw [mxv, if_pos (by omega)]
          have ea' : aI h (b + 1) = nI b := by unfold aI; rw [em, if_neg q0]
          have := ih (b + 1) (f - 36 + 0) (by omega) (by omega) (fun g hg => hk g (by omega))
          rw [ea'] at this
          exact this
theorem pCt_00 {p : Nat → Bool} : ∀ {n : Nat}, (∀ i, i < n → p i = false) → pCt p n = 0
  | 0, _ => rfl
  | n + 1, h => by rw [pCt, pCt_00 (fun i hi => h i (by omega)), h n (by omega)]; rfl
theorem pCt_z {p : Nat → Bool} : ∀ {n : Nat}, pCt p n = 0 → ∀ i, i < n → p i = false
  | 0, _, i, hi => by omega
  | n + 1, h, i, hi => by
    rw [pCt] at h
    by_cases e : i = n
    · subst e
      cases hp : p i with
      | false => rfl
      | true => rw [hp] at h; simp at h
    · exact pCt_z (n := n) (by omega) i (by omega)
theorem mm_w_id {f : Nat → Nat → Int32} {k j : Nat} {v : Int32} (h : f k j = v) : mm_w f k j v = f := by
  funext k'
  by_cases e : k' = k
  · subst e
    rw [mm_w_eq]
    exact uq_id h
  · rw [mm_w_ne e]
theorem jU_0 {σ : mm_S} {c i : Nat} (hc : c < 4) (h : jU σ) : jU (mm_w σ.1 (44 + c) i 0, σ.2) := by
  intro c1 c2 b h1 h2 h3 h4 h5
  have key : ∀ k, mm_w σ.1 (44 + c) i 0 k b = 0 ∨ mm_w σ.1 (44 + c) i 0 k b = σ.1 k b := by
    intro k
    by_cases e : k = 44 + c
    · subst e
      by_cases e2 : b = i
      · subst e2; exact Or.inl mm_w_at
      · exact Or.inr (mm_w_at2 e2)
    · exact Or.inr (mm_w_off e)
  have h5' : ¬ mm_w σ.1 (44 + c) i 0 (44 + c1) b = 0 := h5
  show ¬ mm_w σ.1 (44 + c) i 0 (44 + c1) b = mm_w σ.1 (44 + c) i 0 (44 + c2) b
  have k1 := (key (44 + c1)).resolve_left h5'
  rw [k1] at h5' ⊢
  rcases key (44 + c2) with k2 | k2
  · rw [k2]; exact h5'
  · rw [k2]; exact h c1 c2 b h1 h2 h3 h4 h5'
