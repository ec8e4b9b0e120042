/-! who shares a name -/
theorem pu_bnd {α β : Type} {a : α} {f : α → Option β} : (some a).bind f = f a := Eq.trans (Eq.refl _) (Eq.refl _)
def qN (ch ho mk : Nat → Int32) (x b : Nat) : Bool := pE ch ho b && decide (mk b &&& 7 = nI x)
def cN (ch ho mk : Nat → Int32) (nb x : Nat) : Nat := pCt (pBits (pNa (qN ch ho mk x) (pRk ch ho) nb) nb).testBit 16
def pNs (ch ho mk : Nat → Int32) (nb : Nat) : Nat → Bool
  | 0 => false
  | x + 1 => pNs ch ho mk nb x || decide (1 < cN ch ho mk nb (x + 1))
theorem pNs_y {ch ho mk : Nat → Int32} {nb x : Nat} (h1 : 1 ≤ x) (h : 1 < cN ch ho mk nb x) : ∀ n, x ≤ n → pNs ch ho mk nb n = true
  | 0, hn => by omega
  | n + 1, hn => by
    rw [pNs]
    by_cases e : x = n + 1
    · subst e; simp [h]
    · rw [pNs_y h1 h n (by omega), Bool.true_or]
theorem c_names_in {σ : mm_S} {n x : Nat} (hB : cB σ n) (hH : cHo σ n) {res : mm_R} (d : Nat) : ∀ (r b f : Nat), b + r = n → 24 * (r + 1) ≤ f → (∀ g, f ≤ g + 24 * (r + 1) → cN (σ.1 16) (σ.1 17) (σ.1 14) n x ≤ 1 → mm_ex sc (cG (d + 3)) 3 cp_68_l g cp_68_r1 [.ref 3, .int (nI (x + 1)), .null, .null] [] σ = some res) → (¬ cN (σ.1 16) (σ.1 17) (σ.1 14) n x ≤ 1 → res = (1, 0, σ)) → mm_ex sc (cG (d + 3)) 3 cp_68_l f cp_68_r2 [.ref 3, .int (nI x), .int (nI (pBits (qN (σ.1 16) (σ.1 17) (σ.1 14) x) b)), .int (nI b)] [] σ = some res := by
  have hn := hB.2
  intro r
  induction r with
  | zero =>
    intro b f hb hf h1 h2
    have e : b = n := by omega
    subst e
    have lt := pBits_lt (pNa (qN (σ.1 16) (σ.1 17) (σ.1 14) x) (pRk (σ.1 16) (σ.1 17)) b) b
    have l16 : 2 ^ b ≤ 2 ^ 16 := Nat.pow_le_pow_right (by decide) hn
    have c16 := pCt_le (pBits (pNa (qN (σ.1 16) (σ.1 17) (σ.1 14) x) (pRk (σ.1 16) (σ.1 17)) b) b).testBit 16
    rw [show f = (f - 24) + 24 by omega, cp_68_h2, show d + 3 = (d + 2) + 1 from rfl, c_size, hB.1]
    simp only [pu_bind]
    rw [if_pos (nI_le (Nat.le_refl _) (by omega)), show d + 2 + 1 = d + 3 from rfl, c_narrow hB hH]
    simp only [pu_bnd]
    rw [show d + 3 = (d + 2) + 1 from rfl, c_bitCount (Nat.lt_of_lt_of_le lt l16)]
    simp only [pu_bind]
    unfold cN at h1 h2
    generalize pCt (pBits (pNa (qN (σ.1 16) (σ.1 17) (σ.1 14) x) (pRk (σ.1 16) (σ.1 17)) b) b).testBit 16 = C at h1 h2 c16 ⊢
    have c3 : (nI C ≤ (1 : Int32)) ↔ C ≤ 1 := (nI_leI (by omega) (by decide) : nI C ≤ nI 1 ↔ C ≤ 1)
    by_cases q : C ≤ 1
    · rw [if_pos (c3.2 q), nI_1]
      exact mm_ref _ _ [.ref 3, .int (nI (x + 1)), .null, .null] _ _ _ (by simp [mm_rf]) (h1 _ (by omega) q)
    · rw [if_neg (fun z => q (c3.1 z)), h2 q]
  | succ r ih =>
    intro b f hb hf h1 h2
    have hb' : b < n := by omega
    have no : ∀ c, c ≤ 24 → qN (σ.1 16) (σ.1 17) (σ.1 14) x b = false → mm_ex sc (cG (d + 3)) 3 cp_68_l (f - 24 + c) cp_68_r2 [.ref 3, .int (nI x), .int (nI (pBits (qN (σ.1 16) (σ.1 17) (σ.1 14) x) b)), .int (nI (b + 1))] [] σ = some res := by
      intro c hc hf2
      have := ih (b + 1) (f - 24 + c) (by omega) (by omega) (fun g hg => h1 g (by omega)) h2
      rw [pBits_no (by rw [hf2]; decide)] at this
      exact this
    rw [show f = (f - 24) + 24 by omega, cp_68_h2, show d + 3 = (d + 2) + 1 from rfl, c_size, hB.1]
    simp only [pu_bind]
    rw [if_neg (nI_ge hb' (by omega)), show d + 2 + 1 = (d + 1) + 2 from rfl, c_isEnabled hB hH hb']
    simp only [pu_bind, nI_1]
    cases hE : pE (σ.1 16) (σ.1 17) b with
    | false =>
      simp only [Bool.false_eq_true, if_false, if_true]
      exact no 12 (by omega) (by simp [qN, hE])
    | true =>
      simp only [if_true, pu_10, if_false]
      rw [c_nameOf hB hb']
      simp only [pu_bind]
      by_cases q : σ.1 14 b &&& 7 = nI x
      · rw [if_pos q, pu_set (by omega) (by simp [qN, hE, q])]
        exact ih (b + 1) _ (by omega) (by omega) (fun g hg => h1 g (by omega)) h2
      · rw [if_neg q]
        exact no 6 (by omega) (by simp [qN, q])
theorem c_names {σ : mm_S} {n : Nat} (hB : cB σ n) (hH : cHo σ n) (d : Nat) : cG (d + 4) 68 [.ref 3] σ = some (pb (pNs (σ.1 16) (σ.1 17) (σ.1 14) n 7), 0, σ) := by
  have hn := hB.2
  have key : ∀ (r x f : Nat), x + r = 7 → 600 * (r + 1) ≤ f → pNs (σ.1 16) (σ.1 17) (σ.1 14) n x = false → mm_ex sc (cG (d + 3)) 3 cp_68_l f cp_68_r1 [.ref 3, .int (nI (x + 1)), .null, .null] [] σ = some (pb (pNs (σ.1 16) (σ.1 17) (σ.1 14) n 7), 0, σ) := by
    intro r
    induction r with
    | zero =>
      intro x f hx hf hp
      have e : x = 7 := by omega
      subst e
      rw [show f = (f - 7) + 7 by omega, cp_68_h1, if_pos (show (7 : Int32) < nI (7 + 1) by decide), hp]
      rfl
    | succ r ih =>
      intro x f hx hf hp
      rw [show f = (f - 7) + 7 by omega, cp_68_h1, if_neg (show ¬ (7 : Int32) < nI (x + 1) from (nI_nlt (by omega) (by decide) : ¬ nI 7 < nI (x + 1)))]
      refine c_names_in (σ := σ) (x := x + 1) hB hH d n 0 (f - 7 + 0) (by omega) (by omega) (fun g hg q => ?_) (fun q => ?_)
      · refine ih (x + 1) g (by omega) (by omega) ?_
        rw [pNs, hp, Bool.false_or]
        simp; omega
      · rw [pNs_y (show 1 ≤ x + 1 by omega) (by omega) 7 (by omega)]
        rfl
  rw [show d + 4 = (d + 3) + 1 from rfl, cp_68_g]
  exact key 7 0 _ rfl (by omega) rfl
theorem r_names_in {τ : mm_S} {n x : Nat} (hB : rB τ n) (hH : rHo τ n) {res : mm_R} (d : Nat) : ∀ (r b f : Nat), b + r = n → 24 * (r + 1) ≤ f → (∀ g, f ≤ g + 24 * (r + 1) → cN (τ.1 8) (τ.1 9) (τ.1 6) n x ≤ 1 → mm_ex sr (rG (d + 2)) 3 rp_30_l g rp_30_r1 [.ref 0, .int (nI (x + 1)), .null, .null] [] τ = some res) → (¬ cN (τ.1 8) (τ.1 9) (τ.1 6) n x ≤ 1 → res = (1, 0, τ)) → mm_ex sr (rG (d + 2)) 3 rp_30_l f rp_30_r2 [.ref 0, .int (nI x), .int (nI (pBits (qN (τ.1 8) (τ.1 9) (τ.1 6) x) b)), .int (nI b)] [] τ = some res := by
  have hn := hB.2
  intro r
  induction r with
  | zero =>
    intro b f hb hf h1 h2
    have e : b = n := by omega
    subst e
    have lt := pBits_lt (pNa (qN (τ.1 8) (τ.1 9) (τ.1 6) x) (pRk (τ.1 8) (τ.1 9)) b) b
    have l16 : 2 ^ b ≤ 2 ^ 16 := Nat.pow_le_pow_right (by decide) hn
    have c16 := pCt_le (pBits (pNa (qN (τ.1 8) (τ.1 9) (τ.1 6) x) (pRk (τ.1 8) (τ.1 9)) b) b).testBit 16
    rw [show f = (f - 24) + 24 by omega, rp_30_h2, hB.1, if_pos (nI_le (Nat.le_refl _) (by omega)), r_narrow hB hH]
    simp only [pu_bnd]
    rw [show d + 2 = (d + 1) + 1 from rfl, r_count (Nat.lt_of_lt_of_le lt l16)]
    simp only [pu_bind]
    unfold cN at h1 h2
    generalize pCt (pBits (pNa (qN (τ.1 8) (τ.1 9) (τ.1 6) x) (pRk (τ.1 8) (τ.1 9)) b) b).testBit 16 = C at h1 h2 c16 ⊢
    have c3 : (nI C ≤ (1 : Int32)) ↔ C ≤ 1 := (nI_leI (by omega) (by decide) : nI C ≤ nI 1 ↔ C ≤ 1)
    by_cases q : C ≤ 1
    · rw [if_pos (c3.2 q), nI_1]
      exact mm_ref _ _ [.ref 0, .int (nI (x + 1)), .null, .null] _ _ _ (by simp [mm_rf]) (h1 _ (by omega) q)
    · rw [if_neg (fun z => q (c3.1 z)), h2 q]
  | succ r ih =>
    intro b f hb hf h1 h2
    have hb' : b < n := by omega
    have hT := pu_T (show b < 16 by omega) (by decide)
    have hC := pu_cl (show b < 16 by omega) (by decide)
    have no : ∀ c, c ≤ 24 → qN (τ.1 8) (τ.1 9) (τ.1 6) x b = false → mm_ex sr (rG (d + 2)) 3 rp_30_l (f - 24 + c) rp_30_r2 [.ref 0, .int (nI x), .int (nI (pBits (qN (τ.1 8) (τ.1 9) (τ.1 6) x) b)), .int (nI (b + 1))] [] τ = some res := by
      intro c hc hf2
      have := ih (b + 1) (f - 24 + c) (by omega) (by omega) (fun g hg => h1 g (by omega)) h2
      rw [pBits_no (by rw [hf2]; decide)] at this
      exact this
    rw [show f = (f - 24) + 24 by omega, rp_30_h2, hB.1, if_neg (nI_ge hb' (by omega)), show d + 2 = (d + 1) + 1 from rfl, r_enabled hB hH hb']
    simp only [pu_bind, nI_1]
    cases hE : pE (τ.1 8) (τ.1 9) b with
    | false =>
      simp only [Bool.false_eq_true, if_false, if_true]
      exact no 14 (by omega) (by simp [qN, hE])
    | true =>
      simp only [if_true, pu_10, if_false, hT, hC]
      by_cases q : τ.1 6 b &&& 7 = nI x
      · rw [if_pos q, pu_set (by omega) (by simp [qN, hE, q])]
        exact ih (b + 1) _ (by omega) (by omega) (fun g hg => h1 g (by omega)) h2
      · rw [if_neg q]
        exact no 6 (by omega) (by simp [qN, q])
theorem r_names {τ : mm_S} {n : Nat} (hB : rB τ n) (hH : rHo τ n) (d : Nat) : rG (d + 3) 30 [.ref 0] τ = some (pb (pNs (τ.1 8) (τ.1 9) (τ.1 6) n 7), 0, τ) := by
  have hn := hB.2
  have key : ∀ (r x f : Nat), x + r = 7 → 600 * (r + 1) ≤ f → pNs (τ.1 8) (τ.1 9) (τ.1 6) n x = false → mm_ex sr (rG (d + 2)) 3 rp_30_l f rp_30_r1 [.ref 0, .int (nI (x + 1)), .null, .null] [] τ = some (pb (pNs (τ.1 8) (τ.1 9) (τ.1 6) n 7), 0, τ) := by
    intro r
    induction r with
    | zero =>
      intro x f hx hf hp
      have e : x = 7 := by omega
      subst e
      rw [show f = (f - 7) + 7 by omega, rp_30_h1, if_pos (show (7 : Int32) < nI (7 + 1) by decide), hp]
      rfl
    | succ r ih =>
      intro x f hx hf hp
      rw [show f = (f - 7) + 7 by omega, rp_30_h1, if_neg (show ¬ (7 : Int32) < nI (x + 1) from (nI_nlt (by omega) (by decide) : ¬ nI 7 < nI (x + 1)))]
      refine r_names_in (τ := τ) (x := x + 1) hB hH d n 0 (f - 7 + 0) (by omega) (by omega) (fun g hg q => ?_) (fun q => ?_)
      · refine ih (x + 1) g (by omega) (by omega) ?_
        rw [pNs, hp, Bool.false_or]
        simp; omega
      · rw [pNs_y (show 1 ≤ x + 1 by omega) (by omega) 7 (by omega)]
        rfl
  rw [show d + 3 = (d + 2) + 1 from rfl, rp_30_g]
  exact key 7 0 _ rfl (by omega) rfl
/-! if none needs itself, there is a rank that falls along the needs -/
theorem wW_tr {M : Nat → Nat} {n : Nat} : ∀ k, ∀ v, v < k → ∀ b i, (wW M k b).testBit v = true → (wW M k v).testBit i = true → (wW M k b).testBit i = true
  | 0, v, hv => by omega
  | k + 1, v, hv => by
    have ih := wW_tr (M := M) (n := n) k
    have mono : ∀ b i, (wW M k b).testBit i = true → (wW M (k + 1) b).testBit i = true := by
      intro b i h
      rw [wW, wq]
      split
      · rw [Nat.testBit_or, h, Bool.true_or]
      · exact h
    have mem : ∀ b i, (wW M (k + 1) b).testBit i = true → (wW M k b).testBit i = true ∨ ((wW M k b).testBit k = true ∧ (wW M k k).testBit i = true) := by
      intro b i h
      rw [wW, wq] at h
      split at h
      · next q =>
        rw [Nat.testBit_or, Bool.or_eq_true] at h
        exact h.imp id fun z => ⟨q, z⟩
      · exact Or.inl h
    have via : ∀ b i, (wW M k b).testBit k = true → (wW M k k).testBit i = true → (wW M (k + 1) b).testBit i = true := by
      intro b i h1 h2
      rw [wW, wq, if_pos h1, Nat.testBit_or, h2, Bool.or_true]
    intro b i h1 h2
    by_cases e : v = k
    · subst e
      have hk : (wW M v v).testBit i = true := by
        rcases mem v i h2 with z | z
        · exact z
        · exact z.2
      have hb : (wW M v b).testBit v = true := by
        rcases mem b v h1 with z | z
        · exact z
        · exact z.1
      exact via b i hb hk
    · have hvk : v < k := by omega
      rcases mem b v h1 with z | ⟨z1, z2⟩
      · rcases mem v i h2 with y | ⟨y1, y2⟩
        · exact mono b i (ih v hvk b i z y)
        · exact via b i (ih v hvk b k z y1) y2
      · rcases mem v i h2 with y | ⟨y1, y2⟩
        · exact via b i z1 (ih v hvk k i z2 y)
        · exact via b i z1 y2
theorem wW_in {M : Nat → Nat} : ∀ k b i, (M b).testBit i = true → (wW M k b).testBit i = true
  | 0, _, _, h => h
  | k + 1, b, i, h => by
    rw [wW, wq]
    have := wW_in (M := M) k b i h
    split
    · rw [Nat.testBit_or, this, Bool.true_or]
    · exact this
theorem pCt_sub {p q : Nat → Bool} (h : ∀ i, p i = true → q i = true) : ∀ n, pCt p n ≤ pCt q n
  | 0 => Nat.le_refl _
  | n + 1 => by
    have := pCt_sub h n
    rw [pCt, pCt]
    cases hp : p n with
    | false => simp; omega
    | true => rw [h n hp]; simp; omega
theorem pCt_slt {p q : Nat → Bool} {j : Nat} (h : ∀ i, p i = true → q i = true) (hp : p j = false) (hq : q j = true) : ∀ {n : Nat}, j < n → pCt p n < pCt q n
  | 0, hj => by omega
  | n + 1, hj => by
    rw [pCt, pCt]
    by_cases e : j = n
    · subst e
      have := pCt_sub h j
      rw [hp, hq]
      simp
      omega
    · have := pCt_slt h hp hq (show j < n by omega)
      cases hpn : p n with
      | false => simp; omega
      | true => rw [h n hpn]; simp; omega
def rk_ (M : Nat → Nat) (n b : Nat) : Nat := pCt (wW M n b).testBit n
theorem rk_lt {M : Nat → Nat} {n : Nat} (h : pRg (wW M n) n = false) {b v : Nat} (hb : b < n) (hv : v < n) (hm : (M b).testBit v = true) : rk_ M n v < rk_ M n b := by
  refine pCt_slt (j := v) (fun i hi => wW_tr (n := n) n v hv b i (wW_in n b v hm) hi) (pRg_n h v hv) (wW_in n b v hm) hv
theorem rk_n {M : Nat → Nat} {n : Nat} (h : pRg (wW M n) n = false) {b : Nat} (hb : b < n) : rk_ M n b < n := pCt_lt (pRg_n h b hb) hb
