/-! who owns whom (tW), the order in which x and all that it owns dies (tL) -/
def tW (U : Nat) (N : Nat → Nat → Nat) (ht : Nat → Nat) : Prop := ∀ x, 1 ≤ x → x ≤ U → ht x ≤ 9 ∧ (∀ p, p < 3 → N p x = 0 ∨ (x < N p x ∧ N p x ≤ U ∧ N p x + ht (N p x) ≤ x + ht x)) ∧ (∀ p q, p < q → q < 3 → N p x = 0 ∨ N q x = 0 ∨ N p x + ht (N p x) < N q x)
def pL (N : Nat → Nat → Nat) : Nat → Nat → List Nat
  | 0, _ => []
  | f + 1, x => if x = 0 then [] else x :: (pL N f (N 2 x) ++ (pL N f (N 1 x) ++ pL N f (N 0 x)))
def tL (N : Nat → Nat → Nat) (x : Nat) : List Nat := pL N 10 x
theorem pL_0 {N : Nat → Nat → Nat} : ∀ f, pL N f 0 = []
  | 0 => rfl
  | f + 1 => by rw [pL, if_pos rfl]
theorem tL_0 {N : Nat → Nat → Nat} : tL N 0 = [] := pL_0 10
theorem tW_ch {U : Nat} {N : Nat → Nat → Nat} {ht : Nat → Nat} (hW : tW U N ht) {x p : Nat} (h1 : 1 ≤ x) (h2 : x ≤ U) (hp : p < 3) : N p x = 0 ∨ (1 ≤ N p x ∧ N p x ≤ U ∧ ht (N p x) < ht x ∧ x < N p x ∧ N p x + ht (N p x) ≤ x + ht x) := by
  rcases (hW x h1 h2).2.1 p hp with h | ⟨a, b, c⟩
  · exact Or.inl h
  · exact Or.inr ⟨by omega, b, by omega, a, c⟩
theorem pL_fuel {U : Nat} {N : Nat → Nat → Nat} {ht : Nat → Nat} (hW : tW U N ht) : ∀ f f' x, (x = 0 ∨ (1 ≤ x ∧ x ≤ U ∧ ht x < f ∧ ht x < f')) → pL N f x = pL N f' x := by
  intro f
  induction f with
  | zero =>
    intro f' x h
    rcases h with rfl | h
    · rw [pL_0, pL_0]
    · omega
  | succ f ih =>
    intro f' x h
    rcases h with rfl | ⟨h1, h2, h3, h4⟩
    · rw [pL_0, pL_0]
    · cases f' with
      | zero => omega
      | succ f' =>
        rw [pL, pL, if_neg (by omega), if_neg (by omega)]
        have key : ∀ p, p < 3 → pL N f (N p x) = pL N f' (N p x) := by
          intro p hp
          apply ih
          rcases tW_ch hW h1 h2 hp with h | ⟨a, b, c, -⟩
          · exact Or.inl h
          · exact Or.inr ⟨a, b, by omega, by omega⟩
        rw [key 2 (by decide), key 1 (by decide), key 0 (by decide)]
theorem tL_eq {U : Nat} {N : Nat → Nat → Nat} {ht : Nat → Nat} (hW : tW U N ht) {x : Nat} (h1 : 1 ≤ x) (h2 : x ≤ U) : tL N x = x :: (tL N (N 2 x) ++ (tL N (N 1 x) ++ tL N (N 0 x))) := by
  have h9 := (hW x h1 h2).1
  have key : ∀ p, p < 3 → pL N 9 (N p x) = pL N 10 (N p x) := by
    intro p hp
    apply pL_fuel hW
    rcases tW_ch hW h1 h2 hp with h | ⟨a, b, c, -⟩
    · exact Or.inl h
    · exact Or.inr ⟨a, b, by omega, by omega⟩
  unfold tL
  rw [show pL N 10 x = x :: (pL N 9 (N 2 x) ++ (pL N 9 (N 1 x) ++ pL N 9 (N 0 x))) by rw [pL, if_neg (by omega)], key 2 (by decide), key 1 (by decide), key 0 (by decide)]
theorem tL_ind {U : Nat} {N : Nat → Nat → Nat} {ht : Nat → Nat} (hW : tW U N ht) {P : Nat → Prop} (h : ∀ x, 1 ≤ x → x ≤ U → (∀ p, p < 3 → ¬ N p x = 0 → P (N p x)) → P x) : ∀ x, 1 ≤ x → x ≤ U → P x := by
  have key : ∀ f x, 1 ≤ x → x ≤ U → ht x < f → P x := by
    intro f
    induction f with
    | zero => intro x _ _ h0; omega
    | succ f ih =>
      intro x h1 h2 h3
      refine h x h1 h2 (fun p hp h0 => ?_)
      rcases tW_ch hW h1 h2 hp with h | ⟨a, b, c, -⟩
      · exact absurd h h0
      · exact ih _ a b (by omega)
  intro x h1 h2
  exact key (ht x + 1) x h1 h2 (by omega)
theorem tL_mem {U : Nat} {N : Nat → Nat → Nat} {ht : Nat → Nat} (hW : tW U N ht) {x : Nat} (h1 : 1 ≤ x) (h2 : x ≤ U) {z : Nat} : z ∈ tL N x ↔ z = x ∨ ∃ p, p < 3 ∧ ¬ N p x = 0 ∧ z ∈ tL N (N p x) := by
  rw [tL_eq hW h1 h2]
  simp only [List.mem_cons, List.mem_append]
  constructor
  · rintro (h | h | h | h)
    · exact Or.inl h
    · exact Or.inr ⟨2, by decide, fun q => by rw [q, tL_0] at h; exact absurd h (List.not_mem_nil), h⟩
    · exact Or.inr ⟨1, by decide, fun q => by rw [q, tL_0] at h; exact absurd h (List.not_mem_nil), h⟩
    · exact Or.inr ⟨0, by decide, fun q => by rw [q, tL_0] at h; exact absurd h (List.not_mem_nil), h⟩
  · rintro (h | ⟨p, hp, -, h⟩)
    · exact Or.inl h
    · rcases (show p = 0 ∨ p = 1 ∨ p = 2 by omega) with rfl | rfl | rfl
      · exact Or.inr (Or.inr (Or.inr h))
      · exact Or.inr (Or.inr (Or.inl h))
      · exact Or.inr (Or.inl h)
theorem tL_rng {U : Nat} {N : Nat → Nat → Nat} {ht : Nat → Nat} (hW : tW U N ht) : ∀ x, 1 ≤ x → x ≤ U → ∀ z, z ∈ tL N x → x ≤ z ∧ z ≤ x + ht x ∧ z ≤ U := by
  apply tL_ind hW (P := fun x => ∀ z, z ∈ tL N x → x ≤ z ∧ z ≤ x + ht x ∧ z ≤ U)
  intro x h1 h2 ih z hz
  rcases (tL_mem hW h1 h2).1 hz with rfl | ⟨p, hp, h0, hm⟩
  · exact ⟨by omega, by omega, h2⟩
  · have := ih p hp h0 z hm
    rcases tW_ch hW h1 h2 hp with h | ⟨a, b, c, d, e⟩
    · exact absurd h h0
    · omega
theorem tL_len {U : Nat} {N : Nat → Nat → Nat} {ht : Nat → Nat} (hW : tW U N ht) : ∀ x, 1 ≤ x → x ≤ U → 1 ≤ (tL N x).length ∧ (tL N x).length ≤ ht x + 1 := by
  apply tL_ind hW (P := fun x => 1 ≤ (tL N x).length ∧ (tL N x).length ≤ ht x + 1)
  intro x h1 h2 ih
  rw [tL_eq hW h1 h2]
  simp only [List.length_cons, List.length_append]
  have key : ∀ p, p < 3 → (N p x = 0 ∧ (tL N (N p x)).length = 0) ∨ (¬ N p x = 0 ∧ x < N p x ∧ N p x + ht (N p x) ≤ x + ht x ∧ (tL N (N p x)).length ≤ ht (N p x) + 1) := by
    intro p hp
    by_cases h0 : N p x = 0
    · left
      refine ⟨h0, ?_⟩
      rw [h0, tL_0]
      rfl
    · right
      rcases tW_ch hW h1 h2 hp with h | ⟨a, b, c, d, e⟩
      · exact absurd h h0
      · exact ⟨h0, d, e, (ih p hp h0).2⟩
  have k0 := key 0 (by decide)
  have k1 := key 1 (by decide)
  have k2 := key 2 (by decide)
  have s01 := (hW x h1 h2).2.2 0 1 (by decide) (by decide)
  have s02 := (hW x h1 h2).2.2 0 2 (by decide) (by decide)
  have s12 := (hW x h1 h2).2.2 1 2 (by decide) (by decide)
  clear ih key
  omega
theorem tL_dis {U : Nat} {N : Nat → Nat → Nat} {ht : Nat → Nat} (hW : tW U N ht) {x p q : Nat} (h1 : 1 ≤ x) (h2 : x ≤ U) (hp : p < q) (hq : q < 3) {z : Nat} (hz : z ∈ tL N (N p x)) (hz' : z ∈ tL N (N q x)) : False := by
  have n0 : ¬ N p x = 0 := fun h => by rw [h, tL_0] at hz; exact absurd hz (List.not_mem_nil)
  have n1 : ¬ N q x = 0 := fun h => by rw [h, tL_0] at hz'; exact absurd hz' (List.not_mem_nil)
  have a := (tW_ch hW h1 h2 (show p < 3 by omega)).resolve_left n0
  have b := (tW_ch hW h1 h2 hq).resolve_left n1
  have ra := tL_rng hW _ a.1 a.2.1 z hz
  have rb := tL_rng hW _ b.1 b.2.1 z hz'
  rcases (hW x h1 h2).2.2 p q hp hq with h | h | h
  · exact n0 h
  · exact n1 h
  · omega
theorem tL_up {U : Nat} {N : Nat → Nat → Nat} {ht : Nat → Nat} (hW : tW U N ht) : ∀ x, 1 ≤ x → x ≤ U → ∀ w, w ∈ tL N x → ∀ p, p < 3 → ¬ N p w = 0 → N p w ∈ tL N x := by
  apply tL_ind hW (P := fun x => ∀ w, w ∈ tL N x → ∀ p, p < 3 → ¬ N p w = 0 → N p w ∈ tL N x)
  intro x h1 h2 ih w hw p hp h0
  rcases (tL_mem hW h1 h2).1 hw with rfl | ⟨q, hq, hn, hm⟩
  · refine (tL_mem hW h1 h2).2 (Or.inr ⟨p, hp, h0, ?_⟩)
    have a := (tW_ch hW h1 h2 hp).resolve_left h0
    exact (tL_mem hW a.1 a.2.1).2 (Or.inl rfl)
  · exact (tL_mem hW h1 h2).2 (Or.inr ⟨q, hq, hn, ih q hq hn w hm p hp h0⟩)
theorem tL_dn {U : Nat} {N : Nat → Nat → Nat} {ht : Nat → Nat} (hW : tW U N ht) : ∀ x, 1 ≤ x → x ≤ U → ∀ z, z ∈ tL N x → z = x ∨ ∃ w p, w ∈ tL N x ∧ p < 3 ∧ ¬ N p w = 0 ∧ N p w = z := by
  apply tL_ind hW (P := fun x => ∀ z, z ∈ tL N x → z = x ∨ ∃ w p, w ∈ tL N x ∧ p < 3 ∧ ¬ N p w = 0 ∧ N p w = z)
  intro x h1 h2 ih z hz
  rcases (tL_mem hW h1 h2).1 hz with rfl | ⟨q, hq, hn, hm⟩
  · exact Or.inl rfl
  · right
    rcases ih q hq hn z hm with e | ⟨w, p, a, b, c, d⟩
    · exact ⟨x, q, (tL_mem hW h1 h2).2 (Or.inl rfl), hq, hn, e.symm⟩
    · exact ⟨w, p, (tL_mem hW h1 h2).2 (Or.inr ⟨q, hq, hn, a⟩), b, c, d⟩
theorem tL_self {U : Nat} {N : Nat → Nat → Nat} {ht : Nat → Nat} (hW : tW U N ht) {x : Nat} (h1 : 1 ≤ x) (h2 : x ≤ U) : x ∈ tL N x := (tL_mem hW h1 h2).2 (Or.inl rfl)
/-! counting -/
theorem pCt_flip {p q : Nat → Bool} {j : Nat} (hp : p j = false) (hq : q j = true) (h : ∀ i, i ≠ j → q i = p i) : ∀ {n : Nat}, j < n → pCt q n = pCt p n + 1
  | 0, hj => by omega
  | n + 1, hj => by
    by_cases e : j = n
    · subst e
      rw [pCt, pCt, hp, hq, pCt_ext (fun i hi => h i (by omega))]
      simp
    · rw [pCt, pCt, pCt_flip hp hq h (show j < n by omega), h n (by omega)]
      omega
theorem pCt_lt {p : Nat → Bool} {j : Nat} (hp : p j = false) : ∀ {n : Nat}, j < n → pCt p n < n
  | 0, hj => by omega
  | n + 1, hj => by
    rw [pCt]
    have := pCt_le (p := p) n
    by_cases e : j = n
    · subst e
      rw [hp]
      simp
      omega
    · have := pCt_lt hp (show j < n by omega)
      split <;> omega
