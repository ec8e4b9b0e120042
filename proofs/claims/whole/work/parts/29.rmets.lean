/-! PURE: the reference's stack of questions, to its end -/
theorem r_met5 (σ : mm_S) (d f : Nat) (hf : 100 ≤ f) (y1 y3 : Int64) (x5 : Int32) (y6 y8 : Int64) (xs : Int32) :
    ∃ g x11 x12, f - 80 ≤ g ∧ g ≤ f ∧ ((x12 = 0) ↔ (y6 = 0 ∨ y8 = 0)) ∧ mm_ex sr (rG d) 3 rp_17_l f rp_17_r5 [.ref 0, .long y1, .null, .long y3, .null, .int x5, .long y6, .null, .long y8, .null, .null, .null, .null, .null] [.int xs] σ = (if ¬ xs = 0 ∧ pYes y6 y8 then some ((1 : Int32), 0, σ) else mm_ex sr (rG d) 3 rp_17_l g rp_17_r13 [.ref 0, .long y1, .null, .long y3, .null, .int x5, .long y6, .null, .long y8, .null, .int xs, .int x11, .int x12, .null] [] σ) := by
  have R10 : ∀ (c : Nat) (z11 : Int32), 1 ≤ c → c ≤ 38 → (y6 = 0 ∨ y8 = 0) → ((z11 = 0 ∧ ¬ ((y6 = 0 ∧ (y8 = 0 ∨ y8 = 31 ∨ y8 = 1)) ∨ (y8 = 0 ∧ y6 = 1))) ∨ (z11 = 1 ∧ ((y6 = 0 ∧ (y8 = 0 ∨ y8 = 31 ∨ y8 = 1)) ∨ (y8 = 0 ∧ y6 = 1)))) → ∃ g x11 x12, f - 80 ≤ g ∧ g ≤ f ∧ ((x12 = 0) ↔ (y6 = 0 ∨ y8 = 0)) ∧ mm_ex sr (rG d) 3 rp_17_l (f - 38 + c) rp_17_r10 [.ref 0, .long y1, .null, .long y3, .null, .int x5, .long y6, .null, .long y8, .null, .int xs, .int z11, .null, .null] [] σ = (if ¬ xs = 0 ∧ pYes y6 y8 then some ((1 : Int32), 0, σ) else mm_ex sr (rG d) 3 rp_17_l g rp_17_r13 [.ref 0, .long y1, .null, .long y3, .null, .int x5, .long y6, .null, .long y8, .null, .int xs, .int x11, .int x12, .null] [] σ) := by
    intro c x11 hc hc2 hz h11
    obtain ⟨g, g1, g2, g3⟩ := r_met11 σ d (f - 38 + c - 1 + 0) (by omega) y1 y3 x5 y6 y8 xs x11 0 h11 (Or.inl ⟨rfl, hz⟩)
    refine ⟨g, x11, 0, by omega, by omega, ⟨fun _ => hz, fun _ => rfl⟩, ?_⟩
    rw [show f - 38 + c = (f - 38 + c - 1) + 1 by omega, rp_17_h10]
    exact g3
  rw [show f = (f - 38) + 38 by omega, rp_17_h5]
  rw [show f - 38 + 38 = f by omega]
  simp only [pu_cmp]
  by_cases h6 : y6 = 0
  · rw [if_pos h6]
    by_cases b0 : y8 = 0
    · rw [if_pos b0, if_pos h6]
      exact R10 22 1 (by omega) (by omega) (Or.inl h6) (Or.inr ⟨rfl, Or.inl ⟨h6, Or.inl b0⟩⟩)
    · rw [if_neg b0]
      by_cases b1 : y8 = 1
      · rw [if_pos b1, if_pos h6]
        exact R10 18 1 (by omega) (by omega) (Or.inl h6) (Or.inr ⟨rfl, Or.inl ⟨h6, Or.inr (Or.inr b1)⟩⟩)
      · rw [if_neg b1]
        by_cases b2 : y8 = 31
        · rw [if_pos b2, if_pos h6]
          exact R10 14 1 (by omega) (by omega) (Or.inl h6) (Or.inr ⟨rfl, Or.inl ⟨h6, Or.inr (Or.inl b2)⟩⟩)
        · rw [if_neg b2, if_neg b0, if_pos h6]
          refine R10 11 0 (by omega) (by omega) (Or.inl h6) (Or.inl ⟨rfl, ?_⟩)
          rintro (⟨-, h | h | h⟩ | ⟨h, -⟩)
          · exact b0 h
          · exact b2 h
          · exact b1 h
          · exact b0 h
  · rw [if_neg h6]
    by_cases b0 : y8 = 0
    · rw [if_pos b0]
      by_cases a1 : y6 = 1
      · rw [if_pos a1, if_neg h6, if_pos b0]
        exact R10 14 1 (by omega) (by omega) (Or.inr b0) (Or.inr ⟨rfl, Or.inr ⟨b0, a1⟩⟩)
      · rw [if_neg a1, if_neg h6, if_pos b0]
        refine R10 15 0 (by omega) (by omega) (Or.inr b0) (Or.inl ⟨rfl, ?_⟩)
        rintro (⟨h, -⟩ | ⟨-, h⟩)
        · exact h6 h
        · exact a1 h
    · rw [if_neg b0, if_neg h6, if_neg b0]
      obtain ⟨g, g1, g2, g3⟩ := r_met11 σ d (f - 38 + 17) (by omega) y1 y3 x5 y6 y8 xs 0 1 (Or.inl ⟨rfl, by
        rintro (⟨h, -⟩ | ⟨h, -⟩)
        · exact h6 h
        · exact b0 h⟩) (Or.inr ⟨rfl, h6, b0⟩)
      exact ⟨g, 0, 1, by omega, by omega, ⟨fun h => absurd h (by decide), fun h => (h.elim h6 b0).elim⟩, g3⟩
def pwt : Nat → Nat
  | 0 => 1
  | 1 => 1
  | n + 2 => 1 + pwt (n + 1) + 16 * pwt n
theorem pwt_pos : ∀ n, 1 ≤ pwt n
  | 0 => Nat.le_refl _
  | 1 => Nat.le_refl _
  | n + 2 => by unfold pwt; omega
def pht (n : Nat) : Nat := 15 * (n / 2) + 1
def pSum (w : Nat → Nat) : Nat → Nat
  | 0 => 0
  | k + 1 => pSum w k + w k
def pAny (p : Nat → Bool) : Nat → Bool
  | 0 => false
  | k + 1 => pAny p k || p k
theorem pAny_iff {p : Nat → Bool} : ∀ {k : Nat}, pAny p k = true ↔ ∃ j, j < k ∧ p j = true
  | 0 => by simp [pAny]
  | k + 1 => by
    rw [pAny, Bool.or_eq_true, pAny_iff]
    constructor
    · rintro (⟨j, h1, h2⟩ | h)
      · exact ⟨j, by omega, h2⟩
      · exact ⟨k, by omega, h⟩
    · rintro ⟨j, h1, h2⟩
      by_cases h : j = k
      · subst h; exact Or.inr h2
      · exact Or.inl ⟨j, by omega, h2⟩
theorem pSum_ext {w w' : Nat → Nat} : ∀ {k : Nat}, (∀ j, j < k → w j = w' j) → pSum w k = pSum w' k
  | 0, _ => rfl
  | k + 1, h => by rw [pSum, pSum, pSum_ext (k := k) (fun j hj => h j (by omega)), h k (by omega)]
theorem pSum_ap {w w' : Nat → Nat} {k c : Nat} (h1 : ∀ j, j < k → w' j = w j) : ∀ {n : Nat}, (∀ j, k ≤ j → j < k + n → w' j = c) → pSum w' (k + n) = pSum w k + n * c
  | 0, _ => by rw [Nat.add_zero, pSum_ext h1]; omega
  | n + 1, h2 => by
    rw [← Nat.add_assoc, pSum, pSum_ap h1 (n := n) (fun j hj hj2 => h2 j hj (by omega)), h2 (k + n) (by omega) (by omega), Nat.succ_mul]
    omega
theorem pAny_ext {p p' : Nat → Bool} : ∀ {k : Nat}, (∀ j, j < k → p j = p' j) → pAny p k = pAny p' k
  | 0, _ => rfl
  | k + 1, h => by rw [pAny, pAny, pAny_ext (k := k) (fun j hj => h j (by omega)), h k (by omega)]
theorem pu_and31 (t : Int64) : t &&& 31 = lN (pHd t) := by
  rw [pHd_nat]
  apply Int64.toBitVec_inj.mp
  apply BitVec.eq_of_toNat_eq
  rw [Int64.toBitVec_and, BitVec.toNat_and]
  show t.toBitVec.toNat &&& 31 = (BitVec.ofNat 64 (t.toBitVec.toNat % 32)).toNat
  rw [BitVec.toNat_ofNat, Nat.mod_eq_of_lt (show t.toBitVec.toNat % 32 < 2 ^ 64 by omega)]
  exact Nat.and_two_pow_sub_one_eq_mod _ 5
