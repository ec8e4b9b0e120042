/-! begin; the small methods of the contexts -/
theorem thread_or (x : Int32) : (x < 0 ∨ 3 ≤ x) ∨ ∃ j, j < 3 ∧ x = nI j := by
  rcases pk_ix x (n := 3) (by decide) with h | h | h
  · exact Or.inl (Or.inl h)
  · exact Or.inl (Or.inr h)
  · exact Or.inr h
theorem c_isThread_n {σ : mm_S} {x : Int32} (h : x < 0 ∨ 3 ≤ x) (d : Nat) : cG (d + 1) 90 [.int x] σ = some (0, 0, σ) := by
  rw [cp_90_g]
  by_cases h0 : x < 0
  · rw [if_pos h0]
  · rw [if_neg h0, if_pos (h.resolve_left h0)]
theorem c_isThread {σ : mm_S} {j : Nat} (h : j < 3) (d : Nat) : cG (d + 1) 90 [.int (nI j)] σ = some (1, 0, σ) := by
  rw [cp_90_g, if_neg (nI_pos (by omega)), if_neg (show ¬ (3 : Int32) ≤ nI j from (nI_ge h (by decide) : ¬ nI 3 ≤ nI j))]
theorem r_isThread_n {τ : mm_S} {x : Int32} (h : x < 0 ∨ 3 ≤ x) (d : Nat) : rG (d + 1) 41 [.int x] τ = some (0, 0, τ) := by
  rw [rp_41_g]
  by_cases h0 : x < 0
  · rw [if_pos h0]
  · rw [if_neg h0, if_pos (Int32.lt_of_lt_of_le (by decide) (h.resolve_left h0))]
theorem r_isThread {τ : mm_S} {j : Nat} (h : j < 3) (d : Nat) : rG (d + 1) 41 [.int (nI j)] τ = some (1, 0, τ) := by
  rw [rp_41_g, if_neg (nI_pos (by omega)), if_neg (show ¬ (2 : Int32) < nI j from (nI_nlt (by omega) (by decide) : ¬ nI 2 < nI j))]
theorem c_isContext {σ : mm_S} {c : Nat} (h : c < 4) (d : Nat) : cG (d + 1) 47 [.int (nI c)] σ = some (1, 0, σ) := by
  rw [cp_47_g, if_neg (nI_pos (by omega)), if_neg (show ¬ (4 : Int32) ≤ nI c from (nI_ge h (by decide) : ¬ nI 4 ≤ nI c))]
theorem c_isRow {σ : mm_S} {c : Nat} (h : c < 16) (d : Nat) : cG (d + 1) 48 [.int (nI c)] σ = some (1, 0, σ) := by
  rw [cp_48_g, if_neg (nI_pos (by omega)), if_neg (show ¬ (16 : Int32) ≤ nI c from (nI_ge h (by decide) : ¬ nI 16 ≤ nI c))]
theorem c_isActive {σ : mm_S} {c : Nat} (hc : c < 4) (d : Nat) : cG (d + 2) 40 [.ref 5, .int (nI c)] σ = some (pb (!decide (σ.1 42 c = 0)), 0, σ) := by
  have hT := pu_T (show c < 4 by omega) (by decide)
  have hC := pu_cl (show c < 4 by omega) (by decide)
  rw [cp_40_g, c_isContext hc]
  simp only [pu_bind, pu_10, if_false, hT, if_true, hC]
  by_cases h : σ.1 42 c = 0
  · rw [if_pos h]; simp [h, pb]
  · rw [if_neg h]; simp [h, pb]
theorem c_open {σ : mm_S} {c : Nat} (hc : c < 4) (d : Nat) : cG (d + 2) 41 [.ref 5, .int (nI c)] σ = some (0, 0, (mm_w σ.1 42 c 1, σ.2)) := by
  have hT := pu_T (show c < 4 by omega) (by decide)
  have hC := pu_cl (show c < 4 by omega) (by decide)
  rw [cp_41_g, c_isContext hc]
  simp only [pu_bind, pu_10, if_false, hT, if_true, hC]
theorem c_close {σ : mm_S} {c : Nat} (hc : c < 4) (d : Nat) : cG (d + 2) 42 [.ref 5, .int (nI c)] σ = some (0, 0, (mm_w σ.1 42 c 0, σ.2)) := by
  have hT := pu_T (show c < 4 by omega) (by decide)
  have hC := pu_cl (show c < 4 by omega) (by decide)
  rw [cp_42_g, c_isContext hc]
  simp only [pu_bind, pu_10, if_false, hT, if_true, hC]
theorem c_grid43 {c : Nat} (h : c < 4) : mm_grid sc 43 (nI c) = some (44 + c) ∧ mm_arr sc (44 + c) 0 = some 16 := by
  rcases (show c = 0 ∨ c = 1 ∨ c = 2 ∨ c = 3 by omega) with rfl | rfl | rfl | rfl <;> exact ⟨rfl, rfl⟩
theorem c_heldFor {σ : mm_S} {c b : Nat} (hc : c < 4) (hb : b < 16) (d : Nat) : cG (d + 2) 43 [.ref 5, .int (nI c), .int (nI b)] σ = some (σ.1 (44 + c) b, 0, σ) := by
  have hT := pu_T hb (by decide)
  have hC := pu_cl hb (by decide)
  rw [cp_43_g, c_isContext hc]
  simp only [pu_bind, pu_10, if_false]
  rw [c_isRow hb]
  simp only [pu_bind, pu_10, if_false, (c_grid43 hc).1, (c_grid43 hc).2, hT, if_true, hC]
theorem c_hold {σ : mm_S} {c b : Nat} (hc : c < 4) (hb : b < 16) (x : Int32) (d : Nat) : cG (d + 2) 44 [.ref 5, .int (nI c), .int (nI b), .int x] σ = some (0, 0, (mm_w σ.1 (44 + c) b x, σ.2)) := by
  have hT := pu_T hb (by decide)
  have hC := pu_cl hb (by decide)
  rw [cp_44_g, c_isContext hc]
  simp only [pu_bind, pu_10, if_false]
  rw [c_isRow hb]
  simp only [pu_bind, pu_10, if_false, (c_grid43 hc).1, (c_grid43 hc).2, hT, if_true, hC]
theorem s_begin : lq_S_begin jR := by
  intro x σ τ hR
  have hR0 := hR
  obtain ⟨nc, nb, U, G, F1, F2, lv, H, N, O, B, ht, h1, h2, h3, h4, h5, h6, h7⟩ := hR
  by_cases hr : σ.1 0 5 = 0
  · refine ⟨(0, 0, σ), (0, 0, τ), ?_, ?_, rfl, hR0⟩
    · rw [show (100 : Nat) = 98 + 1 + 1 from rfl, cp_80_g, if_pos hr]
    · rw [show (100 : Nat) = 98 + 1 + 1 from rfl, rp_43_g, if_pos (by rw [← h7.1]; exact hr)]
  · have hr2 : ¬ τ.1 0 15 = 0 := by rw [← h7.1]; exact hr
    rcases thread_or x with h | ⟨j, hj, rfl⟩
    · refine ⟨(0, 0, σ), (0, 0, τ), ?_, ?_, rfl, hR0⟩
      · rw [show (100 : Nat) = 98 + 1 + 1 from rfl, cp_80_g, if_neg hr, c_isThread_n h]; rfl
      · rw [show (100 : Nat) = 98 + 1 + 1 from rfl, rp_43_g, if_neg hr2, r_isThread_n h]; rfl
    · have hT := pu_T (show j < 4 by omega) (by decide)
      have hC := pu_cl (show j < 4 by omega) (by decide)
      have ea : τ.1 32 j = σ.1 42 j := (h6.1 j (by omega)).symm
      by_cases ha : σ.1 42 j = 0
      · refine ⟨(1, 0, (mm_w σ.1 42 j 1, σ.2)), (1, 0, (mm_w τ.1 32 j 1, τ.2)), ?_, ?_, rfl, ?_⟩
        · rw [show (100 : Nat) = 97 + 2 + 1 from rfl, cp_80_g, if_neg hr, c_isThread hj]
          simp only [pu_bind, pu_10, if_false]
          rw [c_isActive (by omega)]
          simp only [pu_bind, ha, decide_true, Bool.not_true, pb_if, Bool.false_eq_true, if_false]
          rw [c_open (by omega)]
          rfl
        · rw [show (100 : Nat) = 97 + 2 + 1 from rfl, rp_43_g, if_neg hr2, r_isThread hj]
          simp only [pu_bind, pu_10, if_false, hT, if_true, hC, ea, ha]
        · have q : stA σ (mm_w σ.1 42 j 1, σ.2) := ⟨fun c _ _ => mm_w_ne (by omega), by simp [mm_w], by simp [mm_w]⟩
          have r : stR τ (mm_w τ.1 32 j 1, τ.2) := ⟨fun c _ _ => mm_w_ne (by omega), by simp [mm_w], by simp [mm_w]⟩
          have r16 : mm_w τ.1 32 j 1 16 = τ.1 16 := mm_w_ne (by decide)
          have r14 : mm_w τ.1 32 j 1 14 = τ.1 14 := mm_w_ne (by decide)
          refine ⟨nc, nb, U, G, F1, F2, lv, H, N, O, B, ht, cI_A q h1, sT_A q r h2, jX_A q h3, jP_A q (fun c _ _ _ => mm_w_ne (by omega)) (by simp [mm_w]) r16 r14 (jX_pt h3) h4, jI_A (fun c _ => mm_w_ne (by omega)) (fun c _ _ => mm_w_ne (by omega)) (by simp [mm_w]) (by simp [mm_w]) h5, ⟨fun c hc => ?_, fun c b hc hb => ?_, jU_A (fun k _ _ => mm_w_ne (by omega)) h6.2.2⟩, ?_⟩
          · show mm_w σ.1 42 j 1 42 c = mm_w τ.1 32 j 1 32 c
            rw [mm_w_eq, mm_w_eq]
            show (if c = j then (1 : Int32) else σ.1 42 c) = (if c = j then (1 : Int32) else τ.1 32 c)
            rw [h6.1 c hc]
          · obtain ⟨n, e1, e2, e3⟩ := h6.2.1 c b hc hb
            refine ⟨n, (congrFun (mm_w_ne (by omega)) b).trans e1, (show mm_w τ.1 32 j 1 33 (16 * c + b) = nI n from (mm_w_off (by decide)).trans e2), e3.imp id fun ⟨a1, a2, a3, a4, a5, a6, a7, a8⟩ => ⟨a1, a2, a3, ?_, a5, a6, ?_, ?_⟩⟩
            · exact a4
            · exact a7
            · show ¬ mm_w σ.1 42 j 1 42 c = 0
              rw [mm_w_eq]
              show ¬ (if c = j then (1 : Int32) else σ.1 42 c) = 0
              split
              · decide
              · exact a8
          · exact h7
      · refine ⟨(0, 0, σ), (0, 0, τ), ?_, ?_, rfl, hR0⟩
        · rw [show (100 : Nat) = 97 + 2 + 1 from rfl, cp_80_g, if_neg hr, c_isThread hj]
          simp only [pu_bind, pu_10, if_false]
          rw [c_isActive (by omega)]
          simp only [pu_bind, ha, decide_false, Bool.not_false, pb_if, if_true]
        · rw [show (100 : Nat) = 97 + 2 + 1 from rfl, rp_43_g, if_neg hr2, r_isThread hj]
          simp only [pu_bind, pu_10, if_false, hT, if_true, hC, ea, ha]
