/-! all methods agree; the two first states -/
theorem jSim : lq_Sim jR := ⟨s_declare, s_manage, s_produce, s_inject, s_types, s_fits, s_candidates, s_resolve, s_deploy, s_cost, s_begin, s_end, s_obtain, s_call, s_destroy, s_shutdown, s_beanOf, s_owner, s_destroyed, s_live⟩
def c0 : mm_S := (fun k j => if k = 1 ∧ j = 0 then 1 else if k = 11 ∧ j = 1 then 2 else 0, fun _ _ => 0)
def r0 : mm_S := (fun k j => if k = 0 ∧ j = 0 then 1 else 0, fun _ _ => 0)
theorem c0_z {k j : Nat} (h1 : k ≠ 1) (h2 : k ≠ 11) : c0.1 k j = 0 := by
  unfold c0
  simp only
  rw [if_neg (fun q => h1 q.1), if_neg (fun q => h2 q.1)]
theorem r0_z {k j : Nat} (h1 : k ≠ 0) : r0.1 k j = 0 := by
  unfold r0
  simp only
  rw [if_neg (fun q => h1 q.1)]
theorem r0_0 {j : Nat} (h : j ≠ 0) : r0.1 0 j = 0 := by
  unfold r0
  simp only
  rw [if_neg (fun q => h q.2)]
theorem c0_f {k : Nat} (h1 : k ≠ 1) (h2 : k ≠ 11) : c0.1 k = fun _ => 0 := funext fun _ => c0_z h1 h2
theorem r0_f {k : Nat} (h1 : k ≠ 0) : r0.1 k = fun _ => 0 := funext fun _ => r0_z h1
theorem jR_0 : jR c0 r0 := by
  refine ⟨1, 0, 0, 0, fun _ => 0, fun _ => 0, fun _ => 0, fun h => if h = 1 then 2 else 0, fun _ _ => 0, fun _ => 0, fun _ => 0, fun _ => 0, ⟨⟨rfl, by decide⟩, by decide, ⟨c0_z (by decide) (by decide), by decide⟩, ?_, rfl, ?_, ?_, ?_, c0_z (by decide) (by decide), fun j hj => absurd hj (Nat.not_lt_zero _), fun j hj => absurd hj (Nat.not_lt_zero _)⟩, ⟨rfl, ?_, ?_, ?_, ?_, ?_, ?_, ?_, ?_, ?_, ?_, ?_, ?_, ?_⟩, ⟨fun _ _ => ⟨rfl, rfl⟩, fun h _ => c0_z (by decide) (by decide), fun h => Or.inl (c0_z (by decide) (by decide)), fun j hj => absurd hj (Nat.not_lt_zero _), fun j _ => ⟨c0_z (by decide) (by decide), c0_z (by decide) (by decide)⟩⟩, ⟨fun b p hp => (c0_z (by omega) (by omega)).trans (r0_z (by decide)).symm, fun q => absurd (c0_z (by decide) (by decide)) q⟩, ?_, ⟨fun c _ => (c0_z (by decide) (by decide)).trans (r0_z (by decide)).symm, fun c b _ _ => ⟨0, c0_z (by omega) (by omega), r0_z (by decide), Or.inl rfl⟩, fun c c' b _ _ _ _ q => absurd (c0_z (by omega) (by omega)) q⟩, ?_⟩
  · intro h _
    exact ⟨⟨(by decide : 0 < 32768), (by decide : ¬ 0 % 32 = 31), (by decide : 0 / 32 % 32 = 31 → 0 / 1024 = 0)⟩, ⟨(by decide : 0 < 32768), (by decide : ¬ 0 % 32 = 31), (by decide : 0 / 32 % 32 = 31 → 0 / 1024 = 0)⟩, (by decide : 0 ≤ 3), Or.inl rfl, Or.inl rfl⟩
  · intro h _
    exact ⟨c0_z (by decide) (by decide), c0_z (by decide) (by decide)⟩
  · intro h h1 h2
    have e : h = 1 := by omega
    subst e
    exact ⟨Or.inl rfl, Or.inl rfl, by decide, by decide, fun q => absurd rfl q, fun q => absurd rfl q⟩
  · intro h _
    by_cases e : h = 1
    · subst e; exact ⟨rfl, by decide⟩
    · refine ⟨?_, by simp only [if_neg e]; decide⟩
      show c0.1 11 h = nI (if h = 1 then 2 else 0)
      rw [if_neg e]
      unfold c0
      simp only
      rw [if_neg (fun q => absurd q.1 (by decide)), if_neg (fun q => e q.2)]
      rfl
  · rw [c0_z (by decide) (by decide), r0_0 (by decide)]
  · rw [c0_f (by decide) (by decide), r0_f (by decide)]
  · rw [c0_f (by decide) (by decide), r0_f (by decide)]
  · rw [c0_f (by decide) (by decide), r0_f (by decide)]
  · intro h
    exact ⟨(c0_z (by decide) (by decide)).trans (r0_z (by decide)).symm, (c0_z (by decide) (by decide)).trans (r0_z (by decide)).symm⟩
  · rw [c0_f (by decide) (by decide), r0_f (by decide)]
  · rw [c0_f (by decide) (by decide), r0_f (by decide)]
  · rw [c0_f (by decide) (by decide), r0_f (by decide)]
  · rw [c0_f (by decide) (by decide), r0_f (by decide)]
  · rw [c0_f (by decide) (by decide), r0_f (by decide)]
  · rw [c0_f (by decide) (by decide), r0_f (by decide)]
  · rw [c0_f (by decide) (by decide), r0_f (by decide)]
  · intro b p hp
    exact ⟨(c0_z (by omega) (by omega)).trans (r0_z (by decide)).symm, (c0_z (by omega) (by omega)).trans (r0_z (by decide)).symm⟩
  · refine ⟨by decide, by decide, c0_z (by decide) (by decide), c0_z (by decide) (by decide), c0_z (by decide) (by decide), r0_0 (by decide), r0_0 (by decide), ?_, ?_, ?_, ?_, rfl, fun x _ => ⟨fun _ => rfl, r0_z (by decide), c0_z (by decide) (by decide)⟩, fun x p hp => c0_z (by omega) (by omega), fun x h1 h2 => by omega⟩
    · rw [c0_f (by decide) (by decide), r0_f (by decide)]
    · rw [c0_f (by decide) (by decide), r0_f (by decide)]
    · rw [c0_f (by decide) (by decide), r0_f (by decide)]
    · rw [c0_f (by decide) (by decide), r0_f (by decide)]
  · exact ⟨(c0_z (by decide) (by decide)).trans (r0_0 (by decide)).symm, Or.inl (c0_z (by decide) (by decide))⟩
