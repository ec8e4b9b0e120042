/-! the two programs over the small machine -/
abbrev cG : Nat → Nat → List Value → mm_S → Option mm_R := mm_G sc cp_P
abbrev rG : Nat → Nat → List Value → mm_S → Option mm_R := mm_G sr rp_P
theorem mm_entry {sh : List mm_Sh} {P : List mm_M} {d m o maxL p rk : Nat} {args L : List Value} {σ : mm_S} {y : MethodName} {cc : ByteArray} {ret : Option FieldType} {labs : List (Nat × List mm_Row)} {rows : List mm_Row} (n K : Nat) (hM : P[m]? = some (o, y, cc, maxL, ret, labs)) (hq : labs[0]? = some (p, rows)) (hp : (args.all mm_plain && decide ((mm_ent args).length ≤ maxL)) = true) (hL : mm_loc args maxL = L) (hr : mm_rk ret = rk) (hf : n + K = 100000000) : mm_G sh P (d + 1) m args σ = mm_ex sh (mm_G sh P d) rk labs (n + K) rows L [] σ := by
  subst hL
  subst hr
  rw [hf]
  simp only [mm_G]
  rw [hM, Option.bind_some]
  dsimp only
  rw [hq, Option.bind_some]
  dsimp only
  exact if_pos hp
