section
/-! THE SMALL MACHINE. A fixed set of cells (objects and arrays, made by the constructors, never more), a pure state, an interpreter over it that is a function; its soundness against the machine is proved once, in 02. Refs are numbers of cells. -/
abbrev mm_S : Type := (Nat → Nat → Int32) × (Nat → Nat → Int64)
/-- a cell: an object (class, fields: (0,_) int, (1,_) boolean, (2,k) the cell k), or an array (0 int, 1 boolean, 2 long, 3 of rows; length; the rows' cells) -/
abbrev mm_Sh : Type := (Nat × List (Nat × Nat)) ⊕ (Nat × Nat × List Nat)
abbrev mm_Row : Type := Instr × Nat × Nat × Int32 × Int64
abbrev mm_R : Type := Int32 × Int64 × mm_S
def mm_w {α : Type} (f : Nat → Nat → α) (k j : Nat) (v : α) : Nat → Nat → α := fun k' => if k' = k then (fun j' => if j' = j then v else f k j') else f k'
abbrev mm_in (i : Int32) (n : Nat) : Prop := ¬ (i < 0 ∨ n ≤ i.toNatClampNeg)
def mm_i1 (st : List Value) (f : Int32 → List Value → Option mm_R) : Option mm_R := match st with
  | .int x :: s => f x s
  | _ => none
def mm_i2 (st : List Value) (f : Int32 → Int32 → List Value → Option mm_R) : Option mm_R := match st with
  | .int y :: .int x :: s => f x y s
  | _ => none
def mm_l1 (st : List Value) (f : Int64 → List Value → Option mm_R) : Option mm_R := match st with
  | .long x :: s => f x s
  | _ => none
def mm_l2 (st : List Value) (f : Int64 → Int64 → List Value → Option mm_R) : Option mm_R := match st with
  | .long y :: .long x :: s => f x y s
  | _ => none
def mm_li (st : List Value) (f : Int64 → Int32 → List Value → Option mm_R) : Option mm_R := match st with
  | .int y :: .long x :: s => f x y s
  | _ => none
def mm_a1 (st : List Value) (f : Nat → List Value → Option mm_R) : Option mm_R := match st with
  | .ref k :: s => f k s
  | _ => none
def mm_ai (st : List Value) (f : Nat → Int32 → List Value → Option mm_R) : Option mm_R := match st with
  | .int i :: .ref k :: s => f k i s
  | _ => none
def mm_aii (st : List Value) (f : Nat → Int32 → Int32 → List Value → Option mm_R) : Option mm_R := match st with
  | .int x :: .int i :: .ref k :: s => f k i x s
  | _ => none
def mm_ail (st : List Value) (f : Nat → Int32 → Int64 → List Value → Option mm_R) : Option mm_R := match st with
  | .long x :: .int i :: .ref k :: s => f k i x s
  | _ => none
def mm_e (st : List Value) (f : Option mm_R) : Option mm_R := match st with
  | [] => f
  | _ => none
theorem mm_i1_inv {st f r} (h : mm_i1 st f = some r) : ∃ x s, st = .int x :: s ∧ f x s = some r := by
  unfold mm_i1 at h; split at h
  · exact ⟨_, _, rfl, h⟩
  · cases h
theorem mm_i2_inv {st f r} (h : mm_i2 st f = some r) : ∃ x y s, st = .int y :: .int x :: s ∧ f x y s = some r := by
  unfold mm_i2 at h; split at h
  · exact ⟨_, _, _, rfl, h⟩
  · cases h
theorem mm_l1_inv {st f r} (h : mm_l1 st f = some r) : ∃ x s, st = .long x :: s ∧ f x s = some r := by
  unfold mm_l1 at h; split at h
  · exact ⟨_, _, rfl, h⟩
  · cases h
theorem mm_l2_inv {st f r} (h : mm_l2 st f = some r) : ∃ x y s, st = .long y :: .long x :: s ∧ f x y s = some r := by
  unfold mm_l2 at h; split at h
  · exact ⟨_, _, _, rfl, h⟩
  · cases h
theorem mm_li_inv {st f r} (h : mm_li st f = some r) : ∃ x y s, st = .int y :: .long x :: s ∧ f x y s = some r := by
  unfold mm_li at h; split at h
  · exact ⟨_, _, _, rfl, h⟩
  · cases h
theorem mm_a1_inv {st f r} (h : mm_a1 st f = some r) : ∃ k s, st = .ref k :: s ∧ f k s = some r := by
  unfold mm_a1 at h; split at h
  · exact ⟨_, _, rfl, h⟩
  · cases h
theorem mm_ai_inv {st f r} (h : mm_ai st f = some r) : ∃ k i s, st = .int i :: .ref k :: s ∧ f k i s = some r := by
  unfold mm_ai at h; split at h
  · exact ⟨_, _, _, rfl, h⟩
  · cases h
theorem mm_aii_inv {st f r} (h : mm_aii st f = some r) : ∃ k i x s, st = .int x :: .int i :: .ref k :: s ∧ f k i x s = some r := by
  unfold mm_aii at h; split at h
  · exact ⟨_, _, _, _, rfl, h⟩
  · cases h
theorem mm_ail_inv {st f r} (h : mm_ail st f = some r) : ∃ k i x s, st = .long x :: .int i :: .ref k :: s ∧ f k i x s = some r := by
  unfold mm_ail at h; split at h
  · exact ⟨_, _, _, _, rfl, h⟩
  · cases h
theorem mm_e_inv {st f r} (h : mm_e st f = some r) : st = [] ∧ f = some r := by
  unfold mm_e at h; split at h
  · exact ⟨rfl, h⟩
  · cases h
def mm_ldi (L : List Value) (k : Nat) : Option Int32 := match L[k]? with
  | some (.int x) => some x
  | _ => none
def mm_ldl (L : List Value) (k : Nat) : Option Int64 := match L[k]? with
  | some (.long x) => some x
  | _ => none
def mm_lda (L : List Value) (k : Nat) : Option Nat := match L[k]? with
  | some (.ref x) => some x
  | _ => none
def mm_clash (L : List Value) (i : Nat) : Bool := match i with
  | 0 => false
  | j + 1 => match L[j]? with
    | some v => decide (v.category = 2)
    | none => false
def mm_st1 (L : List Value) (i : Nat) (v : Value) : Option (List Value) := if (decide (i < L.length) && !mm_clash L i) = true then some (L.set i v) else none
def mm_st2 (L : List Value) (i : Nat) (v : Value) : Option (List Value) := if (decide (i + 1 < L.length) && !mm_clash L i) = true then some ((L.set i v).set (i + 1) .null) else none
theorem mm_ldi_inv {L k x} (h : mm_ldi L k = some x) : L[k]? = some (.int x) := by
  unfold mm_ldi at h; split at h
  · cases h; assumption
  · cases h
theorem mm_ldl_inv {L k x} (h : mm_ldl L k = some x) : L[k]? = some (.long x) := by
  unfold mm_ldl at h; split at h
  · cases h; assumption
  · cases h
theorem mm_lda_inv {L k x} (h : mm_lda L k = some x) : L[k]? = some (.ref x) := by
  unfold mm_lda at h; split at h
  · cases h; assumption
  · cases h
def mm_fld (sh : List mm_Sh) (σ : mm_S) (ci k j : Nat) : Option Value := match sh[k]? with
  | some (.inl (c, fs)) => if c = ci then (match fs[j]? with
    | some (t, q) => some (if t = 2 then .ref q else .int (σ.1 k j))
    | none => none) else none
  | _ => none
def mm_pf (sh : List mm_Sh) (ci k j : Nat) (x : Int32) : Option Unit := match sh[k]? with
  | some (.inl (c, fs)) => if c = ci then (match fs[j]? with
    | some (t, _) => if t = 0 then some () else if t = 1 then (if x = 0 ∨ x = 1 then some () else none) else none
    | none => none) else none
  | _ => none
def mm_arr (sh : List mm_Sh) (k kd : Nat) : Option Nat := match sh[k]? with
  | some (.inr (d, n, _)) => if d = kd then some n else none
  | _ => none
def mm_grid (sh : List mm_Sh) (k : Nat) (i : Int32) : Option Nat := match sh[k]? with
  | some (.inr (d, n, rw)) => if d = 3 then (if mm_in i n then rw[i.toNatClampNeg]? else none) else none
  | _ => none
def mm_cargs (sh : List mm_Sh) (na ci : Nat) (st : List Value) : Option (List Value × List Value) := match (st.take na).reverse with
  | .ref k :: As => match sh[k]? with
    | some (.inl (c, _)) => if (decide (c = ci) && (decide ((st.drop na).length ≤ 4) && decide (na ≤ st.length))) = true then some (.ref k :: As, st.drop na) else none
    | _ => none
  | _ => none
def mm_sargs (na : Nat) (st : List Value) : Option (List Value × List Value) := if (decide ((st.drop na).length ≤ 4) && decide (na ≤ st.length)) = true then some ((st.take na).reverse, st.drop na) else none
def mm_push (rk : Nat) (u : mm_R) (st : List Value) : List Value := match rk with
  | 0 => st
  | 2 => .long u.2.1 :: st
  | _ => .int u.1 :: st
def mm_ex (sh : List mm_Sh) (call : Nat → List Value → mm_S → Option mm_R) (rk : Nat) (labs : List (Nat × List mm_Row)) : Nat → List mm_Row → List Value → List Value → mm_S → Option mm_R
  | 0, _, _, _, _ => none
  | _ + 1, [], _, _, _ => none
  | n + 1, (i, r1, r2, v, w) :: rs, L, st, σ => match i with
    | .iconst _ => mm_ex sh call rk labs n rs L (.int v :: st) σ
    | .bipush _ => mm_ex sh call rk labs n rs L (.int v :: st) σ
    | .sipush _ => mm_ex sh call rk labs n rs L (.int v :: st) σ
    | .ldc _ => mm_ex sh call rk labs n rs L (.int v :: st) σ
    | .ldc_w _ => mm_ex sh call rk labs n rs L (.int v :: st) σ
    | .lconst _ => mm_ex sh call rk labs n rs L (.long w :: st) σ
    | .ldc2_w _ => mm_ex sh call rk labs n rs L (.long w :: st) σ
    | .iload k => (mm_ldi L k).bind fun x => mm_ex sh call rk labs n rs L (.int x :: st) σ
    | .iload_n k => (mm_ldi L k.val).bind fun x => mm_ex sh call rk labs n rs L (.int x :: st) σ
    | .lload k => (mm_ldl L k).bind fun x => mm_ex sh call rk labs n rs L (.long x :: st) σ
    | .lload_n k => (mm_ldl L k.val).bind fun x => mm_ex sh call rk labs n rs L (.long x :: st) σ
    | .aload k => (mm_lda L k).bind fun x => mm_ex sh call rk labs n rs L (.ref x :: st) σ
    | .aload_n k => (mm_lda L k.val).bind fun x => mm_ex sh call rk labs n rs L (.ref x :: st) σ
    | .istore k => mm_i1 st fun x s => (mm_st1 L k (.int x)).bind fun L' => mm_ex sh call rk labs n rs L' s σ
    | .istore_n k => mm_i1 st fun x s => (mm_st1 L k.val (.int x)).bind fun L' => mm_ex sh call rk labs n rs L' s σ
    | .lstore k => mm_l1 st fun x s => (mm_st2 L k (.long x)).bind fun L' => mm_ex sh call rk labs n rs L' s σ
    | .lstore_n k => mm_l1 st fun x s => (mm_st2 L k.val (.long x)).bind fun L' => mm_ex sh call rk labs n rs L' s σ
    | .iinc k _ => (mm_ldi L k).bind fun x => (mm_st1 L k (.int (x + v))).bind fun L' => mm_ex sh call rk labs n rs L' st σ
    | .iadd => mm_i2 st fun x y s => mm_ex sh call rk labs n rs L (.int (x + y) :: s) σ
    | .isub => mm_i2 st fun x y s => mm_ex sh call rk labs n rs L (.int (x - y) :: s) σ
    | .imul => mm_i2 st fun x y s => mm_ex sh call rk labs n rs L (.int (x * y) :: s) σ
    | .iand => mm_i2 st fun x y s => mm_ex sh call rk labs n rs L (.int (x &&& y) :: s) σ
    | .ior => mm_i2 st fun x y s => mm_ex sh call rk labs n rs L (.int (x ||| y) :: s) σ
    | .ixor => mm_i2 st fun x y s => mm_ex sh call rk labs n rs L (.int (x ^^^ y) :: s) σ
    | .ishl => mm_i2 st fun x y s => mm_ex sh call rk labs n rs L (.int (x <<< (y &&& 31)) :: s) σ
    | .ishr => mm_i2 st fun x y s => mm_ex sh call rk labs n rs L (.int (x >>> (y &&& 31)) :: s) σ
    | .iushr => mm_i2 st fun x y s => mm_ex sh call rk labs n rs L (.int ((x.toUInt32 >>> (y.toUInt32 &&& Int32.toUInt32 31)).toInt32) :: s) σ
    | .ladd => mm_l2 st fun x y s => mm_ex sh call rk labs n rs L (.long (x + y) :: s) σ
    | .land => mm_l2 st fun x y s => mm_ex sh call rk labs n rs L (.long (x &&& y) :: s) σ
    | .lor => mm_l2 st fun x y s => mm_ex sh call rk labs n rs L (.long (x ||| y) :: s) σ
    | .lcmp => mm_l2 st fun x y s => mm_ex sh call rk labs n rs L (.int (lg_cmp x y) :: s) σ
    | .lshl => mm_li st fun x y s => mm_ex sh call rk labs n rs L (.long (x <<< (y.toInt64 &&& 63)) :: s) σ
    | .lshr => mm_li st fun x y s => mm_ex sh call rk labs n rs L (.long (x >>> (y.toInt64 &&& 63)) :: s) σ
    | .i2l => mm_i1 st fun x s => mm_ex sh call rk labs n rs L (.long x.toInt64 :: s) σ
    | .l2i => mm_l1 st fun x s => mm_ex sh call rk labs n rs L (.int x.toInt32 :: s) σ
    | .dup => mm_a1 st fun k s => mm_ex sh call rk labs n rs L (.ref k :: .ref k :: s) σ
    | .dup2 => mm_ai st fun k i s => mm_ex sh call rk labs n rs L (.int i :: .ref k :: .int i :: .ref k :: s) σ
    | .pop => mm_i1 st fun _ s => mm_ex sh call rk labs n rs L s σ
    | .ifCond .eq _ => mm_i1 st fun x s => if x = 0 then (labs[r1]?).bind fun q => mm_ex sh call rk labs n q.2 L s σ else mm_ex sh call rk labs n rs L s σ
    | .ifCond .ne _ => mm_i1 st fun x s => if x = 0 then mm_ex sh call rk labs n rs L s σ else (labs[r1]?).bind fun q => mm_ex sh call rk labs n q.2 L s σ
    | .ifCond .lt _ => mm_i1 st fun x s => if x < 0 then (labs[r1]?).bind fun q => mm_ex sh call rk labs n q.2 L s σ else mm_ex sh call rk labs n rs L s σ
    | .ifCond .ge _ => mm_i1 st fun x s => if 0 ≤ x then (labs[r1]?).bind fun q => mm_ex sh call rk labs n q.2 L s σ else mm_ex sh call rk labs n rs L s σ
    | .ifCond .gt _ => mm_i1 st fun x s => if 0 < x then (labs[r1]?).bind fun q => mm_ex sh call rk labs n q.2 L s σ else mm_ex sh call rk labs n rs L s σ
    | .ifCond .le _ => mm_i1 st fun x s => if x ≤ 0 then (labs[r1]?).bind fun q => mm_ex sh call rk labs n q.2 L s σ else mm_ex sh call rk labs n rs L s σ
    | .if_icmp .eq _ => mm_i2 st fun x y s => if x = y then (labs[r1]?).bind fun q => mm_ex sh call rk labs n q.2 L s σ else mm_ex sh call rk labs n rs L s σ
    | .if_icmp .ne _ => mm_i2 st fun x y s => if x = y then mm_ex sh call rk labs n rs L s σ else (labs[r1]?).bind fun q => mm_ex sh call rk labs n q.2 L s σ
    | .if_icmp .lt _ => mm_i2 st fun x y s => if x < y then (labs[r1]?).bind fun q => mm_ex sh call rk labs n q.2 L s σ else mm_ex sh call rk labs n rs L s σ
    | .if_icmp .ge _ => mm_i2 st fun x y s => if y ≤ x then (labs[r1]?).bind fun q => mm_ex sh call rk labs n q.2 L s σ else mm_ex sh call rk labs n rs L s σ
    | .if_icmp .gt _ => mm_i2 st fun x y s => if y < x then (labs[r1]?).bind fun q => mm_ex sh call rk labs n q.2 L s σ else mm_ex sh call rk labs n rs L s σ
    | .if_icmp .le _ => mm_i2 st fun x y s => if x ≤ y then (labs[r1]?).bind fun q => mm_ex sh call rk labs n q.2 L s σ else mm_ex sh call rk labs n rs L s σ
    | .goto _ => (labs[r1]?).bind fun q => mm_ex sh call rk labs n q.2 L st σ
    | .tableswitch _ lo hi _ => mm_i1 st fun x s => if x.toInt < lo ∨ hi < x.toInt then (labs[r2]?).bind fun q => mm_ex sh call rk labs n q.2 L s σ else (labs[r1 + (x.toInt - lo).toNat]?).bind fun q => mm_ex sh call rk labs n q.2 L s σ
    | .getfield _ => mm_a1 st fun k s => (mm_fld sh σ r1 k r2).bind fun u => mm_ex sh call rk labs n rs L (u :: s) σ
    | .putfield _ => mm_ai st fun k x s => (mm_pf sh r1 k r2 x).bind fun _ => mm_ex sh call rk labs n rs L s (mm_w σ.1 k r2 x, σ.2)
    | .iaload => mm_ai st fun k i s => (mm_arr sh k 0).bind fun z => if mm_in i z then mm_ex sh call rk labs n rs L (.int (σ.1 k i.toNatClampNeg) :: s) σ else none
    | .baload => mm_ai st fun k i s => (mm_arr sh k 1).bind fun z => if mm_in i z then mm_ex sh call rk labs n rs L (.int (σ.1 k i.toNatClampNeg) :: s) σ else none
    | .laload => mm_ai st fun k i s => (mm_arr sh k 2).bind fun z => if mm_in i z then mm_ex sh call rk labs n rs L (.long (σ.2 k i.toNatClampNeg) :: s) σ else none
    | .aaload => mm_ai st fun k i s => (mm_grid sh k i).bind fun q => mm_ex sh call rk labs n rs L (.ref q :: s) σ
    | .iastore => mm_aii st fun k i x s => (mm_arr sh k 0).bind fun z => if mm_in i z then mm_ex sh call rk labs n rs L s (mm_w σ.1 k i.toNatClampNeg x, σ.2) else none
    | .bastore => mm_aii st fun k i x s => (mm_arr sh k 1).bind fun z => if mm_in i z then (if x = 0 ∨ x = 1 then mm_ex sh call rk labs n rs L s (mm_w σ.1 k i.toNatClampNeg x, σ.2) else none) else none
    | .lastore => mm_ail st fun k i x s => (mm_arr sh k 2).bind fun z => if mm_in i z then mm_ex sh call rk labs n rs L s (σ.1, mm_w σ.2 k i.toNatClampNeg x) else none
    | .invokevirtual _ => (mm_cargs sh (r2 % 16) (r2 / 64) st).bind fun q => (call r1 q.1 σ).bind fun u => mm_ex sh call rk labs n rs L (mm_push (r2 / 16 % 4) u q.2) u.2.2
    | .invokestatic _ => match r1 with
      | 1000 => mm_i2 st fun x y s => if s.length ≤ 4 then mm_ex sh call rk labs n rs L (.int (if x < y then y else x) :: s) σ else none
      | 1001 => mm_i2 st fun x y s => if s.length ≤ 4 then mm_ex sh call rk labs n rs L (.int (if y < x then y else x) :: s) σ else none
      | _ => (mm_sargs (r2 % 16) st).bind fun q => (call r1 q.1 σ).bind fun u => mm_ex sh call rk labs n rs L (mm_push (r2 / 16 % 4) u q.2) u.2.2
    | .ireturn => mm_i1 st fun x s => mm_e s (if rk = 1 then some (x, 0, σ) else if rk = 3 then (if x = 0 ∨ x = 1 then some (x, 0, σ) else none) else none)
    | .lreturn => mm_l1 st fun x s => mm_e s (if rk = 2 then some (0, x, σ) else none)
    | .return_ => mm_e st (if rk = 0 then some (0, 0, σ) else none)
    | _ => none
def mm_plain : Value → Bool
  | .int _ => true
  | .long _ => true
  | .ref _ => true
  | _ => false
def mm_ent : List Value → List Value
  | [] => []
  | .long x :: vs => .long x :: .null :: mm_ent vs
  | v :: vs => v :: mm_ent vs
def mm_loc (args : List Value) (maxL : Nat) : List Value := mm_ent args ++ List.replicate (maxL - (mm_ent args).length) .null
/-- a method: the number of its class, its name, code, locals, answer's type, its labels (first: the entry) with the rows from there on -/
abbrev mm_M : Type := Nat × MethodName × ByteArray × Nat × Option FieldType × List (Nat × List mm_Row)
def mm_rk (ret : Option FieldType) : Nat := match ret with
  | none => 0
  | some .int => 1
  | some .long => 2
  | some .boolean => 3
  | _ => 9
def mm_G (sh : List mm_Sh) (P : List mm_M) : Nat → Nat → List Value → mm_S → Option mm_R
  | 0, _, _, _ => none
  | d + 1, m, args, σ => (P[m]?).bind fun M => (M.2.2.2.2.2[0]?).bind fun q =>
    if (args.all mm_plain && decide ((mm_ent args).length ≤ M.2.2.2.1)) = true then mm_ex sh (mm_G sh P d) (mm_rk M.2.2.2.2.1) M.2.2.2.2.2 100000000 q.2 (mm_loc args M.2.2.2.1) [] σ else none
end
section
/-! THE SMALL MACHINE IS SOUND. Cells: mm_wo. A method's contract: mm_Pc, mm_Q. What the tables must say: mm_OK. Then mm_all: what mm_G answers, the machine does. -/
def mm_rho (a : Nat → Nat) (v : Value) : Value := match v with
  | .ref k => .ref (a k)
  | v => v
theorem mm_rho_cat (a : Nat → Nat) (v : Value) : (mm_rho a v).category = v.category := by cases v <;> rfl
def mm_lok (a : Nat → Nat) (ls : Array Slot) (nL : Nat) (L : List Value) : Prop := ls.size = nL ∧ lv_wf ls ∧ L.length = nL ∧ ∀ (i : Nat) (v : Value), L[i]? = some v → v ≠ .null → ls[i]? = some (.val (mm_rho a v))
def mm_prs (a : Nat → Nat) (L : List Value) : List (Nat × Value) := (List.range L.length).filterMap fun i => (L[i]?).bind fun v => if v = .null then none else some (i, mm_rho a v)
theorem mm_prs_mem {a : Nat → Nat} {L : List Value} {q : Nat × Value} : q ∈ mm_prs a L ↔ ∃ v, L[q.1]? = some v ∧ v ≠ .null ∧ q.2 = mm_rho a v := by
  unfold mm_prs
  rw [List.mem_filterMap]
  constructor
  · rintro ⟨i, -, h⟩
    cases hv : L[i]? with
    | none => rw [hv] at h; cases h
    | some v =>
      rw [hv] at h
      by_cases hn : v = .null
      · simp [hn] at h
      · simp [hn] at h
        subst h
        exact ⟨v, hv, hn, rfl⟩
  · rintro ⟨v, h1, h2, h3⟩
    refine ⟨q.1, List.mem_range.mpr (List.getElem?_eq_some_iff.mp h1).1, ?_⟩
    rw [h1]
    simp [h2, ← h3]
theorem mm_lok.has {a : Nat → Nat} {ls : Array Slot} {nL : Nat} {L : List Value} (h : mm_lok a ls nL L) : lv_has ls nL (mm_prs a L) := ⟨h.1, h.2.1, fun q hq => by
  obtain ⟨v, h1, h2, h3⟩ := mm_prs_mem.mp hq
  rw [h3]
  exact h.2.2.2 _ _ h1 h2⟩
theorem mm_lok.at {a : Nat → Nat} {ls : Array Slot} {nL : Nat} {L : List Value} (h : mm_lok a ls nL L) {i : Nat} {v : Value} (hv : L[i]? = some v) (hn : v ≠ .null) : ls[i]? = some (.val (mm_rho a v)) := h.2.2.2 i v hv hn
theorem mm_st1_inv {L L' : List Value} {i : Nat} {v : Value} (h : mm_st1 L i v = some L') : i < L.length ∧ mm_clash L i = false ∧ L' = L.set i v := by
  unfold mm_st1 at h
  split at h
  · rename_i hc
    simp only [Bool.and_eq_true, decide_eq_true_eq, Bool.not_eq_true'] at hc
    cases h
    exact ⟨hc.1, hc.2, rfl⟩
  · cases h
theorem mm_st2_inv {L L' : List Value} {i : Nat} {v : Value} (h : mm_st2 L i v = some L') : i + 1 < L.length ∧ mm_clash L i = false ∧ L' = (L.set i v).set (i + 1) .null := by
  unfold mm_st2 at h
  split at h
  · rename_i hc
    simp only [Bool.and_eq_true, decide_eq_true_eq, Bool.not_eq_true'] at hc
    cases h
    exact ⟨hc.1, hc.2, rfl⟩
  · cases h
theorem mm_clash_ne {L : List Value} {i j : Nat} {v : Value} (h : mm_clash L i = false) (hj : L[j]? = some v) (hij : j + 1 = i) : ¬ v.category = 2 := by
  subst hij
  simp only [mm_clash, hj, decide_eq_false_iff_not] at h
  exact h
theorem mm_lok.st1 {a : Nat → Nat} {ls ls' : Array Slot} {nL i : Nat} {L L' : List Value} {v w : Value} (h : mm_lok a ls nL L) (hs : mm_st1 L i v = some L') (hw : w = mm_rho a v) (h' : lv_has ls' nL ((i, w) :: (mm_prs a L).filter (fun q => !(q.1 == i) && !(q.1 + 1 == i && q.2.category == 2)))) : mm_lok a ls' nL L' := by
  obtain ⟨h1, h2, rfl⟩ := mm_st1_inv hs
  refine ⟨h'.1, h'.2.1, by rw [List.length_set]; exact h.2.2.1, fun j u hj hn => ?_⟩
  by_cases hji : j = i
  · subst hji
    rw [List.getElem?_set_self h1] at hj
    cases hj
    exact h'.2.2 (j, mm_rho a v) (by rw [hw]; exact List.mem_cons_self)
  · rw [List.getElem?_set_ne (Ne.symm hji)] at hj
    refine h'.2.2 (j, mm_rho a u) (List.mem_cons_of_mem _ (List.mem_filter.mpr ⟨mm_prs_mem.mpr ⟨u, hj, hn, rfl⟩, ?_⟩))
    have : ¬ (j + 1 = i ∧ (mm_rho a u).category = 2) := fun q => mm_clash_ne h2 hj q.1 (by rw [← mm_rho_cat a]; exact q.2)
    simp [hji]
    rcases Classical.em (j + 1 = i) with q | q
    · exact Or.inr (fun z => this ⟨q, z⟩)
    · exact Or.inl q
theorem mm_lok.st2 {a : Nat → Nat} {ls ls' : Array Slot} {nL i : Nat} {L L' : List Value} {v w : Value} (h : mm_lok a ls nL L) (hs : mm_st2 L i v = some L') (hw : w = mm_rho a v) (h' : lv_has ls' nL ((i, w) :: (mm_prs a L).filter (fun q => !(q.1 == i) && (!(q.1 == i + 1) && !(q.1 + 1 == i && q.2.category == 2))))) : mm_lok a ls' nL L' := by
  obtain ⟨h1, h2, rfl⟩ := mm_st2_inv hs
  refine ⟨h'.1, h'.2.1, by rw [List.length_set, List.length_set]; exact h.2.2.1, fun j u hj hn => ?_⟩
  by_cases hj1 : j = i + 1
  · subst hj1
    rw [List.getElem?_set_self (by rw [List.length_set]; exact h1)] at hj
    cases hj
    exact absurd rfl hn
  rw [List.getElem?_set_ne (Ne.symm hj1)] at hj
  by_cases hji : j = i
  · subst hji
    rw [List.getElem?_set_self (by omega)] at hj
    cases hj
    exact h'.2.2 (j, mm_rho a v) (by rw [hw]; exact List.mem_cons_self)
  · rw [List.getElem?_set_ne (Ne.symm hji)] at hj
    refine h'.2.2 (j, mm_rho a u) (List.mem_cons_of_mem _ (List.mem_filter.mpr ⟨mm_prs_mem.mpr ⟨u, hj, hn, rfl⟩, ?_⟩))
    have : ¬ (j + 1 = i ∧ (mm_rho a u).category = 2) := fun q => mm_clash_ne h2 hj q.1 (by rw [← mm_rho_cat a]; exact q.2)
    simp [hji, hj1]
    rcases Classical.em (j + 1 = i) with q | q
    · exact Or.inr (fun z => this ⟨q, z⟩)
    · exact Or.inl q
-- the world
def mm_fv (a : Nat → Nat) (σ : mm_S) (k j : Nat) (f : Nat × Nat) : Value := if f.1 = 2 then .ref (a f.2) else .int (σ.1 k j)
def mm_ce (ca : Nat → ClassId) (a : Nat → Nat) (σ : mm_S) (k : Nat) : mm_Sh → va_E
  | .inl (ci, fs) => .inr (ci, fs.mapIdx fun j f => mm_fv a σ k j f)
  | .inr (kd, n, rw) => .inl (ca kd, n, if kd = 2 then .inr (.inl (σ.2 k)) else if kd = 3 then .inr (.inr (.inr (.inr (fun i => (rw[i]?).map a)))) else .inl (σ.1 k))
def mm_wo (sh : List mm_Sh) (ca : Nat → ClassId) (a : Nat → Nat) (σ : mm_S) : va_W := sh.mapIdx fun k x => (a k, mm_ce ca a σ k x)
def mm_tys (ca : Nat → ClassId) : List (ClassId × FieldType) := [(ca 0, .int), (ca 1, .boolean), (ca 2, .long), (ca 3, .array .int)]
theorem mm_wo_at {sh : List mm_Sh} {ca : Nat → ClassId} {a : Nat → Nat} {σ : mm_S} {k : Nat} {x : mm_Sh} (h : sh[k]? = some x) : (mm_wo sh ca a σ)[k]? = some (a k, mm_ce ca a σ k x) := by
  unfold mm_wo
  rw [List.getElem?_mapIdx, h]
  rfl
theorem mm_wo_get {sh : List mm_Sh} {ca : Nat → ClassId} {a : Nat → Nat} {σ : mm_S} {k : Nat} {q : Nat × va_E} (h : (mm_wo sh ca a σ)[k]? = some q) : ∃ x, sh[k]? = some x ∧ q = (a k, mm_ce ca a σ k x) := by
  unfold mm_wo at h
  rw [List.getElem?_mapIdx] at h
  cases hx : sh[k]? with
  | none => rw [hx] at h; cases h
  | some x => rw [hx] at h; exact ⟨x, rfl, (Option.some.inj h).symm⟩
theorem mm_w_ne {α : Type} {f : Nat → Nat → α} {k j k' : Nat} {v : α} (h : k' ≠ k) : mm_w f k j v k' = f k' := by
  unfold mm_w; rw [if_neg h]
theorem mm_w_eq {α : Type} {f : Nat → Nat → α} {k j : Nat} {v : α} : mm_w f k j v k = fun j' => if j' = j then v else f k j' := by
  unfold mm_w; rw [if_pos rfl]
theorem mm_ce_eq {ca : Nat → ClassId} {a : Nat → Nat} {σ σ' : mm_S} {k : Nat} (h1 : σ'.1 k = σ.1 k) (h2 : σ'.2 k = σ.2 k) (x : mm_Sh) : mm_ce ca a σ' k x = mm_ce ca a σ k x := by
  rcases x with ⟨ci, fs⟩ | ⟨kd, n, rw⟩
  · simp only [mm_ce, mm_fv, h1]
  · simp only [mm_ce, h1, h2]
theorem mm_wo_set {sh : List mm_Sh} {ca : Nat → ClassId} {a : Nat → Nat} {σ σ' : mm_S} {k : Nat} {x : mm_Sh} {e : va_E} (h : sh[k]? = some x) (he : mm_ce ca a σ' k x = e) (ho : ∀ k', k' ≠ k → σ'.1 k' = σ.1 k' ∧ σ'.2 k' = σ.2 k') : (mm_wo sh ca a σ).set k (a k, e) = mm_wo sh ca a σ' := by
  have hl : k < (mm_wo sh ca a σ).length := (List.getElem?_eq_some_iff.mp (mm_wo_at (ca := ca) (a := a) (σ := σ) h)).1
  apply List.ext_getElem?
  intro i
  by_cases hi : i = k
  · subst hi
    rw [List.getElem?_set_self hl, mm_wo_at h, he]
  · rw [List.getElem?_set_ne (Ne.symm hi)]
    cases hx : sh[i]? with
    | none =>
      have e1 : (mm_wo sh ca a σ)[i]? = none := by unfold mm_wo; rw [List.getElem?_mapIdx, hx]; rfl
      have e2 : (mm_wo sh ca a σ')[i]? = none := by unfold mm_wo; rw [List.getElem?_mapIdx, hx]; rfl
      rw [e1, e2]
    | some y => rw [mm_wo_at hx, mm_wo_at hx, mm_ce_eq (ho i hi).1 (ho i hi).2]
theorem mm_A_eq {sh : List mm_Sh} {ca : Nat → ClassId} {a : Nat → Nat} {σ : mm_S} {sz q : Nat} : va_A (mm_wo sh ca a σ) sz q ↔ ((∃ k, k < sh.length ∧ q = a k) ∨ sz ≤ q) := by
  constructor
  · rintro (⟨k, e, h⟩ | h)
    · obtain ⟨x, h1, h2⟩ := mm_wo_get h
      exact Or.inl ⟨k, (List.getElem?_eq_some_iff.mp h1).1, congrArg Prod.fst h2⟩
    · exact Or.inr h
  · rintro (⟨k, h, rfl⟩ | h)
    · exact Or.inl ⟨k, _, mm_wo_at (List.getElem?_eq_getElem h)⟩
    · exact Or.inr h
-- contracts
def mm_rv (rk : Nat) (u : mm_R) : Option Value := match rk with
  | 0 => none
  | 2 => some (.long u.2.1)
  | _ => some (.int u.1)
theorem mm_push_rv (a : Nat → Nat) (rk : Nat) (u : mm_R) (st : List Value) : (mm_rv rk u).toList ++ st.map (mm_rho a) = (mm_push rk u st).map (mm_rho a) := by
  match rk with
  | 0 => rfl
  | 1 => rfl
  | 2 => rfl
  | n + 3 => rfl
abbrev mm_N : Type := List (String × Nat × MethodName × String)
def mm_Nk (nst : mm_N) (U : State) : Prop := ∀ q ∈ nst, va_Nw (.methodLinkNest q.1 q.2.1 q.2.2.1 q.2.2.2) U
def mm_Pc (nst : mm_N) (sh : List mm_Sh) (cl : List vw_C) (D : va_G) (ca : Nat → ClassId) (a : Nat → Nat) (args : List Value) (σ : mm_S) (sz : Nat) : Array Value → State → Prop :=
  va_Pc (args.map (mm_rho a)) (fun U => U.heap.size = sz ∧ va_P D cl (mm_wo sh ca a σ) U.heap ∧ va_K D cl (mm_tys ca) U ∧ va_D (fun _ => True) (mm_wo sh ca a σ) ∧ mm_Nk nst U)
def mm_Q (sh : List mm_Sh) (cl : List vw_C) (D : va_G) (ca : Nat → ClassId) (a : Nat → Nat) (rk : Nat) (u : mm_R) (A : Nat → Prop) : Array Value → State → Outcome → State → Prop :=
  fun _ st oc t => (oc = .returned (mm_rv rk u) ∧ va_P D cl (mm_wo sh ca a u.2.2) t.heap ∧ va_K D cl (mm_tys ca) t ∧ va_D A (mm_wo sh ca a u.2.2)) ∧ va_F A st t
def mm_ws (tbl : List Jvm.Cond) (M : mm_M) : List Jvm.Cond := Jvm.Cond.code M.2.1 M.2.2.1 M.2.2.2.1 M.2.2.2.2.1 :: tbl
def mm_Con (l : Launch) (tbl : List Jvm.Cond) (nst : mm_N) (sh : List mm_Sh) (cl : List vw_C) (D : va_G) (ca : Nat → ClassId) (a : Nat → Nat) (rm : Room) (M : mm_M) (args : List Value) (σ : mm_S) (u : mm_R) : Prop :=
  ∀ sz : Nat, Met l M.2.1 (mm_ws tbl M) rm (mm_Pc nst sh cl D ca a args σ sz) (mm_Q sh cl D ca a (mm_rk M.2.2.2.2.1) u (va_A (mm_wo sh ca a σ) sz)) 0 0 (va_A (mm_wo sh ca a σ) sz)
-- what the tables must say
def mm_len : Instr → Nat
  | .bipush _ => 2
  | .sipush _ => 3
  | .ldc _ => 2
  | .ldc_w _ => 3
  | .ldc2_w _ => 3
  | .iload _ => 2
  | .lload _ => 2
  | .aload _ => 2
  | .istore _ => 2
  | .lstore _ => 2
  | .iinc _ _ => 3
  | .ifCond _ _ => 3
  | .if_icmp _ _ => 3
  | .goto _ => 3
  | .getfield _ => 3
  | .putfield _ => 3
  | .invokevirtual _ => 3
  | .invokestatic _ => 3
  | .tableswitch _ _ _ _ => 0
  | _ => 1
abbrev mm_Lk : Type := List (Nat × Nat × Nat × Nat) × List (Nat × Nat × Nat × Nat) × List (Nat × Nat × Nat × Nat) × List (Nat × Nat × Int32) × List (Nat × Nat × Int64)
def mm_lab (labs : List (Nat × List mm_Row)) (r pc : Nat) (off : Int) : Bool := match labs[r]? with
  | some q => decide ((pc : Int) + off = (q.1 : Int))
  | none => false
def mm_side (K : mm_Lk) (o pc : Nat) (labs : List (Nat × List mm_Row)) : mm_Row → Bool
  | (.iconst k, _, _, v, _) => decide (Int32.ofInt k = v)
  | (.bipush k, _, _, v, _) => decide ((Int8.ofInt k).toInt32 = v)
  | (.sipush k, _, _, v, _) => decide ((Int16.ofInt k).toInt32 = v)
  | (.lconst k, _, _, _, w) => decide (Int64.ofNat k.val = w)
  | (.iinc _ c, _, _, v, _) => decide (Int32.ofInt c = v)
  | (.ldc k, _, _, v, _) => decide ((o, k, v) ∈ K.2.2.2.1)
  | (.ldc_w k, _, _, v, _) => decide ((o, k, v) ∈ K.2.2.2.1)
  | (.ldc2_w k, _, _, _, w) => decide ((o, k, w) ∈ K.2.2.2.2)
  | (.ifCond _ off, r1, _, _, _) => mm_lab labs r1 pc off
  | (.if_icmp _ off, r1, _, _, _) => mm_lab labs r1 pc off
  | (.goto off, r1, _, _, _) => mm_lab labs r1 pc off
  | (.tableswitch d lo hi offs, r1, r2, _, _) => mm_lab labs r2 pc d && (decide (hi - lo < offs.size) && (List.range offs.size).all fun i => match offs[i]? with
    | some off => mm_lab labs (r1 + i) pc off
    | none => false)
  | (.getfield k, r1, r2, _, _) => decide ((o, k, r1, r2) ∈ K.1)
  | (.putfield k, r1, r2, _, _) => decide ((o, k, r1, r2) ∈ K.1)
  | (.invokevirtual k, r1, r2, _, _) => decide ((o, k, r1, r2) ∈ K.2.1)
  | (.invokestatic k, r1, r2, _, _) => decide ((o, k, r1, r2) ∈ K.2.2.1)
  | _ => true
def mm_chk (K : mm_Lk) (o : Nat) (cc : ByteArray) (labs : List (Nat × List mm_Row)) : Nat → List mm_Row → Bool
  | _, [] => true
  | pc, x :: rs => match decode cc pc with
    | .ok (i, len) => decide (i = x.1) && (mm_side K o pc labs x && ((decide (len = mm_len i) || decide (mm_len i = 0)) && mm_chk K o cc labs (pc + len) rs))
    | .error _ => false
theorem mm_chk_inv {K : mm_Lk} {o : Nat} {cc : ByteArray} {labs : List (Nat × List mm_Row)} {pc : Nat} {x : mm_Row} {rs : List mm_Row} (h : mm_chk K o cc labs pc (x :: rs) = true) : ∃ len, decode cc pc = .ok (x.1, len) ∧ mm_side K o pc labs x = true ∧ (len = mm_len x.1 ∨ mm_len x.1 = 0) ∧ mm_chk K o cc labs (pc + len) rs = true := by
  unfold mm_chk at h
  split at h
  · rename_i i len hd
    simp only [Bool.and_eq_true, Bool.or_eq_true, decide_eq_true_eq] at h
    obtain ⟨h1, h2, h3, h4⟩ := h
    subst h1
    exact ⟨len, hd, h2, h3, h4⟩
  · cases h
theorem mm_lab_inv {labs : List (Nat × List mm_Row)} {r pc : Nat} {off : Int} (h : mm_lab labs r pc off = true) : ∃ q, labs[r]? = some q ∧ (pc : Int) + off = (q.1 : Int) := by
  unfold mm_lab at h
  split at h
  · exact ⟨_, by assumption, by simpa using h⟩
  · cases h
def mm_FOk (tbl : List Jvm.Cond) (cl : List vw_C) (nm : Nat → String) (q : Nat × Nat × Nat × Nat) : Prop :=
  ∃ (C : String) (T : u_T) (N : Nat), cl[q.2.2.1]? = some (C, T, N) ∧ q.2.2.2 < N ∧ Jvm.Cond.fieldLink (nm q.1) q.2.1 C (T q.2.2.2).2.1 (T q.2.2.2).2.2.1 ∈ tbl
def mm_COk (tbl : List Jvm.Cond) (r : vw_C) : Prop :=
  (∀ w ∈ u_ws r.1 r.2.1 r.2.2, w ∈ tbl) ∧ (∀ k, k < r.2.2 → (r.2.1 k).1 = r.1) ∧ ∃ ty0 : Nat → FieldType, (∀ k, k < r.2.2 → parseFieldDescriptor (r.2.1 k).2.2.1 = some (ty0 k)) ∧ (∀ a, a < r.2.2 → ∀ b, b < r.2.2 → a ≠ b → (r.2.1 a).2.1 ≠ (r.2.1 b).2.1)
def mm_SOk (cl : List vw_C) (x : mm_Sh) : Prop := ∀ (ci : Nat) (fs : List (Nat × Nat)), x = .inl (ci, fs) →
  ∃ (C : String) (T : u_T) (N : Nat), cl[ci]? = some (C, T, N) ∧ fs.length = N ∧ ∀ (j t q : Nat), fs[j]? = some (t, q) → (t = 0 → (T j).2.2.2 = false ∧ parseFieldDescriptor (T j).2.2.1 = some .int) ∧ (t = 1 → (T j).2.2.2 = false ∧ parseFieldDescriptor (T j).2.2.1 = some .boolean)
def mm_NoMH (y : MethodName) : Prop := y.cls ≠ "java/lang/invoke/MethodHandle" ∧ y.cls ≠ "java/lang/invoke/VarHandle"
def mm_MOk (tbl : List Jvm.Cond) (nm : Nat → String) (K : mm_Lk) (M : mm_M) : Prop :=
  Jvm.Cond.code M.2.1 M.2.2.1 M.2.2.2.1 M.2.2.2.2.1 ∈ tbl ∧ Jvm.Cond.initialized M.2.1.cls ∈ tbl ∧ M.2.1.cls = nm M.1 ∧ plainName M.2.1.cls = true ∧ mm_NoMH M.2.1 ∧ M.2.2.2.1 ≤ 20 ∧ (∃ rs, M.2.2.2.2.2[0]? = some (0, rs)) ∧ mm_rk M.2.2.2.2.1 ≤ 3 ∧ ∀ q ∈ M.2.2.2.2.2, mm_chk K M.1 M.2.2.1 M.2.2.2.2.2 q.1 q.2 = true
abbrev mm_par (y : MethodName) (n : Nat) : Prop := (parseMethodDescriptor y.desc).map (fun d => d.parameters.length) = some n
def mm_VOk (tbl : List Jvm.Cond) (cl : List vw_C) (nm : Nat → String) (P : List mm_M) (q : Nat × Nat × Nat × Nat) : Prop :=
  ∃ (M : mm_M) (T : u_T) (N n : Nat), P[q.2.2.1]? = some M ∧ Jvm.Cond.methodLink (nm q.1) q.2.1 M.2.1 ∈ tbl ∧ Jvm.Cond.instanceMethod M.2.1 ∈ tbl ∧ Jvm.Cond.selects M.2.1.cls M.2.1 M.2.1 ∈ tbl ∧ cl[q.2.2.2 / 64]? = some (M.2.1.cls, T, N) ∧ mm_par M.2.1 n ∧ q.2.2.2 % 16 = n + 1 ∧ q.2.2.2 / 16 % 4 = mm_rk M.2.2.2.2.1
def mm_JOk (tbl : List Jvm.Cond) (nm : Nat → String) (q : Nat × Nat × Nat × Nat) (y : MethodName) (cc : ByteArray) : Prop :=
  Jvm.Cond.methodLink (nm q.1) q.2.1 y ∈ tbl ∧ Jvm.Cond.static y ∈ tbl ∧ Jvm.Cond.initialized "java/lang/Math" ∈ tbl ∧ Jvm.Cond.code y cc 2 (some .int) ∈ tbl
def mm_TOk (tbl : List Jvm.Cond) (nst : mm_N) (nm : Nat → String) (P : List mm_M) (q : Nat × Nat × Nat × Nat) : Prop :=
  (q.2.2.1 = 1000 ∧ mm_JOk tbl nm q Lib.Math.max.name Lib.Math.max.code) ∨ (q.2.2.1 = 1001 ∧ mm_JOk tbl nm q Lib.Math.min.name Lib.Math.min.code) ∨
  (¬ q.2.2.1 = 1000 ∧ ¬ q.2.2.1 = 1001 ∧ ∃ (M : mm_M) (n : Nat), P[q.2.2.1]? = some M ∧ (Jvm.Cond.methodLink (nm q.1) q.2.1 M.2.1 ∈ tbl ∨ ∃ host, (nm q.1, q.2.1, M.2.1, host) ∈ nst) ∧ Jvm.Cond.static M.2.1 ∈ tbl ∧ mm_par M.2.1 n ∧ q.2.2.2 % 16 = n ∧ q.2.2.2 / 16 % 4 = mm_rk M.2.2.2.2.1)
def mm_OK (tbl : List Jvm.Cond) (nst : mm_N) (cl : List vw_C) (nm : Nat → String) (sh : List mm_Sh) (P : List mm_M) (K : mm_Lk) : Prop :=
  (∀ w ∈ tbl, goodWord w = true) ∧ (∀ r ∈ cl, mm_COk tbl r) ∧ (∀ x ∈ sh, mm_SOk cl x) ∧ (∀ M ∈ P, mm_MOk tbl nm K M) ∧ (∀ q ∈ K.1, mm_FOk tbl cl nm q) ∧ (∀ q ∈ K.2.1, mm_VOk tbl cl nm P q) ∧ (∀ q ∈ K.2.2.1, mm_TOk tbl nst nm P q) ∧ (∀ q ∈ K.2.2.2.1, Jvm.Cond.constant (nm q.1) q.2.1 q.2.2 ∈ tbl) ∧ (∀ q ∈ K.2.2.2.2, Jvm.Cond.constantLong (nm q.1) q.2.1 q.2.2 ∈ tbl)
theorem mm_bind {α β : Type} {x : Option α} {f : α → Option β} {r : β} (h : x.bind f = some r) : ∃ u, x = some u ∧ f u = some r := by
  cases x with
  | none => cases h
  | some u => exact ⟨u, rfl, h⟩
theorem mm_good {tbl : List Jvm.Cond} {M : mm_M} (h : ∀ w ∈ tbl, goodWord w = true) (hc : Jvm.Cond.code M.2.1 M.2.2.1 M.2.2.2.1 M.2.2.2.2.1 ∈ tbl) : GoodIn tbl (mm_ws tbl M) := fun w hw => by
  rcases List.mem_cons.mp hw with rfl | hw
  · exact ⟨hc, good_of_word (h _ hc)⟩
  · exact ⟨hw, good_of_word (h _ hw)⟩
theorem mm_fld_inv {sh : List mm_Sh} {σ : mm_S} {ci k j : Nat} {u : Value} (h : mm_fld sh σ ci k j = some u) : ∃ fs t q, sh[k]? = some (.inl (ci, fs)) ∧ fs[j]? = some (t, q) ∧ u = if t = 2 then .ref q else .int (σ.1 k j) := by
  unfold mm_fld at h
  split at h
  · rename_i c fs hs
    split at h
    · rename_i hc
      subst hc
      split at h
      · rename_i t q hf
        exact ⟨fs, t, q, hs, hf, (Option.some.inj h).symm⟩
      · cases h
    · cases h
  · cases h
theorem mm_pf_inv {sh : List mm_Sh} {ci k j : Nat} {x : Int32} {u : Unit} (h : mm_pf sh ci k j x = some u) : ∃ fs t q, sh[k]? = some (.inl (ci, fs)) ∧ fs[j]? = some (t, q) ∧ (t = 0 ∨ (t = 1 ∧ (x = 0 ∨ x = 1))) := by
  unfold mm_pf at h
  split at h
  · rename_i c fs hs
    split at h
    · rename_i hc
      subst hc
      split at h
      · rename_i t q hf
        refine ⟨fs, t, q, hs, hf, ?_⟩
        split at h
        · exact Or.inl (by assumption)
        · split at h
          · split at h
            · exact Or.inr ⟨by assumption, by assumption⟩
            · cases h
          · cases h
      · cases h
    · cases h
  · cases h
theorem mm_arr_inv {sh : List mm_Sh} {k kd n : Nat} (h : mm_arr sh k kd = some n) : ∃ rw, sh[k]? = some (.inr (kd, n, rw)) := by
  unfold mm_arr at h
  split at h
  · rename_i d n' rw hs
    split at h
    · rename_i hc
      subst hc
      cases h
      exact ⟨rw, hs⟩
    · cases h
  · cases h
theorem mm_grid_inv {sh : List mm_Sh} {k q : Nat} {i : Int32} (h : mm_grid sh k i = some q) : ∃ n rw, sh[k]? = some (.inr (3, n, rw)) ∧ mm_in i n ∧ rw[i.toNatClampNeg]? = some q := by
  unfold mm_grid at h
  split at h
  · rename_i d n rw hs
    split at h
    · rename_i hc
      subst hc
      split at h
      · exact ⟨n, rw, hs, by assumption, h⟩
      · cases h
    · cases h
  · cases h
theorem mm_cargs_inv {sh : List mm_Sh} {na ci : Nat} {st : List Value} {q : List Value × List Value} (h : mm_cargs sh na ci st = some q) : ∃ k As fs, q.1 = .ref k :: As ∧ sh[k]? = some (.inl (ci, fs)) ∧ st = As.reverse ++ .ref k :: q.2 ∧ q.2.length ≤ 4 ∧ As.length + 1 = na := by
  unfold mm_cargs at h
  split at h
  · rename_i k As he
    split at h
    · rename_i c fs hs
      split at h
      · rename_i hc
        simp only [Bool.and_eq_true, decide_eq_true_eq] at hc
        obtain ⟨rfl, h1, h2⟩ := hc
        cases h
        have e : st.take na = As.reverse ++ [.ref k] := by
          have := congrArg List.reverse he
          rw [List.reverse_reverse] at this
          rw [this]; simp
        have hl : As.length + 1 = na := by
          have := congrArg List.length he
          simp at this
          omega
        refine ⟨k, As, fs, rfl, hs, ?_, h1, hl⟩
        show st = As.reverse ++ .ref k :: st.drop na
        conv => lhs; rw [← List.take_append_drop na st, e]
        simp
      · cases h
    · cases h
  · cases h
theorem mm_sargs_inv {na : Nat} {st : List Value} {q : List Value × List Value} (h : mm_sargs na st = some q) : st = q.1.reverse ++ q.2 ∧ q.2.length ≤ 4 ∧ q.1.length = na := by
  unfold mm_sargs at h
  split at h
  · rename_i hc
    simp only [Bool.and_eq_true, decide_eq_true_eq] at hc
    cases h
    refine ⟨by simp, hc.1, ?_⟩
    simp
    omega
  · cases h
theorem mm_cats (a : Nat → Nat) (st : List Value) (h : st.length ≤ 4) : (((st.map (mm_rho a)).map fun v => v.category).sum) ≤ 8 := by
  have key : ∀ l : List Value, ((l.map fun v => v.category).sum) ≤ 2 * l.length := by
    intro l
    induction l with
    | nil => simp
    | cons v l ih =>
      rcases lv_cat v with h | h <;> simp [h] <;> omega
  have := key (st.map (mm_rho a))
  rw [List.length_map] at this
  omega
end
section
/-! the small machine's rows against the machine's: one theorem for all code -/
theorem mm_ce_i {ca : Nat → ClassId} {a : Nat → Nat} {σ : mm_S} {k n : Nat} {rw : List Nat} : mm_ce ca a σ k (.inr (0, n, rw)) = .inl (ca 0, n, .inl (σ.1 k)) := rfl
theorem mm_ce_b {ca : Nat → ClassId} {a : Nat → Nat} {σ : mm_S} {k n : Nat} {rw : List Nat} : mm_ce ca a σ k (.inr (1, n, rw)) = .inl (ca 1, n, .inl (σ.1 k)) := rfl
theorem mm_ce_l {ca : Nat → ClassId} {a : Nat → Nat} {σ : mm_S} {k n : Nat} {rw : List Nat} : mm_ce ca a σ k (.inr (2, n, rw)) = .inl (ca 2, n, .inr (.inl (σ.2 k))) := rfl
theorem mm_ce_g {ca : Nat → ClassId} {a : Nat → Nat} {σ : mm_S} {k n : Nat} {rw : List Nat} : mm_ce ca a σ k (.inr (3, n, rw)) = .inl (ca 3, n, .inr (.inr (.inr (.inr (fun i => (rw[i]?).map a))))) := rfl
theorem mm_ce_o {ca : Nat → ClassId} {a : Nat → Nat} {σ : mm_S} {k ci : Nat} {fs : List (Nat × Nat)} : mm_ce ca a σ k (.inl (ci, fs)) = .inr (ci, fs.mapIdx fun j f => mm_fv a σ k j f) := rfl
theorem mm_wo_i {sh : List mm_Sh} {ca : Nat → ClassId} {a : Nat → Nat} {σ : mm_S} {k n j : Nat} {rw : List Nat} {x : Int32} (h : sh[k]? = some (.inr (0, n, rw))) : (mm_wo sh ca a σ).set k (a k, .inl (ca 0, n, .inl (upd (σ.1 k) j x))) = mm_wo sh ca a (mm_w σ.1 k j x, σ.2) :=
  mm_wo_set h (by rw [mm_ce_i]; show _ = Sum.inl (ca 0, n, Sum.inl (upd (σ.1 k) j x)); rw [show (mm_w σ.1 k j x, σ.2).1 k = upd (σ.1 k) j x from mm_w_eq]) (fun k' hk => ⟨mm_w_ne hk, rfl⟩)
theorem mm_wo_b {sh : List mm_Sh} {ca : Nat → ClassId} {a : Nat → Nat} {σ : mm_S} {k n j : Nat} {rw : List Nat} {x : Int32} (h : sh[k]? = some (.inr (1, n, rw))) : (mm_wo sh ca a σ).set k (a k, .inl (ca 1, n, .inl (upd (σ.1 k) j x))) = mm_wo sh ca a (mm_w σ.1 k j x, σ.2) :=
  mm_wo_set h (by rw [mm_ce_b]; show _ = Sum.inl (ca 1, n, Sum.inl (upd (σ.1 k) j x)); rw [show (mm_w σ.1 k j x, σ.2).1 k = upd (σ.1 k) j x from mm_w_eq]) (fun k' hk => ⟨mm_w_ne hk, rfl⟩)
theorem mm_wo_l {sh : List mm_Sh} {ca : Nat → ClassId} {a : Nat → Nat} {σ : mm_S} {k n j : Nat} {rw : List Nat} {x : Int64} (h : sh[k]? = some (.inr (2, n, rw))) : (mm_wo sh ca a σ).set k (a k, .inl (ca 2, n, .inr (.inl (vp_updL (σ.2 k) j x)))) = mm_wo sh ca a (σ.1, mm_w σ.2 k j x) :=
  mm_wo_set h (by rw [mm_ce_l]; show _ = Sum.inl (ca 2, n, Sum.inr (Sum.inl (vp_updL (σ.2 k) j x))); rw [show (σ.1, mm_w σ.2 k j x).2 k = vp_updL (σ.2 k) j x from mm_w_eq]) (fun k' hk => ⟨rfl, mm_w_ne hk⟩)
theorem mm_wo_f {sh : List mm_Sh} {ca : Nat → ClassId} {a : Nat → Nat} {σ : mm_S} {k ci j t q : Nat} {fs : List (Nat × Nat)} {x : Int32} (h : sh[k]? = some (.inl (ci, fs))) (hf : fs[j]? = some (t, q)) (ht : ¬ t = 2) : (mm_wo sh ca a σ).set k (a k, .inr (ci, (fs.mapIdx fun j f => mm_fv a σ k j f).set j (.int x))) = mm_wo sh ca a (mm_w σ.1 k j x, σ.2) := by
  refine mm_wo_set h ?_ (fun k' hk => ⟨mm_w_ne hk, rfl⟩)
  rw [mm_ce_o]
  refine congrArg (fun z => Sum.inr (ci, z)) (List.ext_getElem? fun i => ?_)
  have hl : j < fs.length := (List.getElem?_eq_some_iff.mp hf).1
  have e : mm_w σ.1 k j x k = fun j' => if j' = j then x else σ.1 k j' := mm_w_eq
  by_cases hi : i = j
  · subst hi
    rw [List.getElem?_set_self (by rw [List.length_mapIdx]; exact hl), List.getElem?_mapIdx, hf]
    simp [mm_fv, ht, e]
  · rw [List.getElem?_set_ne (Ne.symm hi), List.getElem?_mapIdx, List.getElem?_mapIdx]
    cases fs[i]? with
    | none => rfl
    | some f => simp [mm_fv, e, hi]
theorem mm_nar1 {x : Int32} (h : x = 0 ∨ x = 1) : vp_nar .boolean x = x := by rcases h with rfl | rfl <;> decide +kernel
theorem mm_nar2 {x : Int32} (h : x = 0 ∨ x = 1) : narrow .boolean (.int x) = .int x := by rcases h with rfl | rfl <;> decide +kernel
theorem mm_fit2 {x : Int32} (h : x = 0 ∨ x = 1) : fits .boolean (.int x) = true := by rcases h with rfl | rfl <;> decide +kernel
theorem mm_rk_0 {ret : Option FieldType} (h : mm_rk ret = 0) : ret = none := by
  unfold mm_rk at h; split at h <;> first | rfl | cases h
theorem mm_rk_1 {ret : Option FieldType} (h : mm_rk ret = 1) : ret = some .int := by
  unfold mm_rk at h; split at h <;> first | rfl | cases h
theorem mm_rk_2 {ret : Option FieldType} (h : mm_rk ret = 2) : ret = some .long := by
  unfold mm_rk at h; split at h <;> first | rfl | cases h
theorem mm_rk_3 {ret : Option FieldType} (h : mm_rk ret = 3) : ret = some .boolean := by
  unfold mm_rk at h; split at h <;> first | rfl | cases h
theorem mm_blind {sh : List mm_Sh} {cl : List vw_C} {D : va_G} {ca : Nat → ClassId} {a : Nat → Nat} {nst : mm_N} {As : List Value} {σ : mm_S} {sz : Nat} : FrameBlind (mm_Pc nst sh cl D ca a As σ sz) := fun a U g mk q => by
  obtain ⟨q0, q1, qP, qK, qD, qN⟩ := q
  exact ⟨q0, q1, qP, va_K.moved (u := U) (U := U.calling g mk a) (Vm.Alike.refl U.vm) qK, qD, fun w hw => va_Nw.same (u := U) (U := U.calling g mk a) rfl rfl (qN w hw)⟩
section MMC
variable {p : Program} {l : Launch} {e : Env} {R : Room} {s : State} {m : MethodId} {args : Array Value} {below : List Frame} {meth : Method} {c : Code} {H : Heap} {locs : List Loc} {Q : State → Prop}
theorem mm_callW {sh : List mm_Sh} {cl : List vw_C} {D : va_G} {ca : Nat → ClassId} {a : Nat → Nat} {rk pc : Nat} {u : mm_R} {A A1 : Nat → Prop} {a2 : Array Value} {ls : Array Slot} {st0 rest : List Value} (hr : va_Run p l e R s m args below meth c H locs 0 0 0 0 (F0 m pc ls st0) rest (mm_Q sh cl D ca a rk u A1 a2) A1) (hS : va_S A s.heap H locs) (hAA : ∀ q, A1 q → A q)
    (kk : ∀ (H1 : Heap) (locs1 : List Loc), va_P D cl (mm_wo sh ca a u.2.2) H1 → va_D A1 (mm_wo sh ca a u.2.2) → va_S A s.heap H1 locs1 → W p l e R s m args below meth c H1 locs1 0 0 Q (F0 m (pc + 3) ls ((mm_rv rk u).toList ++ rest))) : W p l e R s m args below meth c H locs 0 0 Q (F0 m pc ls st0) := by
  intro T hT X
  obtain ⟨v, st₀, t, T', L, h0, X', hL, e1, e2, ⟨⟨hv, hp, hk, hd⟩, hz, hf⟩, st⟩ := hr T hT X
  cases hv
  rw [h0] at hz hf
  obtain ⟨t2, a1, b1⟩ := kk T'.heap (locs ++ L) (by rw [e1]; exact hp) hd
    ⟨Nat.le_trans hS.1 (by rw [e1]; exact hz), fun q h1 h2 => by rw [e1, hf q (Nat.lt_of_lt_of_le h1 hS.1) (fun z => h2 (hAA q z))]; exact hS.2.1 q h1 h2, fun q hq => by
      rcases List.mem_append.mp hq with h | h
      · exact hS.2.2 q h
      · exact hAA _ (hL q h)⟩ T' rfl X'
  exact ⟨t2, st t2 a1, b1⟩
end MMC
set_option maxHeartbeats 4000000 in
set_option maxRecDepth 100000 in
theorem mm_body {tbl : List Jvm.Cond} {nst : mm_N} {cl : List vw_C} {nm : Nat → String} {sh : List mm_Sh} {P : List mm_M} {K : mm_Lk} (hO : mm_OK tbl nst cl nm sh P K) {D : va_G} {ca : Nat → ClassId} {a : Nat → Nat} {p : Program} {l : Launch} {e : Env} {s : State} {m : MethodId} {args : Array Value} {below : List Frame} {meth : Method} {c : Code} {R rm : Room} {call : Nat → List Value → mm_S → Option mm_R} {o : Nat} {cc : ByteArray} {maxL : Nat} {ret : Option FieldType} {labs : List (Nat × List mm_Row)}
    (hx : p.tables.exec = Jvm.exec) (hb : c.code = cc) (hml : c.maxLocals = maxL) (hown : s.vm.findClass (nm o) = some m.cls) (hts : ∀ w ∈ tbl, w.before args s = true) (hr : meth.sig.returnType = ret) (hlocks : meth.locks = false) (hK : va_K D cl (mm_tys ca) s) (hN : mm_Nk nst s) (hR : rm.frames + 1 ≤ R.frames ∧ 39 + rm.locals ≤ R.locals) (hrc : rm.cells = 0 ∧ rm.slots = 0)
    (hcall : ∀ (k : Nat) (As : List Value) (σ : mm_S) (u : mm_R) (M : mm_M), call k As σ = some u → P[k]? = some M → mm_Con l tbl nst sh cl D ca a rm M As σ u)
    (hlab : ∀ q ∈ labs, mm_chk K o cc labs q.1 q.2 = true) {res : mm_R} {A : Nat → Prop} (hA : ∀ q, A q ↔ ((∃ k, k < sh.length ∧ q = a k) ∨ s.heap.size ≤ q)) :
    ∀ (n : Nat) (rows : List mm_Row) (pc : Nat) (L st : List Value) (σ : mm_S) (H : Heap) (locs : List Loc) (ls : Array Slot), mm_chk K o cc labs pc rows = true → mm_ex sh call (mm_rk ret) labs n rows L st σ = some res → va_P D cl (mm_wo sh ca a σ) H → va_D A (mm_wo sh ca a σ) → va_S A s.heap H locs → mm_lok a ls maxL L →
      W p l e R s m args below meth c H locs 0 0 (MQ below (mm_Q sh cl D ca a (mm_rk ret) res A) args s 0 0 A) (F0 m pc ls (st.map (mm_rho a))) := by
  obtain ⟨hgood, hCk, hSk, hMk, hFk, hVk, hTk, hIk, hLk⟩ := hO
  have hAA : ∀ (σ : mm_S) (H : Heap) (locs : List Loc), va_S A s.heap H locs → ∀ q, va_A (mm_wo sh ca a σ) H.size q → A q := fun σ H locs hS q h => (hA q).mpr ((mm_A_eq.mp h).imp id (fun z => Nat.le_trans hS.1 z))
  intro n
  induction n with
  | zero => intro rows pc L st σ H locs ls hc h; cases h
  | succ n ih =>
    intro rows pc L st σ H locs ls hc h hP hD hS hl
    match rows, hc, h with
    | [], _, h => cases h
    | (i, r1, r2, v, w) :: rs, hc, h =>
    obtain ⟨len, hd, hsd, hln, hcr⟩ := mm_chk_inv hc
    cases i with
    | iconst k =>
      have hln : len = 1 := by simpa [mm_len] using hln
      subst hln
      simp only [mm_ex] at h
      exact lv_iconst hx hb hd (of_decide_eq_true hsd) (ih rs _ L _ σ H locs ls hcr h hP hD hS hl)
    | bipush k =>
      have hln : len = 2 := by simpa [mm_len] using hln
      subst hln
      simp only [mm_ex] at h
      exact lv_bipush hx hb hd (of_decide_eq_true hsd) (ih rs _ L _ σ H locs ls hcr h hP hD hS hl)
    | sipush k =>
      have hln : len = 3 := by simpa [mm_len] using hln
      subst hln
      simp only [mm_ex] at h
      exact lv_sipush hx hb hd (of_decide_eq_true hsd) (ih rs _ L _ σ H locs ls hcr h hP hD hS hl)
    | lconst k =>
      have hln : len = 1 := by simpa [mm_len] using hln
      subst hln
      simp only [mm_ex] at h
      exact lv_lconst hx hb hd (of_decide_eq_true hsd) (ih rs _ L _ σ H locs ls hcr h hP hD hS hl)
    | ldc k =>
      have hln : len = 2 := by simpa [mm_len] using hln
      subst hln
      simp only [mm_ex] at h
      exact lv_ldc hx hb hown (hts _ (hIk _ (of_decide_eq_true hsd))) hd (ih rs _ L _ σ H locs ls hcr h hP hD hS hl)
    | ldc_w k =>
      have hln : len = 3 := by simpa [mm_len] using hln
      subst hln
      simp only [mm_ex] at h
      exact lv_ldcw hx hb hown (hts _ (hIk _ (of_decide_eq_true hsd))) hd (ih rs _ L _ σ H locs ls hcr h hP hD hS hl)
    | ldc2_w k =>
      have hln : len = 3 := by simpa [mm_len] using hln
      subst hln
      simp only [mm_ex] at h
      exact lv_ldc2 hx hb hown (hts _ (hLk _ (of_decide_eq_true hsd))) hd (ih rs _ L _ σ H locs ls hcr h hP hD hS hl)
    | iload k =>
      have hln : len = 2 := by simpa [mm_len] using hln
      subst hln
      simp only [mm_ex] at h
      obtain ⟨x, hx1, h⟩ := mm_bind h
      exact lv_iload hx hb hd (hl.at (mm_ldi_inv hx1) (by intro q; cases q)) (ih rs _ L _ σ H locs ls hcr h hP hD hS hl)
    | iload_n k =>
      have hln : len = 1 := by simpa [mm_len] using hln
      subst hln
      simp only [mm_ex] at h
      obtain ⟨x, hx1, h⟩ := mm_bind h
      exact lv_iload_n hx hb hd rfl (hl.at (mm_ldi_inv hx1) (by intro q; cases q)) (ih rs _ L _ σ H locs ls hcr h hP hD hS hl)
    | lload k =>
      have hln : len = 2 := by simpa [mm_len] using hln
      subst hln
      simp only [mm_ex] at h
      obtain ⟨x, hx1, h⟩ := mm_bind h
      exact lv_lload hx hb hd (hl.at (mm_ldl_inv hx1) (by intro q; cases q)) (ih rs _ L _ σ H locs ls hcr h hP hD hS hl)
    | lload_n k =>
      have hln : len = 1 := by simpa [mm_len] using hln
      subst hln
      simp only [mm_ex] at h
      obtain ⟨x, hx1, h⟩ := mm_bind h
      exact lv_lload_n hx hb hd rfl (hl.at (mm_ldl_inv hx1) (by intro q; cases q)) (ih rs _ L _ σ H locs ls hcr h hP hD hS hl)
    | aload k =>
      have hln : len = 2 := by simpa [mm_len] using hln
      subst hln
      simp only [mm_ex] at h
      obtain ⟨x, hx1, h⟩ := mm_bind h
      exact lv_aload hx hb hd (hl.at (mm_lda_inv hx1) (by intro q; cases q)) (ih rs _ L _ σ H locs ls hcr h hP hD hS hl)
    | aload_n k =>
      have hln : len = 1 := by simpa [mm_len] using hln
      subst hln
      simp only [mm_ex] at h
      obtain ⟨x, hx1, h⟩ := mm_bind h
      exact lv_aload_n hx hb hd rfl (hl.at (mm_lda_inv hx1) (by intro q; cases q)) (ih rs _ L _ σ H locs ls hcr h hP hD hS hl)
    | istore k =>
      have hln : len = 2 := by simpa [mm_len] using hln
      subst hln
      simp only [mm_ex] at h
      obtain ⟨x, s', hst, h7⟩ := mm_i1_inv h
      clear h
      subst hst
      have h := h7
      clear h7
      obtain ⟨L', hx1, h⟩ := mm_bind h
      exact lv_istore hx hb hd hl.has (by rw [← hl.2.2.1]; exact (mm_st1_inv hx1).1) rfl (fun ls' h' => ih rs _ L' _ σ H locs ls' hcr h hP hD hS (hl.st1 hx1 rfl h'))
    | istore_n k =>
      have hln : len = 1 := by simpa [mm_len] using hln
      subst hln
      simp only [mm_ex] at h
      obtain ⟨x, s', hst, h7⟩ := mm_i1_inv h
      clear h
      subst hst
      have h := h7
      clear h7
      obtain ⟨L', hx1, h⟩ := mm_bind h
      exact lv_istore_n hx hb hd rfl hl.has (by rw [← hl.2.2.1]; exact (mm_st1_inv hx1).1) rfl (fun ls' h' => ih rs _ L' _ σ H locs ls' hcr h hP hD hS (hl.st1 hx1 rfl h'))
    | lstore k =>
      have hln : len = 2 := by simpa [mm_len] using hln
      subst hln
      simp only [mm_ex] at h
      obtain ⟨x, s', hst, h7⟩ := mm_l1_inv h
      clear h
      subst hst
      have h := h7
      clear h7
      obtain ⟨L', hx1, h⟩ := mm_bind h
      exact lv_lstore hx hb hd hl.has (by rw [← hl.2.2.1]; exact (mm_st2_inv hx1).1) rfl (fun ls' h' => ih rs _ L' _ σ H locs ls' hcr h hP hD hS (hl.st2 hx1 rfl h'))
    | lstore_n k =>
      have hln : len = 1 := by simpa [mm_len] using hln
      subst hln
      simp only [mm_ex] at h
      obtain ⟨x, s', hst, h7⟩ := mm_l1_inv h
      clear h
      subst hst
      have h := h7
      clear h7
      obtain ⟨L', hx1, h⟩ := mm_bind h
      exact lv_lstore_n hx hb hd rfl hl.has (by rw [← hl.2.2.1]; exact (mm_st2_inv hx1).1) rfl (fun ls' h' => ih rs _ L' _ σ H locs ls' hcr h hP hD hS (hl.st2 hx1 rfl h'))
    | iinc k cst =>
      have hln : len = 3 := by simpa [mm_len] using hln
      subst hln
      simp only [mm_ex] at h
      obtain ⟨x, hx1, h⟩ := mm_bind h
      obtain ⟨L', hx2, h⟩ := mm_bind h
      obtain ⟨k9, hk9⟩ := List.getElem?_of_mem ((mm_prs_mem (a := a) (L := L) (q := (k, .int x))).mpr ⟨.int x, mm_ldi_inv hx1, (by intro q; cases q), rfl⟩)
      exact lv_iinc hx hb hd hl.has hk9 (by rw [of_decide_eq_true hsd]) (by rw [← hl.2.2.1]; exact (mm_st1_inv hx2).1) rfl (fun ls' h' => ih rs _ L' _ σ H locs ls' hcr h hP hD hS (hl.st1 hx2 rfl h'))
    | iadd =>
      have hln : len = 1 := by simpa [mm_len] using hln
      subst hln
      simp only [mm_ex] at h
      obtain ⟨x, y, s', hst, h7⟩ := mm_i2_inv h
      clear h
      subst hst
      have h := h7
      clear h7
      exact lv_iadd hx hb hd (ih rs _ L _ σ H locs ls hcr h hP hD hS hl)
    | isub =>
      have hln : len = 1 := by simpa [mm_len] using hln
      subst hln
      simp only [mm_ex] at h
      obtain ⟨x, y, s', hst, h7⟩ := mm_i2_inv h
      clear h
      subst hst
      have h := h7
      clear h7
      exact lv_isub hx hb hd (ih rs _ L _ σ H locs ls hcr h hP hD hS hl)
    | imul =>
      have hln : len = 1 := by simpa [mm_len] using hln
      subst hln
      simp only [mm_ex] at h
      obtain ⟨x, y, s', hst, h7⟩ := mm_i2_inv h
      clear h
      subst hst
      have h := h7
      clear h7
      exact lv_imul hx hb hd (ih rs _ L _ σ H locs ls hcr h hP hD hS hl)
    | iand =>
      have hln : len = 1 := by simpa [mm_len] using hln
      subst hln
      simp only [mm_ex] at h
      obtain ⟨x, y, s', hst, h7⟩ := mm_i2_inv h
      clear h
      subst hst
      have h := h7
      clear h7
      exact lv_iand hx hb hd (ih rs _ L _ σ H locs ls hcr h hP hD hS hl)
    | ior =>
      have hln : len = 1 := by simpa [mm_len] using hln
      subst hln
      simp only [mm_ex] at h
      obtain ⟨x, y, s', hst, h7⟩ := mm_i2_inv h
      clear h
      subst hst
      have h := h7
      clear h7
      exact lv_ior hx hb hd (ih rs _ L _ σ H locs ls hcr h hP hD hS hl)
    | ixor =>
      have hln : len = 1 := by simpa [mm_len] using hln
      subst hln
      simp only [mm_ex] at h
      obtain ⟨x, y, s', hst, h7⟩ := mm_i2_inv h
      clear h
      subst hst
      have h := h7
      clear h7
      exact lv_ixor hx hb hd (ih rs _ L _ σ H locs ls hcr h hP hD hS hl)
    | ishl =>
      have hln : len = 1 := by simpa [mm_len] using hln
      subst hln
      simp only [mm_ex] at h
      obtain ⟨x, y, s', hst, h7⟩ := mm_i2_inv h
      clear h
      subst hst
      have h := h7
      clear h7
      exact lv_ishl hx hb hd (ih rs _ L _ σ H locs ls hcr h hP hD hS hl)
    | ishr =>
      have hln : len = 1 := by simpa [mm_len] using hln
      subst hln
      simp only [mm_ex] at h
      obtain ⟨x, y, s', hst, h7⟩ := mm_i2_inv h
      clear h
      subst hst
      have h := h7
      clear h7
      exact lv_ishr hx hb hd (ih rs _ L _ σ H locs ls hcr h hP hD hS hl)
    | iushr =>
      have hln : len = 1 := by simpa [mm_len] using hln
      subst hln
      simp only [mm_ex] at h
      obtain ⟨x, y, s', hst, h7⟩ := mm_i2_inv h
      clear h
      subst hst
      have h := h7
      clear h7
      exact lv_iushr hx hb hd rfl (ih rs _ L _ σ H locs ls hcr h hP hD hS hl)
    | ladd =>
      have hln : len = 1 := by simpa [mm_len] using hln
      subst hln
      simp only [mm_ex] at h
      obtain ⟨x, y, s', hst, h7⟩ := mm_l2_inv h
      clear h
      subst hst
      have h := h7
      clear h7
      exact lv_ladd hx hb hd (ih rs _ L _ σ H locs ls hcr h hP hD hS hl)
    | land =>
      have hln : len = 1 := by simpa [mm_len] using hln
      subst hln
      simp only [mm_ex] at h
      obtain ⟨x, y, s', hst, h7⟩ := mm_l2_inv h
      clear h
      subst hst
      have h := h7
      clear h7
      exact lv_land hx hb hd (ih rs _ L _ σ H locs ls hcr h hP hD hS hl)
    | lor =>
      have hln : len = 1 := by simpa [mm_len] using hln
      subst hln
      simp only [mm_ex] at h
      obtain ⟨x, y, s', hst, h7⟩ := mm_l2_inv h
      clear h
      subst hst
      have h := h7
      clear h7
      exact lv_lor hx hb hd (ih rs _ L _ σ H locs ls hcr h hP hD hS hl)
    | lcmp =>
      have hln : len = 1 := by simpa [mm_len] using hln
      subst hln
      simp only [mm_ex] at h
      obtain ⟨x, y, s', hst, h7⟩ := mm_l2_inv h
      clear h
      subst hst
      have h := h7
      clear h7
      exact W.lcmp hx hb hd (ih rs _ L _ σ H locs ls hcr h hP hD hS hl)
    | lshl =>
      have hln : len = 1 := by simpa [mm_len] using hln
      subst hln
      simp only [mm_ex] at h
      obtain ⟨x, y, s', hst, h7⟩ := mm_li_inv h
      clear h
      subst hst
      have h := h7
      clear h7
      exact lv_lshl hx hb hd rfl (ih rs _ L _ σ H locs ls hcr h hP hD hS hl)
    | lshr =>
      have hln : len = 1 := by simpa [mm_len] using hln
      subst hln
      simp only [mm_ex] at h
      obtain ⟨x, y, s', hst, h7⟩ := mm_li_inv h
      clear h
      subst hst
      have h := h7
      clear h7
      exact lv_lshr hx hb hd rfl (ih rs _ L _ σ H locs ls hcr h hP hD hS hl)
    | i2l =>
      have hln : len = 1 := by simpa [mm_len] using hln
      subst hln
      simp only [mm_ex] at h
      obtain ⟨x, s', hst, h7⟩ := mm_i1_inv h
      clear h
      subst hst
      have h := h7
      clear h7
      exact lv_i2l hx hb hd rfl (ih rs _ L _ σ H locs ls hcr h hP hD hS hl)
    | l2i =>
      have hln : len = 1 := by simpa [mm_len] using hln
      subst hln
      simp only [mm_ex] at h
      obtain ⟨x, s', hst, h7⟩ := mm_l1_inv h
      clear h
      subst hst
      have h := h7
      clear h7
      exact lv_l2i hx hb hd rfl (ih rs _ L _ σ H locs ls hcr h hP hD hS hl)
    | dup =>
      have hln : len = 1 := by simpa [mm_len] using hln
      subst hln
      simp only [mm_ex] at h
      obtain ⟨k, s', hst, h7⟩ := mm_a1_inv h
      clear h
      subst hst
      have h := h7
      clear h7
      exact lv_dup hx hb hd rfl (ih rs _ L _ σ H locs ls hcr h hP hD hS hl)
    | dup2 =>
      have hln : len = 1 := by simpa [mm_len] using hln
      subst hln
      simp only [mm_ex] at h
      obtain ⟨k, i9, s', hst, h7⟩ := mm_ai_inv h
      clear h
      subst hst
      have h := h7
      clear h7
      exact lv_dup2_11 hx hb hd rfl rfl (ih rs _ L _ σ H locs ls hcr h hP hD hS hl)
    | pop =>
      have hln : len = 1 := by simpa [mm_len] using hln
      subst hln
      simp only [mm_ex] at h
      obtain ⟨x, s', hst, h7⟩ := mm_i1_inv h
      clear h
      subst hst
      have h := h7
      clear h7
      exact lv_pop hx hb hd rfl (ih rs _ L _ σ H locs ls hcr h hP hD hS hl)
    | ifCond cnd off =>
      have hln : len = 3 := by simpa [mm_len] using hln
      subst hln
      cases cnd with
      | eq =>
        simp only [mm_ex] at h
        obtain ⟨x, s', hst, h7⟩ := mm_i1_inv h
        clear h
        subst hst
        have h := h7
        clear h7
        obtain ⟨q', hq', ht⟩ := mm_lab_inv hsd
        refine lv_if_eq hx hb hd ht (fun hc9 => ?_) (fun hc9 => ?_)
        · rw [if_pos hc9] at h
          obtain ⟨q, hq, h⟩ := mm_bind h
          cases hq.symm.trans hq'
          exact ih q'.2 q'.1 L _ σ H locs ls (hlab q' (List.mem_of_getElem? hq)) h hP hD hS hl
        · rw [if_neg hc9] at h
          exact ih rs _ L _ σ H locs ls hcr h hP hD hS hl
      | ne =>
        simp only [mm_ex] at h
        obtain ⟨x, s', hst, h7⟩ := mm_i1_inv h
        clear h
        subst hst
        have h := h7
        clear h7
        obtain ⟨q', hq', ht⟩ := mm_lab_inv hsd
        refine lv_if_ne hx hb hd ht (fun hc9 => ?_) (fun hc9 => ?_)
        · rw [if_neg hc9] at h
          obtain ⟨q, hq, h⟩ := mm_bind h
          cases hq.symm.trans hq'
          exact ih q'.2 q'.1 L _ σ H locs ls (hlab q' (List.mem_of_getElem? hq)) h hP hD hS hl
        · rw [if_pos hc9] at h
          exact ih rs _ L _ σ H locs ls hcr h hP hD hS hl
      | lt =>
        simp only [mm_ex] at h
        obtain ⟨x, s', hst, h7⟩ := mm_i1_inv h
        clear h
        subst hst
        have h := h7
        clear h7
        obtain ⟨q', hq', ht⟩ := mm_lab_inv hsd
        refine lv_if_lt hx hb hd ht (fun hc9 => ?_) (fun hc9 => ?_)
        · rw [if_pos hc9] at h
          obtain ⟨q, hq, h⟩ := mm_bind h
          cases hq.symm.trans hq'
          exact ih q'.2 q'.1 L _ σ H locs ls (hlab q' (List.mem_of_getElem? hq)) h hP hD hS hl
        · rw [if_neg hc9] at h
          exact ih rs _ L _ σ H locs ls hcr h hP hD hS hl
      | ge =>
        simp only [mm_ex] at h
        obtain ⟨x, s', hst, h7⟩ := mm_i1_inv h
        clear h
        subst hst
        have h := h7
        clear h7
        obtain ⟨q', hq', ht⟩ := mm_lab_inv hsd
        refine lv_if_ge hx hb hd ht (fun hc9 => ?_) (fun hc9 => ?_)
        · rw [if_pos hc9] at h
          obtain ⟨q, hq, h⟩ := mm_bind h
          cases hq.symm.trans hq'
          exact ih q'.2 q'.1 L _ σ H locs ls (hlab q' (List.mem_of_getElem? hq)) h hP hD hS hl
        · rw [if_neg hc9] at h
          exact ih rs _ L _ σ H locs ls hcr h hP hD hS hl
      | gt =>
        simp only [mm_ex] at h
        obtain ⟨x, s', hst, h7⟩ := mm_i1_inv h
        clear h
        subst hst
        have h := h7
        clear h7
        obtain ⟨q', hq', ht⟩ := mm_lab_inv hsd
        refine lv_if_gt hx hb hd ht (fun hc9 => ?_) (fun hc9 => ?_)
        · rw [if_pos hc9] at h
          obtain ⟨q, hq, h⟩ := mm_bind h
          cases hq.symm.trans hq'
          exact ih q'.2 q'.1 L _ σ H locs ls (hlab q' (List.mem_of_getElem? hq)) h hP hD hS hl
        · rw [if_neg hc9] at h
          exact ih rs _ L _ σ H locs ls hcr h hP hD hS hl
      | le =>
        simp only [mm_ex] at h
        obtain ⟨x, s', hst, h7⟩ := mm_i1_inv h
        clear h
        subst hst
        have h := h7
        clear h7
        obtain ⟨q', hq', ht⟩ := mm_lab_inv hsd
        refine lv_if_le hx hb hd ht (fun hc9 => ?_) (fun hc9 => ?_)
        · rw [if_pos hc9] at h
          obtain ⟨q, hq, h⟩ := mm_bind h
          cases hq.symm.trans hq'
          exact ih q'.2 q'.1 L _ σ H locs ls (hlab q' (List.mem_of_getElem? hq)) h hP hD hS hl
        · rw [if_neg hc9] at h
          exact ih rs _ L _ σ H locs ls hcr h hP hD hS hl
    | if_icmp cnd off =>
      have hln : len = 3 := by simpa [mm_len] using hln
      subst hln
      cases cnd with
      | eq =>
        simp only [mm_ex] at h
        obtain ⟨x, y, s', hst, h7⟩ := mm_i2_inv h
        clear h
        subst hst
        have h := h7
        clear h7
        obtain ⟨q', hq', ht⟩ := mm_lab_inv hsd
        refine lv_icmp_eq hx hb hd ht (fun hc9 => ?_) (fun hc9 => ?_)
        · rw [if_pos hc9] at h
          obtain ⟨q, hq, h⟩ := mm_bind h
          cases hq.symm.trans hq'
          exact ih q'.2 q'.1 L _ σ H locs ls (hlab q' (List.mem_of_getElem? hq)) h hP hD hS hl
        · rw [if_neg hc9] at h
          exact ih rs _ L _ σ H locs ls hcr h hP hD hS hl
      | ne =>
        simp only [mm_ex] at h
        obtain ⟨x, y, s', hst, h7⟩ := mm_i2_inv h
        clear h
        subst hst
        have h := h7
        clear h7
        obtain ⟨q', hq', ht⟩ := mm_lab_inv hsd
        refine lv_icmp_ne hx hb hd ht (fun hc9 => ?_) (fun hc9 => ?_)
        · rw [if_neg hc9] at h
          obtain ⟨q, hq, h⟩ := mm_bind h
          cases hq.symm.trans hq'
          exact ih q'.2 q'.1 L _ σ H locs ls (hlab q' (List.mem_of_getElem? hq)) h hP hD hS hl
        · rw [if_pos hc9] at h
          exact ih rs _ L _ σ H locs ls hcr h hP hD hS hl
      | lt =>
        simp only [mm_ex] at h
        obtain ⟨x, y, s', hst, h7⟩ := mm_i2_inv h
        clear h
        subst hst
        have h := h7
        clear h7
        obtain ⟨q', hq', ht⟩ := mm_lab_inv hsd
        refine lv_icmp_lt hx hb hd ht (fun hc9 => ?_) (fun hc9 => ?_)
        · rw [if_pos hc9] at h
          obtain ⟨q, hq, h⟩ := mm_bind h
          cases hq.symm.trans hq'
          exact ih q'.2 q'.1 L _ σ H locs ls (hlab q' (List.mem_of_getElem? hq)) h hP hD hS hl
        · rw [if_neg hc9] at h
          exact ih rs _ L _ σ H locs ls hcr h hP hD hS hl
      | ge =>
        simp only [mm_ex] at h
        obtain ⟨x, y, s', hst, h7⟩ := mm_i2_inv h
        clear h
        subst hst
        have h := h7
        clear h7
        obtain ⟨q', hq', ht⟩ := mm_lab_inv hsd
        refine lv_icmp_ge hx hb hd ht (fun hc9 => ?_) (fun hc9 => ?_)
        · rw [if_pos hc9] at h
          obtain ⟨q, hq, h⟩ := mm_bind h
          cases hq.symm.trans hq'
          exact ih q'.2 q'.1 L _ σ H locs ls (hlab q' (List.mem_of_getElem? hq)) h hP hD hS hl
        · rw [if_neg hc9] at h
          exact ih rs _ L _ σ H locs ls hcr h hP hD hS hl
      | gt =>
        simp only [mm_ex] at h
        obtain ⟨x, y, s', hst, h7⟩ := mm_i2_inv h
        clear h
        subst hst
        have h := h7
        clear h7
        obtain ⟨q', hq', ht⟩ := mm_lab_inv hsd
        refine lv_icmp_gt hx hb hd ht (fun hc9 => ?_) (fun hc9 => ?_)
        · rw [if_pos hc9] at h
          obtain ⟨q, hq, h⟩ := mm_bind h
          cases hq.symm.trans hq'
          exact ih q'.2 q'.1 L _ σ H locs ls (hlab q' (List.mem_of_getElem? hq)) h hP hD hS hl
        · rw [if_neg hc9] at h
          exact ih rs _ L _ σ H locs ls hcr h hP hD hS hl
      | le =>
        simp only [mm_ex] at h
        obtain ⟨x, y, s', hst, h7⟩ := mm_i2_inv h
        clear h
        subst hst
        have h := h7
        clear h7
        obtain ⟨q', hq', ht⟩ := mm_lab_inv hsd
        refine lv_icmp_le hx hb hd ht (fun hc9 => ?_) (fun hc9 => ?_)
        · rw [if_pos hc9] at h
          obtain ⟨q, hq, h⟩ := mm_bind h
          cases hq.symm.trans hq'
          exact ih q'.2 q'.1 L _ σ H locs ls (hlab q' (List.mem_of_getElem? hq)) h hP hD hS hl
        · rw [if_neg hc9] at h
          exact ih rs _ L _ σ H locs ls hcr h hP hD hS hl
    | goto off =>
      have hln : len = 3 := by simpa [mm_len] using hln
      subst hln
      simp only [mm_ex] at h
      obtain ⟨q, hq, h⟩ := mm_bind h
      obtain ⟨q', hq', ht⟩ := mm_lab_inv hsd
      have eq9 : q = q' := Option.some.inj (hq.symm.trans hq')
      subst eq9
      exact lv_goto hx hb hd ht (ih q.2 q.1 L _ σ H locs ls (hlab q (List.mem_of_getElem? hq)) h hP hD hS hl)
    | tableswitch dflt lo hi offs =>
      simp only [mm_ex] at h
      obtain ⟨x, s', hst, h7⟩ := mm_i1_inv h
      clear h
      subst hst
      have h := h7
      clear h7
      simp only [mm_side, Bool.and_eq_true, decide_eq_true_eq] at hsd
      obtain ⟨hs1, hs2, hs3⟩ := hsd
      split at h
      · rename_i hc9
        obtain ⟨q, hq, h⟩ := mm_bind h
        obtain ⟨q', hq', ht⟩ := mm_lab_inv hs1
        have eq9 : q = q' := Option.some.inj (hq.symm.trans hq')
        subst eq9
        exact lv_tableOut hx hb hd hc9 ht (ih q.2 q.1 L _ σ H locs ls (hlab q (List.mem_of_getElem? hq)) h hP hD hS hl)
      · rename_i hc9
        obtain ⟨q, hq, h⟩ := mm_bind h
        have g1 : ¬ x.toInt < lo := fun z => hc9 (Or.inl z)
        have g2 : ¬ hi < x.toInt := fun z => hc9 (Or.inr z)
        have hi9 : (x.toInt - lo).toNat < offs.size := by omega
        have h9 := List.all_eq_true.mp hs3 _ (List.mem_range.mpr hi9)
        have ho : offs[(x.toInt - lo).toNat]? = some (offs[(x.toInt - lo).toNat]) := Array.getElem?_eq_getElem hi9
        rw [ho] at h9
        obtain ⟨q', hq', ht⟩ := mm_lab_inv h9
        have eq9 : q = q' := Option.some.inj (hq.symm.trans hq')
        subst eq9
        exact lv_tableIn hx hb hd g1 g2 ho ht (ih q.2 q.1 L _ σ H locs ls (hlab q (List.mem_of_getElem? hq)) h hP hD hS hl)
    | getfield k =>
      have hln : len = 3 := by simpa [mm_len] using hln
      subst hln
      simp only [mm_ex] at h
      obtain ⟨k0, s', hst, h7⟩ := mm_a1_inv h
      clear h
      subst hst
      have h := h7
      clear h7
      obtain ⟨u, hu, h⟩ := mm_bind h
      obtain ⟨fs, t, q, hs, hf, hu2⟩ := mm_fld_inv hu
      obtain ⟨C, T, N, hcl, hjN, hlk⟩ := hFk _ (of_decide_eq_true hsd)
      obtain ⟨hcw, hcn, -⟩ := hCk _ (List.mem_of_getElem? hcl)
      refine va_get (v := mm_rho a u) (ref := C) hx hb hts hcw hown hK hP k0 (mm_wo_at hs) hcl r2 hjN (hts _ hlk) (fun x9 h9 => by have h8 : s.fieldFound? (T r2).1 (T r2).2.1 (T r2).2.2.1 = some x9 := h9; rw [show (T r2).1 = C from hcn r2 hjN] at h8; exact h8) ?_ hd (ih rs _ L _ σ H locs ls hcr h hP hD hS hl)
      rw [List.getElem?_mapIdx, hf]
      show some (mm_fv a σ k0 r2 (t, q)) = _
      rw [hu2]
      unfold mm_fv
      by_cases h2 : t = 2
      · rw [if_pos h2, if_pos h2]; rfl
      · rw [if_neg h2, if_neg h2]; rfl
    | putfield k =>
      have hln : len = 3 := by simpa [mm_len] using hln
      subst hln
      simp only [mm_ex] at h
      obtain ⟨k0, x, s', hst, h7⟩ := mm_ai_inv h
      clear h
      subst hst
      have h := h7
      clear h7
      obtain ⟨u, hu, h⟩ := mm_bind h
      obtain ⟨fs, t, q, hs, hf, hu2⟩ := mm_pf_inv hu
      obtain ⟨C, T, N, hcl, hjN, hlk⟩ := hFk _ (of_decide_eq_true hsd)
      obtain ⟨hcw, hcn, ty0, hty, hnm⟩ := hCk _ (List.mem_of_getElem? hcl)
      obtain ⟨C2, T2, N2, hcl2, hfl, hty2⟩ := hSk _ (List.mem_of_getElem? hs) _ _ rfl
      cases hcl.symm.trans hcl2
      have hln2 : r2 < (fs.mapIdx fun j f => mm_fv a σ k0 j f).length := by rw [List.length_mapIdx]; exact (List.getElem?_eq_some_iff.mp hf).1
      have fin : ∀ (H1 : Heap) (locs1 : List Loc), va_P D cl ((mm_wo sh ca a σ).set k0 (a k0, .inr (r1, (fs.mapIdx fun j f => mm_fv a σ k0 j f).set r2 (.int x)))) H1 → va_D A ((mm_wo sh ca a σ).set k0 (a k0, .inr (r1, (fs.mapIdx fun j f => mm_fv a σ k0 j f).set r2 (.int x)))) → va_S A s.heap H1 locs1 → W p l e R s m args below meth c H1 locs1 0 0 (MQ below (mm_Q sh cl D ca a (mm_rk ret) res A) args s 0 0 A) (F0 m (pc + 3) ls (s'.map (mm_rho a))) := by
        intro H1 locs1 hP1 hD1 hS1
        rw [mm_wo_f hs hf (by rcases hu2 with z | ⟨z, -⟩ <;> omega)] at hP1 hD1
        exact ih rs _ L _ _ H1 locs1 ls hcr h hP1 hD1 hS1 hl
      rcases hu2 with ht | ⟨ht, hx01⟩
      · obtain ⟨g1, g2⟩ := (hty2 r2 t q hf).1 ht
        exact va_put (v := .int x) (ty := .int) (ref := C) hx hb hts hcw ty0 hty hnm hown hK hP hD hS k0 (mm_wo_at hs) hcl r2 hjN (hts _ hlk) (fun x9 h9 => by have h8 : s.fieldFound? (T r2).1 (T r2).2.1 (T r2).2.2.1 = some x9 := h9; rw [show (T r2).1 = C from hcn r2 hjN] at h8; exact h8) g1 g2 rfl rfl hln2 hd fin
      · obtain ⟨g1, g2⟩ := (hty2 r2 t q hf).2 ht
        exact va_put (v := .int x) (ty := .boolean) (ref := C) hx hb hts hcw ty0 hty hnm hown hK hP hD hS k0 (mm_wo_at hs) hcl r2 hjN (hts _ hlk) (fun x9 h9 => by have h8 : s.fieldFound? (T r2).1 (T r2).2.1 (T r2).2.2.1 = some x9 := h9; rw [show (T r2).1 = C from hcn r2 hjN] at h8; exact h8) g1 g2 (mm_nar2 hx01) (mm_fit2 hx01) hln2 hd fin
    | iaload =>
      have hln : len = 1 := by simpa [mm_len] using hln
      subst hln
      simp only [mm_ex] at h
      obtain ⟨k0, i9, s', hst, h7⟩ := mm_ai_inv h
      clear h
      subst hst
      have h := h7
      clear h7
      obtain ⟨z, hz, h⟩ := mm_bind h
      obtain ⟨rw9, hs⟩ := mm_arr_inv hz
      split at h
      · rename_i hin
        exact va_iald hx hb hK hP k0 0 (mm_wo_at hs) rfl hin hd (ih rs _ L _ σ H locs ls hcr h hP hD hS hl)
      · cases h
    | baload =>
      have hln : len = 1 := by simpa [mm_len] using hln
      subst hln
      simp only [mm_ex] at h
      obtain ⟨k0, i9, s', hst, h7⟩ := mm_ai_inv h
      clear h
      subst hst
      have h := h7
      clear h7
      obtain ⟨z, hz, h⟩ := mm_bind h
      obtain ⟨rw9, hs⟩ := mm_arr_inv hz
      split at h
      · rename_i hin
        exact va_zald hx hb hK hP k0 1 (mm_wo_at hs) rfl hin hd (ih rs _ L _ σ H locs ls hcr h hP hD hS hl)
      · cases h
    | laload =>
      have hln : len = 1 := by simpa [mm_len] using hln
      subst hln
      simp only [mm_ex] at h
      obtain ⟨k0, i9, s', hst, h7⟩ := mm_ai_inv h
      clear h
      subst hst
      have h := h7
      clear h7
      obtain ⟨z, hz, h⟩ := mm_bind h
      obtain ⟨rw9, hs⟩ := mm_arr_inv hz
      split at h
      · rename_i hin
        exact va_lald hx hb hK hP k0 2 (mm_wo_at hs) rfl hin hd (ih rs _ L _ σ H locs ls hcr h hP hD hS hl)
      · cases h
    | aaload =>
      have hln : len = 1 := by simpa [mm_len] using hln
      subst hln
      simp only [mm_ex] at h
      obtain ⟨k0, i9, s', hst, h7⟩ := mm_ai_inv h
      clear h
      subst hst
      have h := h7
      clear h7
      obtain ⟨q, hq, h⟩ := mm_bind h
      obtain ⟨n9, rw9, hs, hin, hrw⟩ := mm_grid_inv hq
      have hlt : i9.toNatClampNeg < n9 := Nat.not_le.mp fun q => hin (Or.inr q)
      have hcell := hP k0 _ (mm_wo_at hs)
      exact W.aald (v := .ref (a q)) (ty := .array .int) hx hb hcell ((hK.2 3 _ rfl).1 n9 (fun j => va_rf ((rw9[j]?).map a))) rfl (fun q => by cases q) (by show ¬ (i9 < 0 ∨ (arrV _ _ _).slots.size ≤ _); rw [arrV_size]; exact hin) (by show (arrV _ _ _).slots[_]? = _; rw [arrV_read _ _ hlt]; show some (va_rf ((rw9[i9.toNatClampNeg]?).map a)) = _; rw [hrw]; rfl) rfl rfl hd (ih rs _ L _ σ H locs ls hcr h hP hD hS hl)
    | iastore =>
      have hln : len = 1 := by simpa [mm_len] using hln
      subst hln
      simp only [mm_ex] at h
      obtain ⟨k0, i9, x, s', hst, h7⟩ := mm_aii_inv h
      clear h
      subst hst
      have h := h7
      clear h7
      obtain ⟨z, hz, h⟩ := mm_bind h
      obtain ⟨rw9, hs⟩ := mm_arr_inv hz
      split at h
      · rename_i hin
        refine va_iast hx hb hK hP hD hS k0 0 (mm_wo_at hs) rfl hin hd (fun H1 locs1 hP1 hD1 hS1 => ?_)
        rw [mm_wo_i hs] at hP1 hD1
        exact ih rs _ L _ _ H1 locs1 ls hcr h hP1 hD1 hS1 hl
      · cases h
    | bastore =>
      have hln : len = 1 := by simpa [mm_len] using hln
      subst hln
      simp only [mm_ex] at h
      obtain ⟨k0, i9, x, s', hst, h7⟩ := mm_aii_inv h
      clear h
      subst hst
      have h := h7
      clear h7
      obtain ⟨z, hz, h⟩ := mm_bind h
      obtain ⟨rw9, hs⟩ := mm_arr_inv hz
      split at h
      · rename_i hin
        split at h
        · rename_i hx01
          refine va_zast hx hb hK hP hD hS k0 1 (mm_wo_at hs) rfl hin hd (fun H1 locs1 hP1 hD1 hS1 => ?_)
          rw [mm_nar1 hx01, mm_wo_b hs] at hP1 hD1
          exact ih rs _ L _ _ H1 locs1 ls hcr h hP1 hD1 hS1 hl
        · cases h
      · cases h
    | lastore =>
      have hln : len = 1 := by simpa [mm_len] using hln
      subst hln
      simp only [mm_ex] at h
      obtain ⟨k0, i9, x, s', hst, h7⟩ := mm_ail_inv h
      clear h
      subst hst
      have h := h7
      clear h7
      obtain ⟨z, hz, h⟩ := mm_bind h
      obtain ⟨rw9, hs⟩ := mm_arr_inv hz
      split at h
      · rename_i hin
        refine va_last hx hb hK hP hD hS k0 2 (mm_wo_at hs) rfl hin hd (fun H1 locs1 hP1 hD1 hS1 => ?_)
        rw [mm_wo_l hs] at hP1 hD1
        exact ih rs _ L _ _ H1 locs1 ls hcr h hP1 hD1 hS1 hl
      · cases h
    | invokevirtual k =>
      have hln : len = 3 := by simpa [mm_len] using hln
      subst hln
      simp only [mm_ex] at h
      obtain ⟨⟨qa, qr⟩, hq, h7⟩ := mm_bind h
      clear h
      obtain ⟨u, hu, h8⟩ := mm_bind h7
      clear h7
      obtain ⟨k0, As, fs, e1, hs, e2, h4, hna⟩ := mm_cargs_inv hq
      dsimp only at e1 e2 h4 hu h8
      subst e1
      subst e2
      obtain ⟨M, T, N, np, hM, w1, w2, w3, hcl, hpar, hn1, hrk⟩ := hVk _ (of_decide_eq_true hsd)
      obtain ⟨m1, m2, m3, m4, m5, m6, -, -, -⟩ := hMk M (List.mem_of_getElem? hM)
      have hcon := hcall _ _ _ _ M hu hM H.size
      dsimp only at hn1 hrk hcl
      have hrun := va_runV (e := e) (below := below) (meth := meth) (g := F0 m pc ls ((As.reverse ++ .ref k0 :: qr).map (mm_rho a))) (C := M.2.1.cls) (As := As.map (mm_rho a)) (rest := qr.map (mm_rho a)) (b := a k0) (locs := locs) (cells := 0) (slots := 0) ⟨hx, hb, hml, hown, hts⟩ hcon ⟨callB_of np hts (mm_good hgood m1) rfl hrc.1 hrc.2 (hts _ m2) (hts _ w1) ⟨m5.1, m5.2, hpar⟩ ⟨hR.1, by omega⟩, hts _ w2, hts _ w3⟩
        ⟨mm_blind, va_recv hK hP hcl (mm_wo_at hs), fun U hU hW => ⟨rfl, by rw [hU], by rw [hU]; exact hP, va_K.moved hW.alike hK, hD.weaken (fun _ _ _ _ => trivial), fun w hw => va_Nw.warmM hW (hN w hw)⟩⟩ rfl (by rw [List.length_map]; omega) hl.1 (by simp [mm_rho]) (lv_room (mm_cats a _ h4)) hd ⟨Nat.zero_le _, Nat.zero_le _⟩
      refine mm_callW hrun hS (hAA σ H locs hS) (fun H1 locs1 hP1 hD1 hS1 => ?_)
      rw [mm_push_rv, ← hrk]
      exact ih rs _ L _ _ H1 locs1 ls hcr h8 hP1 (hD1.weaken (fun k9 q9 _ z => hAA σ H locs hS _ z)) hS1 hl
    | invokestatic k =>
      have hln : len = 3 := by simpa [mm_len] using hln
      subst hln
      rcases hTk _ (of_decide_eq_true hsd) with ⟨hj, w1, w2, w3, w4⟩ | ⟨hj, w1, w2, w3, w4⟩ | ⟨hj0, hj1, M, np, hM, w1, w2, hpar, hn1, hrk⟩
      · dsimp only at hj
        subst hj
        simp only [mm_ex] at h
        obtain ⟨x, y, s', hst, h7⟩ := mm_i2_inv h
        clear h
        subst hst
        have h := h7
        clear h7
        split at h
        · rename_i h4
          exact va_mmax hx hb (by rw [hml]; exact hl.1.symm) hown (hts _ w1) (hts _ w2) (hts _ w3) (hts _ w4) (by omega) (by have := mm_cats a s' h4; omega) (Nat.zero_le _) (Nat.zero_le _) hd (ih rs _ L _ σ H locs ls hcr h hP hD hS hl)
        · cases h
      · dsimp only at hj
        subst hj
        simp only [mm_ex] at h
        obtain ⟨x, y, s', hst, h7⟩ := mm_i2_inv h
        clear h
        subst hst
        have h := h7
        clear h7
        split at h
        · rename_i h4
          exact va_mmin hx hb (by rw [hml]; exact hl.1.symm) hown (hts _ w1) (hts _ w2) (hts _ w3) (hts _ w4) (by omega) (by have := mm_cats a s' h4; omega) (Nat.zero_le _) (Nat.zero_le _) hd (ih rs _ L _ σ H locs ls hcr h hP hD hS hl)
        · cases h
      · dsimp only at hj0 hj1
        have h : ((mm_sargs (r2 % 16) st).bind fun q => (call r1 q.1 σ).bind fun u => mm_ex sh call (mm_rk ret) labs n rs L (mm_push (r2 / 16 % 4) u q.2) u.2.2) = some res := by
          have e : mm_ex sh call (mm_rk ret) labs (n + 1) ((.invokestatic k, r1, r2, v, w) :: rs) L st σ = ((mm_sargs (r2 % 16) st).bind fun q => (call r1 q.1 σ).bind fun u => mm_ex sh call (mm_rk ret) labs n rs L (mm_push (r2 / 16 % 4) u q.2) u.2.2) := by
            show (match r1 with
              | 1000 => _
              | 1001 => _
              | _ => _) = _
            split
            · exact absurd rfl hj0
            · exact absurd rfl hj1
            · rfl
          exact e.symm.trans h
        obtain ⟨⟨qa, qr⟩, hq, h7⟩ := mm_bind h
        clear h
        obtain ⟨u, hu, h8⟩ := mm_bind h7
        clear h7
        obtain ⟨e2, h4, hna⟩ := mm_sargs_inv hq
        dsimp only at e2 h4 hna hu h8
        subst e2
        obtain ⟨m1, m2, m3, m4, m5, m6, -, -, -⟩ := hMk M (List.mem_of_getElem? hM)
        have hcon := hcall _ _ _ _ M hu hM H.size
        dsimp only at hn1 hrk
        have hrun : va_Run p l e R s m args below meth c H locs 0 0 0 0 (F0 m pc ls ((qa.reverse ++ qr).map (mm_rho a))) (qr.map (mm_rho a)) (mm_Q sh cl D ca a (mm_rk M.2.2.2.2.1) u (va_A (mm_wo sh ca a σ) H.size) (qa.map (mm_rho a)).toArray) (va_A (mm_wo sh ca a σ) H.size) := by
          rcases w1 with w1 | ⟨host, w1⟩
          · exact va_runS (As := qa.map (mm_rho a)) (rest := qr.map (mm_rho a)) ⟨hx, hb, hml, hown, hts⟩ hcon ⟨callB_of np hts (mm_good hgood m1) rfl hrc.1 hrc.2 (hts _ m2) (hts _ w1) ⟨m5.1, m5.2, hpar⟩ ⟨hR.1, by omega⟩, hts _ w2⟩
              ⟨mm_blind, fun U hU hW => ⟨rfl, by rw [hU], by rw [hU]; exact hP, va_K.moved hW.alike hK, hD.weaken (fun _ _ _ _ => trivial), fun w hw => va_Nw.warmM hW (hN w hw)⟩⟩ rfl (by rw [List.length_map]; omega) hl.1 (by simp) (lv_room (mm_cats a _ h4)) hd ⟨Nat.zero_le _, Nat.zero_le _⟩
          · exact va_runSN (As := qa.map (mm_rho a)) (rest := qr.map (mm_rho a)) ⟨hx, hb, hml, hown, hts⟩ hcon ⟨va_cnB np hts (mm_good hgood m1) rfl hrc.1 hrc.2 (hN _ w1) (hts _ m2) ⟨m5.1, m5.2, hpar⟩ ⟨hR.1, by omega⟩, hts _ w2, trivial⟩
              ⟨mm_blind, fun U hU hW => ⟨rfl, by rw [hU], by rw [hU]; exact hP, va_K.moved hW.alike hK, hD.weaken (fun _ _ _ _ => trivial), fun w hw => va_Nw.warmM hW (hN w hw)⟩⟩ rfl (by rw [List.length_map]; omega) hl.1 (by simp) (lv_room (mm_cats a _ h4)) hd ⟨Nat.zero_le _, Nat.zero_le _⟩
        refine mm_callW hrun hS (hAA σ H locs hS) (fun H1 locs1 hP1 hD1 hS1 => ?_)
        rw [mm_push_rv, ← hrk]
        exact ih rs _ L _ _ H1 locs1 ls hcr h8 hP1 (hD1.weaken (fun k9 q9 _ z => hAA σ H locs hS _ z)) hS1 hl
    | ireturn =>
      have hln : len = 1 := by simpa [mm_len] using hln
      subst hln
      simp only [mm_ex] at h
      obtain ⟨x, s', hst, h7⟩ := mm_i1_inv h
      clear h
      subst hst
      have h := h7
      clear h7
      obtain ⟨hst, h7⟩ := mm_e_inv h
      clear h
      subst hst
      have h := h7
      clear h7
      split at h
      · rename_i hk1
        cases h
        exact W.iret hx hb (hr.trans (mm_rk_1 hk1)) (fun t ht hW => ⟨⟨by rw [hk1]; rfl, by rw [ht]; exact hP, va_K.moved hW.alike hK, hD⟩, hS.F ht⟩) hS.2.2 hd
      · split at h
        · rename_i hk1
          split at h
          · rename_i hx01
            cases h
            exact W.zret (ty := .boolean) hx hb (hr.trans (mm_rk_3 hk1)) (mm_nar2 hx01) (fun t ht hW => ⟨⟨by rw [hk1]; rfl, by rw [ht]; exact hP, va_K.moved hW.alike hK, hD⟩, hS.F ht⟩) hS.2.2 hd
          · cases h
        · cases h
    | lreturn =>
      have hln : len = 1 := by simpa [mm_len] using hln
      subst hln
      simp only [mm_ex] at h
      obtain ⟨x, s', hst, h7⟩ := mm_l1_inv h
      clear h
      subst hst
      have h := h7
      clear h7
      obtain ⟨hst, h7⟩ := mm_e_inv h
      clear h
      subst hst
      have h := h7
      clear h7
      split at h
      · rename_i hk1
        cases h
        exact W.lret hx hb (hr.trans (mm_rk_2 hk1)) (fun t ht hW => ⟨⟨by rw [hk1]; rfl, by rw [ht]; exact hP, va_K.moved hW.alike hK, hD⟩, hS.F ht⟩) hS.2.2 hd
      · cases h
    | return_ =>
      have hln : len = 1 := by simpa [mm_len] using hln
      subst hln
      simp only [mm_ex] at h
      obtain ⟨hst, h7⟩ := mm_e_inv h
      clear h
      subst hst
      have h := h7
      clear h7
      split at h
      · rename_i hk1
        cases h
        exact W.vret hx hb (hr.trans (mm_rk_0 hk1)) (fun t ht hW => ⟨⟨by rw [hk1]; rfl, by rw [ht]; exact hP, va_K.moved hW.alike hK, hD⟩, hS.F ht⟩) hS.2.2 hd
      · cases h
    | _ =>
      have h9 : (none : Option mm_R) = some res := h
      cases h9
/-- the entry's locals -/
theorem mm_ent_mem (a : Nat → Nat) : ∀ (vs : List Value), vs.all mm_plain = true → ∀ (o i : Nat) (v : Value), (mm_ent vs)[i]? = some v → v ≠ .null → (o + i, mm_rho a v) ∈ lv_args o (vs.map (mm_rho a))
  | [], _, o, i, v, h, _ => by simp [mm_ent] at h
  | x :: vs, hp, o, i, v, h, hn => by
    simp only [List.all_cons, Bool.and_eq_true] at hp
    obtain ⟨hx, hvs⟩ := hp
    have ih := mm_ent_mem a vs hvs
    cases x with
    | int z =>
      simp only [mm_ent] at h
      simp only [List.map_cons, lv_args]
      rw [if_neg (by rw [mm_rho_cat]; simp [Value.category])]
      cases i with
      | zero => simp at h; subst h; exact List.mem_cons_self
      | succ i =>
        simp at h
        have := ih (o + 1) i v h hn
        rw [show o + 1 + i = o + (i + 1) by omega] at this
        exact List.mem_cons_of_mem _ this
    | long z =>
      simp only [mm_ent] at h
      simp only [List.map_cons, lv_args]
      rw [if_pos (by rw [mm_rho_cat]; rfl)]
      cases i with
      | zero => simp at h; subst h; exact List.mem_cons_self
      | succ i =>
        cases i with
        | zero => simp at h; exact absurd h.symm hn
        | succ i =>
          simp at h
          have := ih (o + 2) i v h hn
          rw [show o + 2 + i = o + (i + 1 + 1) by omega] at this
          exact List.mem_cons_of_mem _ this
    | ref z =>
      simp only [mm_ent] at h
      simp only [List.map_cons, lv_args]
      rw [if_neg (by rw [mm_rho_cat]; simp [Value.category])]
      cases i with
      | zero => simp at h; subst h; exact List.mem_cons_self
      | succ i =>
        simp at h
        have := ih (o + 1) i v h hn
        rw [show o + 1 + i = o + (i + 1) by omega] at this
        exact List.mem_cons_of_mem _ this
    | _ => cases hx
theorem mm_ent_len (a : Nat → Nat) : ∀ (vs : List Value), vs.all mm_plain = true → (lg_sl (vs.map (mm_rho a))).length = (mm_ent vs).length
  | [], _ => rfl
  | x :: vs, hp => by
    simp only [List.all_cons, Bool.and_eq_true] at hp
    obtain ⟨hx, hvs⟩ := hp
    have ih := mm_ent_len a vs hvs
    unfold lg_sl at ih
    cases x with
    | int z => simp [lg_sl, mm_ent, mm_rho_cat, mm_rho, Value.category] at ih ⊢; exact ih
    | long z => simp [lg_sl, mm_ent, mm_rho_cat, mm_rho, Value.category] at ih ⊢; omega
    | ref z => simp [lg_sl, mm_ent, mm_rho_cat, mm_rho, Value.category] at ih ⊢; exact ih
    | _ => cases hx
def mm_room (d : Nat) : Room := { frames := d, cells := 0, slots := 0, locals := 40 * d }
set_option maxHeartbeats 4000000 in
set_option maxRecDepth 100000 in
/-- what the small machine answers, the machine does -/
theorem mm_all {tbl : List Jvm.Cond} {nst : mm_N} {cl : List vw_C} {nm : Nat → String} {sh : List mm_Sh} {P : List mm_M} {K : mm_Lk} (hO : mm_OK tbl nst cl nm sh P K) (l : Launch) (D : va_G) (ca : Nat → ClassId) (a : Nat → Nat) : ∀ (d k : Nat) (As : List Value) (σ : mm_S) (u : mm_R) (M : mm_M), mm_G sh P d k As σ = some u → P[k]? = some M → mm_Con l tbl nst sh cl D ca a (mm_room d) M As σ u := by
  intro d
  induction d with
  | zero => intro k As σ u M h; cases h
  | succ d ih =>
    intro k As σ u M h hM sz
    simp only [mm_G] at h
    rw [hM] at h
    obtain ⟨M', hM', h⟩ := mm_bind h
    cases hM'
    obtain ⟨q, hq, h⟩ := mm_bind h
    split at h
    · rename_i hpl
      simp only [Bool.and_eq_true, decide_eq_true_eq] at hpl
      obtain ⟨hp1, hp2⟩ := hpl
      obtain ⟨m1, m2, m3, m4, m5, m6, ⟨rs0, m7⟩, m8, m9⟩ := hO.2.2.2.1 M (List.mem_of_getElem? hM)
      cases hq.symm.trans m7
      refine Met.ofW (cc := M.2.2.1) (maxL := M.2.2.2.1) (ret := M.2.2.2.2.1) m4 rfl ?_
      intro p e s m args below meth c s₁ B hml hv
      obtain ⟨rfl, hsz, hP, hK, hD0, hN⟩ := hv
      have hts0 := atoms_spec (ws := mm_ws tbl M) B.pre
      have hown : s.vm.findClass (nm M.1) = some m.cls := by rw [← m3]; exact findClass_of_methodNamed B.named
      subst hsz
      have hD := hD0.self (sz := s.heap.size)
      have hlen : (lg_sl (As.map (mm_rho a))).length ≤ M.2.2.2.1 := by rw [mm_ent_len a As hp1]; exact hp2
      have hle := lv_entry (As.map (mm_rho a)) (n := M.2.2.2.1) hlen
      rw [lg_entry_eq]
      generalize (lg_sl (As.map (mm_rho a)) ++ List.replicate (M.2.2.2.1 - (lg_sl (As.map (mm_rho a))).length) Slot.unset).toArray = ls at hle ⊢
      have hl : mm_lok a ls M.2.2.2.1 (mm_loc As M.2.2.2.1) := by
        refine ⟨hle.1, hle.2.1, ?_, fun i v hi hn => ?_⟩
        · unfold mm_loc
          rw [List.length_append, List.length_replicate]
          omega
        · unfold mm_loc at hi
          by_cases hlt : i < (mm_ent As).length
          · rw [List.getElem?_append_left hlt] at hi
            have := mm_ent_mem a As hp1 0 i v hi hn
            rw [Nat.zero_add] at this
            exact hle.2.2 _ this
          · rw [List.getElem?_append_right (by omega)] at hi
            have := List.eq_of_mem_replicate (List.mem_of_getElem? hi)
            exact absurd this hn
      exact mm_body hO (rm := mm_room d) (call := mm_G sh P d) B.exec B.bytes hml hown (fun w hw => hts0 w (List.mem_cons_of_mem _ hw)) B.returns B.notSynchronized hK hN ⟨Nat.le_refl _, by show 39 + 40 * d ≤ 40 * (d + 1); omega⟩ ⟨rfl, rfl⟩ (fun k As σ u M h hM => ih k As σ u M h hM) m9 (fun q => mm_A_eq) _ rs0 0 _ [] σ s.heap [] ls (m9 _ (List.mem_of_getElem? m7)) h hP hD va_S.rf hl
    · cases h
end
section
-- ===== PART A: goes FIRST, ahead of the names: the tables' words, and 'selects' of the private methods out of them =====
/-- a private method of a class that the tables say can be made, by its rows of tables_1 -/
def lw_okq (q : MethodName × Nat) : Prop := (q.1.cls ≠ "java/lang/invoke/MethodHandle" ∧ q.1.cls ≠ "java/lang/invoke/VarHandle") ∧ Cond.instantiable q.1.cls q.2 ∈ tables_1 ∧ Cond.privateMethod q.1 ∈ tables_1 ∧ Cond.instanceMethod q.1 ∈ tables_1
theorem lw_p0 : lw_okq (⟨"WiringContainer$ClassTable", "isTypeCode", "(IIZZ)Z"⟩, 9) := ⟨⟨by decide +kernel, by decide +kernel⟩, List.mem_of_getElem? (i := 19) (by decide +kernel), List.mem_of_getElem? (i := 198) (by decide +kernel), List.mem_of_getElem? (i := 199) (by decide +kernel)⟩
theorem lw_p1 : lw_okq (⟨"WiringContainer$ClassTable", "isArgumentCode", "(IIZZ)Z"⟩, 9) := ⟨⟨by decide +kernel, by decide +kernel⟩, List.mem_of_getElem? (i := 19) (by decide +kernel), List.mem_of_getElem? (i := 206) (by decide +kernel), List.mem_of_getElem? (i := 207) (by decide +kernel)⟩
theorem lw_p2 : lw_okq (⟨"WiringContainer", "isRequirement", "(II)Z"⟩, 6) := ⟨⟨by decide +kernel, by decide +kernel⟩, List.mem_of_getElem? (i := 11) (by decide +kernel), List.mem_of_getElem? (i := 280) (by decide +kernel), List.mem_of_getElem? (i := 281) (by decide +kernel)⟩
theorem lw_p3 : lw_okq (⟨"WiringContainer$ClassTable", "note", "(J)V"⟩, 9) := ⟨⟨by decide +kernel, by decide +kernel⟩, List.mem_of_getElem? (i := 19) (by decide +kernel), List.mem_of_getElem? (i := 308) (by decide +kernel), List.mem_of_getElem? (i := 309) (by decide +kernel)⟩
theorem lw_p4 : lw_okq (⟨"WiringContainer$ClassTable", "become", "(IJ)J"⟩, 9) := ⟨⟨by decide +kernel, by decide +kernel⟩, List.mem_of_getElem? (i := 19) (by decide +kernel), List.mem_of_getElem? (i := 313) (by decide +kernel), List.mem_of_getElem? (i := 314) (by decide +kernel)⟩
theorem lw_p5 : lw_okq (⟨"WiringContainer$ClassTable", "isMet", "(JJI)Z"⟩, 9) := ⟨⟨by decide +kernel, by decide +kernel⟩, List.mem_of_getElem? (i := 19) (by decide +kernel), List.mem_of_getElem? (i := 325) (by decide +kernel), List.mem_of_getElem? (i := 326) (by decide +kernel)⟩
theorem lw_p6 : lw_okq (⟨"WiringContainer$BeanTable", "carries", "(II)Z"⟩, 11) := ⟨⟨by decide +kernel, by decide +kernel⟩, List.mem_of_getElem? (i := 56) (by decide +kernel), List.mem_of_getElem? (i := 344) (by decide +kernel), List.mem_of_getElem? (i := 345) (by decide +kernel)⟩
theorem lw_p7 : lw_okq (⟨"WiringContainer$BeanTable", "rankOf", "(I)I"⟩, 11) := ⟨⟨by decide +kernel, by decide +kernel⟩, List.mem_of_getElem? (i := 56) (by decide +kernel), List.mem_of_getElem? (i := 369) (by decide +kernel), List.mem_of_getElem? (i := 370) (by decide +kernel)⟩
theorem lw_p8 : lw_okq (⟨"WiringContainer$Plan", "judgePoints", "(I)I"⟩, 5) := ⟨⟨by decide +kernel, by decide +kernel⟩, List.mem_of_getElem? (i := 98) (by decide +kernel), List.mem_of_getElem? (i := 388) (by decide +kernel), List.mem_of_getElem? (i := 389) (by decide +kernel)⟩
theorem lw_p9 : lw_okq (⟨"WiringContainer$Plan", "noteNeeds", "(I)V"⟩, 5) := ⟨⟨by decide +kernel, by decide +kernel⟩, List.mem_of_getElem? (i := 98) (by decide +kernel), List.mem_of_getElem? (i := 419) (by decide +kernel), List.mem_of_getElem? (i := 420) (by decide +kernel)⟩
theorem lw_p10 : lw_okq (⟨"WiringContainer$Plan", "someNeedsItself", "()Z"⟩, 5) := ⟨⟨by decide +kernel, by decide +kernel⟩, List.mem_of_getElem? (i := 98) (by decide +kernel), List.mem_of_getElem? (i := 432) (by decide +kernel), List.mem_of_getElem? (i := 433) (by decide +kernel)⟩
theorem lw_p11 : lw_okq (⟨"WiringContainer$Plan", "someNameIsShared", "()Z"⟩, 5) := ⟨⟨by decide +kernel, by decide +kernel⟩, List.mem_of_getElem? (i := 98) (by decide +kernel), List.mem_of_getElem? (i := 436) (by decide +kernel), List.mem_of_getElem? (i := 437) (by decide +kernel)⟩
theorem lw_p12 : lw_okq (⟨"WiringContainer$Plan", "costOverNeeds", "(I)I"⟩, 5) := ⟨⟨by decide +kernel, by decide +kernel⟩, List.mem_of_getElem? (i := 98) (by decide +kernel), List.mem_of_getElem? (i := 450) (by decide +kernel), List.mem_of_getElem? (i := 451) (by decide +kernel)⟩
theorem lw_p13 : lw_okq (⟨"WiringContainer", "endContext", "(I)V"⟩, 6) := ⟨⟨by decide +kernel, by decide +kernel⟩, List.mem_of_getElem? (i := 11) (by decide +kernel), List.mem_of_getElem? (i := 493) (by decide +kernel), List.mem_of_getElem? (i := 494) (by decide +kernel)⟩
theorem lw_p14 : lw_okq (⟨"WiringContainer", "makeOrRefuse", "(I)I"⟩, 6) := ⟨⟨by decide +kernel, by decide +kernel⟩, List.mem_of_getElem? (i := 11) (by decide +kernel), List.mem_of_getElem? (i := 519) (by decide +kernel), List.mem_of_getElem? (i := 520) (by decide +kernel)⟩
theorem lw_p15 : lw_okq (⟨"WiringContainer", "make", "(III)I"⟩, 6) := ⟨⟨by decide +kernel, by decide +kernel⟩, List.mem_of_getElem? (i := 11) (by decide +kernel), List.mem_of_getElem? (i := 527) (by decide +kernel), List.mem_of_getElem? (i := 528) (by decide +kernel)⟩
def lw_privs_1 : List (MethodName × Nat) := [(⟨"WiringContainer$ClassTable", "isTypeCode", "(IIZZ)Z"⟩, 9), (⟨"WiringContainer$ClassTable", "isArgumentCode", "(IIZZ)Z"⟩, 9), (⟨"WiringContainer", "isRequirement", "(II)Z"⟩, 6), (⟨"WiringContainer$ClassTable", "note", "(J)V"⟩, 9), (⟨"WiringContainer$ClassTable", "become", "(IJ)J"⟩, 9), (⟨"WiringContainer$ClassTable", "isMet", "(JJI)Z"⟩, 9), (⟨"WiringContainer$BeanTable", "carries", "(II)Z"⟩, 11), (⟨"WiringContainer$BeanTable", "rankOf", "(I)I"⟩, 11), (⟨"WiringContainer$Plan", "judgePoints", "(I)I"⟩, 5), (⟨"WiringContainer$Plan", "noteNeeds", "(I)V"⟩, 5), (⟨"WiringContainer$Plan", "someNeedsItself", "()Z"⟩, 5), (⟨"WiringContainer$Plan", "someNameIsShared", "()Z"⟩, 5), (⟨"WiringContainer$Plan", "costOverNeeds", "(I)I"⟩, 5), (⟨"WiringContainer", "endContext", "(I)V"⟩, 6), (⟨"WiringContainer", "makeOrRefuse", "(I)I"⟩, 6), (⟨"WiringContainer", "make", "(III)I"⟩, 6)]
theorem lw_r1 : ∀ q ∈ lw_privs_1, lw_okq q := List.forall_mem_cons.mpr ⟨lw_p0, List.forall_mem_cons.mpr ⟨lw_p1, List.forall_mem_cons.mpr ⟨lw_p2, List.forall_mem_cons.mpr ⟨lw_p3, List.forall_mem_cons.mpr ⟨lw_p4, List.forall_mem_cons.mpr ⟨lw_p5, List.forall_mem_cons.mpr ⟨lw_p6, List.forall_mem_cons.mpr ⟨lw_p7, List.forall_mem_cons.mpr ⟨lw_p8, List.forall_mem_cons.mpr ⟨lw_p9, List.forall_mem_cons.mpr ⟨lw_p10, List.forall_mem_cons.mpr ⟨lw_p11, List.forall_mem_cons.mpr ⟨lw_p12, List.forall_mem_cons.mpr ⟨lw_p13, List.forall_mem_cons.mpr ⟨lw_p14, List.forall_mem_cons.mpr ⟨lw_p15, fun _ h => absurd h List.not_mem_nil⟩⟩⟩⟩⟩⟩⟩⟩⟩⟩⟩⟩⟩⟩⟩⟩
theorem lw_p16 : lw_okq (⟨"WiringContainer", "reach", "(II)I"⟩, 6) := ⟨⟨by decide +kernel, by decide +kernel⟩, List.mem_of_getElem? (i := 11) (by decide +kernel), List.mem_of_getElem? (i := 546) (by decide +kernel), List.mem_of_getElem? (i := 547) (by decide +kernel)⟩
theorem lw_p17 : lw_okq (⟨"WiringContainer", "destroyObtained", "()V"⟩, 6) := ⟨⟨by decide +kernel, by decide +kernel⟩, List.mem_of_getElem? (i := 11) (by decide +kernel), List.mem_of_getElem? (i := 595) (by decide +kernel), List.mem_of_getElem? (i := 596) (by decide +kernel)⟩
theorem lw_p18 : lw_okq (⟨"WiringContainerModel", "parental", "(IZ)Z"⟩, 41) := ⟨⟨by decide +kernel, by decide +kernel⟩, List.mem_of_getElem? (i := 623) (by decide +kernel), List.mem_of_getElem? (i := 757) (by decide +kernel), List.mem_of_getElem? (i := 758) (by decide +kernel)⟩
theorem lw_p19 : lw_okq (⟨"WiringContainerModel", "written", "(IIZZ)Z"⟩, 41) := ⟨⟨by decide +kernel, by decide +kernel⟩, List.mem_of_getElem? (i := 623) (by decide +kernel), List.mem_of_getElem? (i := 761) (by decide +kernel), List.mem_of_getElem? (i := 762) (by decide +kernel)⟩
theorem lw_p20 : lw_okq (⟨"WiringContainerModel", "enter", "(IIIII)I"⟩, 41) := ⟨⟨by decide +kernel, by decide +kernel⟩, List.mem_of_getElem? (i := 623) (by decide +kernel), List.mem_of_getElem? (i := 772) (by decide +kernel), List.mem_of_getElem? (i := 773) (by decide +kernel)⟩
theorem lw_p21 : lw_okq (⟨"WiringContainerModel", "isBean", "(I)Z"⟩, 41) := ⟨⟨by decide +kernel, by decide +kernel⟩, List.mem_of_getElem? (i := 623) (by decide +kernel), List.mem_of_getElem? (i := 784) (by decide +kernel), List.mem_of_getElem? (i := 785) (by decide +kernel)⟩
theorem lw_p22 : lw_okq (⟨"WiringContainerModel", "required", "(I)Z"⟩, 41) := ⟨⟨by decide +kernel, by decide +kernel⟩, List.mem_of_getElem? (i := 623) (by decide +kernel), List.mem_of_getElem? (i := 788) (by decide +kernel), List.mem_of_getElem? (i := 789) (by decide +kernel)⟩
theorem lw_p23 : lw_okq (⟨"WiringContainerModel", "climb", "(J)V"⟩, 41) := ⟨⟨by decide +kernel, by decide +kernel⟩, List.mem_of_getElem? (i := 623) (by decide +kernel), List.mem_of_getElem? (i := 799) (by decide +kernel), List.mem_of_getElem? (i := 800) (by decide +kernel)⟩
theorem lw_p24 : lw_okq (⟨"WiringContainerModel", "note", "(J)V"⟩, 41) := ⟨⟨by decide +kernel, by decide +kernel⟩, List.mem_of_getElem? (i := 623) (by decide +kernel), List.mem_of_getElem? (i := 803) (by decide +kernel), List.mem_of_getElem? (i := 804) (by decide +kernel)⟩
theorem lw_p25 : lw_okq (⟨"WiringContainerModel", "becomes", "(JJ)J"⟩, 41) := ⟨⟨by decide +kernel, by decide +kernel⟩, List.mem_of_getElem? (i := 623) (by decide +kernel), List.mem_of_getElem? (i := 808) (by decide +kernel), List.mem_of_getElem? (i := 809) (by decide +kernel)⟩
theorem lw_p26 : lw_okq (⟨"WiringContainerModel", "met", "(JJ)Z"⟩, 41) := ⟨⟨by decide +kernel, by decide +kernel⟩, List.mem_of_getElem? (i := 623) (by decide +kernel), List.mem_of_getElem? (i := 816) (by decide +kernel), List.mem_of_getElem? (i := 817) (by decide +kernel)⟩
theorem lw_p27 : lw_okq (⟨"WiringContainerModel", "ask", "(JJ)V"⟩, 41) := ⟨⟨by decide +kernel, by decide +kernel⟩, List.mem_of_getElem? (i := 623) (by decide +kernel), List.mem_of_getElem? (i := 820) (by decide +kernel), List.mem_of_getElem? (i := 821) (by decide +kernel)⟩
theorem lw_p28 : lw_okq (⟨"WiringContainerModel", "seek", "(II)I"⟩, 41) := ⟨⟨by decide +kernel, by decide +kernel⟩, List.mem_of_getElem? (i := 623) (by decide +kernel), List.mem_of_getElem? (i := 831) (by decide +kernel), List.mem_of_getElem? (i := 832) (by decide +kernel)⟩
theorem lw_p29 : lw_okq (⟨"WiringContainerModel", "enabled", "(I)Z"⟩, 41) := ⟨⟨by decide +kernel, by decide +kernel⟩, List.mem_of_getElem? (i := 623) (by decide +kernel), List.mem_of_getElem? (i := 835) (by decide +kernel), List.mem_of_getElem? (i := 836) (by decide +kernel)⟩
theorem lw_p30 : lw_okq (⟨"WiringContainerModel", "carries", "(II)Z"⟩, 41) := ⟨⟨by decide +kernel, by decide +kernel⟩, List.mem_of_getElem? (i := 623) (by decide +kernel), List.mem_of_getElem? (i := 839) (by decide +kernel), List.mem_of_getElem? (i := 840) (by decide +kernel)⟩
theorem lw_p31 : lw_okq (⟨"WiringContainerModel", "pick", "(II)I"⟩, 41) := ⟨⟨by decide +kernel, by decide +kernel⟩, List.mem_of_getElem? (i := 623) (by decide +kernel), List.mem_of_getElem? (i := 850) (by decide +kernel), List.mem_of_getElem? (i := 851) (by decide +kernel)⟩
def lw_privs_2 : List (MethodName × Nat) := [(⟨"WiringContainer", "reach", "(II)I"⟩, 6), (⟨"WiringContainer", "destroyObtained", "()V"⟩, 6), (⟨"WiringContainerModel", "parental", "(IZ)Z"⟩, 41), (⟨"WiringContainerModel", "written", "(IIZZ)Z"⟩, 41), (⟨"WiringContainerModel", "enter", "(IIIII)I"⟩, 41), (⟨"WiringContainerModel", "isBean", "(I)Z"⟩, 41), (⟨"WiringContainerModel", "required", "(I)Z"⟩, 41), (⟨"WiringContainerModel", "climb", "(J)V"⟩, 41), (⟨"WiringContainerModel", "note", "(J)V"⟩, 41), (⟨"WiringContainerModel", "becomes", "(JJ)J"⟩, 41), (⟨"WiringContainerModel", "met", "(JJ)Z"⟩, 41), (⟨"WiringContainerModel", "ask", "(JJ)V"⟩, 41), (⟨"WiringContainerModel", "seek", "(II)I"⟩, 41), (⟨"WiringContainerModel", "enabled", "(I)Z"⟩, 41), (⟨"WiringContainerModel", "carries", "(II)Z"⟩, 41), (⟨"WiringContainerModel", "pick", "(II)I"⟩, 41)]
theorem lw_r2 : ∀ q ∈ lw_privs_2, lw_okq q := List.forall_mem_cons.mpr ⟨lw_p16, List.forall_mem_cons.mpr ⟨lw_p17, List.forall_mem_cons.mpr ⟨lw_p18, List.forall_mem_cons.mpr ⟨lw_p19, List.forall_mem_cons.mpr ⟨lw_p20, List.forall_mem_cons.mpr ⟨lw_p21, List.forall_mem_cons.mpr ⟨lw_p22, List.forall_mem_cons.mpr ⟨lw_p23, List.forall_mem_cons.mpr ⟨lw_p24, List.forall_mem_cons.mpr ⟨lw_p25, List.forall_mem_cons.mpr ⟨lw_p26, List.forall_mem_cons.mpr ⟨lw_p27, List.forall_mem_cons.mpr ⟨lw_p28, List.forall_mem_cons.mpr ⟨lw_p29, List.forall_mem_cons.mpr ⟨lw_p30, List.forall_mem_cons.mpr ⟨lw_p31, fun _ h => absurd h List.not_mem_nil⟩⟩⟩⟩⟩⟩⟩⟩⟩⟩⟩⟩⟩⟩⟩⟩
theorem lw_p32 : lw_okq (⟨"WiringContainerModel", "narrow", "(I)I"⟩, 41) := ⟨⟨by decide +kernel, by decide +kernel⟩, List.mem_of_getElem? (i := 623) (by decide +kernel), List.mem_of_getElem? (i := 854) (by decide +kernel), List.mem_of_getElem? (i := 855) (by decide +kernel)⟩
theorem lw_p33 : lw_okq (⟨"WiringContainerModel", "rank", "(I)I"⟩, 41) := ⟨⟨by decide +kernel, by decide +kernel⟩, List.mem_of_getElem? (i := 623) (by decide +kernel), List.mem_of_getElem? (i := 858) (by decide +kernel), List.mem_of_getElem? (i := 859) (by decide +kernel)⟩
theorem lw_p34 : lw_okq (⟨"WiringContainerModel", "judge", "(I)I"⟩, 41) := ⟨⟨by decide +kernel, by decide +kernel⟩, List.mem_of_getElem? (i := 623) (by decide +kernel), List.mem_of_getElem? (i := 866) (by decide +kernel), List.mem_of_getElem? (i := 867) (by decide +kernel)⟩
theorem lw_p35 : lw_okq (⟨"WiringContainerModel", "hasVariable", "(I)Z"⟩, 41) := ⟨⟨by decide +kernel, by decide +kernel⟩, List.mem_of_getElem? (i := 623) (by decide +kernel), List.mem_of_getElem? (i := 870) (by decide +kernel), List.mem_of_getElem? (i := 871) (by decide +kernel)⟩
theorem lw_p36 : lw_okq (⟨"WiringContainerModel", "rings", "()Z"⟩, 41) := ⟨⟨by decide +kernel, by decide +kernel⟩, List.mem_of_getElem? (i := 623) (by decide +kernel), List.mem_of_getElem? (i := 874) (by decide +kernel), List.mem_of_getElem? (i := 875) (by decide +kernel)⟩
theorem lw_p37 : lw_okq (⟨"WiringContainerModel", "sameNames", "()Z"⟩, 41) := ⟨⟨by decide +kernel, by decide +kernel⟩, List.mem_of_getElem? (i := 623) (by decide +kernel), List.mem_of_getElem? (i := 878) (by decide +kernel), List.mem_of_getElem? (i := 879) (by decide +kernel)⟩
theorem lw_p38 : lw_okq (⟨"WiringContainerModel", "price", "(I)I"⟩, 41) := ⟨⟨by decide +kernel, by decide +kernel⟩, List.mem_of_getElem? (i := 623) (by decide +kernel), List.mem_of_getElem? (i := 882) (by decide +kernel), List.mem_of_getElem? (i := 883) (by decide +kernel)⟩
theorem lw_p39 : lw_okq (⟨"WiringContainerModel", "over", "(I)I"⟩, 41) := ⟨⟨by decide +kernel, by decide +kernel⟩, List.mem_of_getElem? (i := 623) (by decide +kernel), List.mem_of_getElem? (i := 901) (by decide +kernel), List.mem_of_getElem? (i := 902) (by decide +kernel)⟩
theorem lw_p40 : lw_okq (⟨"WiringContainerModel", "kill", "(II)I"⟩, 41) := ⟨⟨by decide +kernel, by decide +kernel⟩, List.mem_of_getElem? (i := 623) (by decide +kernel), List.mem_of_getElem? (i := 905) (by decide +kernel), List.mem_of_getElem? (i := 906) (by decide +kernel)⟩
theorem lw_p41 : lw_okq (⟨"WiringContainerModel", "reach", "(II)I"⟩, 41) := ⟨⟨by decide +kernel, by decide +kernel⟩, List.mem_of_getElem? (i := 623) (by decide +kernel), List.mem_of_getElem? (i := 913) (by decide +kernel), List.mem_of_getElem? (i := 914) (by decide +kernel)⟩
theorem lw_p42 : lw_okq (⟨"WiringContainerModel", "make", "(I)I"⟩, 41) := ⟨⟨by decide +kernel, by decide +kernel⟩, List.mem_of_getElem? (i := 623) (by decide +kernel), List.mem_of_getElem? (i := 917) (by decide +kernel), List.mem_of_getElem? (i := 918) (by decide +kernel)⟩
theorem lw_p43 : lw_okq (⟨"WiringContainerModel", "part", "(IIII)V"⟩, 41) := ⟨⟨by decide +kernel, by decide +kernel⟩, List.mem_of_getElem? (i := 623) (by decide +kernel), List.mem_of_getElem? (i := 921) (by decide +kernel), List.mem_of_getElem? (i := 922) (by decide +kernel)⟩
theorem lw_p44 : lw_okq (⟨"WiringContainerModel", "settle", "(I)I"⟩, 41) := ⟨⟨by decide +kernel, by decide +kernel⟩, List.mem_of_getElem? (i := 623) (by decide +kernel), List.mem_of_getElem? (i := 925) (by decide +kernel), List.mem_of_getElem? (i := 926) (by decide +kernel)⟩
theorem lw_p45 : lw_okq (⟨"WiringContainerModel", "sooner", "(II)Z"⟩, 41) := ⟨⟨by decide +kernel, by decide +kernel⟩, List.mem_of_getElem? (i := 623) (by decide +kernel), List.mem_of_getElem? (i := 929) (by decide +kernel), List.mem_of_getElem? (i := 930) (by decide +kernel)⟩
theorem lw_p46 : lw_okq (⟨"WiringContainerModel", "living", "(I)Z"⟩, 41) := ⟨⟨by decide +kernel, by decide +kernel⟩, List.mem_of_getElem? (i := 623) (by decide +kernel), List.mem_of_getElem? (i := 937) (by decide +kernel), List.mem_of_getElem? (i := 938) (by decide +kernel)⟩
def lw_privs_3 : List (MethodName × Nat) := [(⟨"WiringContainerModel", "narrow", "(I)I"⟩, 41), (⟨"WiringContainerModel", "rank", "(I)I"⟩, 41), (⟨"WiringContainerModel", "judge", "(I)I"⟩, 41), (⟨"WiringContainerModel", "hasVariable", "(I)Z"⟩, 41), (⟨"WiringContainerModel", "rings", "()Z"⟩, 41), (⟨"WiringContainerModel", "sameNames", "()Z"⟩, 41), (⟨"WiringContainerModel", "price", "(I)I"⟩, 41), (⟨"WiringContainerModel", "over", "(I)I"⟩, 41), (⟨"WiringContainerModel", "kill", "(II)I"⟩, 41), (⟨"WiringContainerModel", "reach", "(II)I"⟩, 41), (⟨"WiringContainerModel", "make", "(I)I"⟩, 41), (⟨"WiringContainerModel", "part", "(IIII)V"⟩, 41), (⟨"WiringContainerModel", "settle", "(I)I"⟩, 41), (⟨"WiringContainerModel", "sooner", "(II)Z"⟩, 41), (⟨"WiringContainerModel", "living", "(I)Z"⟩, 41)]
theorem lw_r3 : ∀ q ∈ lw_privs_3, lw_okq q := List.forall_mem_cons.mpr ⟨lw_p32, List.forall_mem_cons.mpr ⟨lw_p33, List.forall_mem_cons.mpr ⟨lw_p34, List.forall_mem_cons.mpr ⟨lw_p35, List.forall_mem_cons.mpr ⟨lw_p36, List.forall_mem_cons.mpr ⟨lw_p37, List.forall_mem_cons.mpr ⟨lw_p38, List.forall_mem_cons.mpr ⟨lw_p39, List.forall_mem_cons.mpr ⟨lw_p40, List.forall_mem_cons.mpr ⟨lw_p41, List.forall_mem_cons.mpr ⟨lw_p42, List.forall_mem_cons.mpr ⟨lw_p43, List.forall_mem_cons.mpr ⟨lw_p44, List.forall_mem_cons.mpr ⟨lw_p45, List.forall_mem_cons.mpr ⟨lw_p46, fun _ h => absurd h List.not_mem_nil⟩⟩⟩⟩⟩⟩⟩⟩⟩⟩⟩⟩⟩⟩⟩
def lw_privs : List (MethodName × Nat) := lw_privs_1 ++ (lw_privs_2 ++ (lw_privs_3))
def lw_tbl : List Cond := k2_sels lw_privs ++ tables_1
theorem lw_privs_ok : ∀ q ∈ lw_privs, lw_okq q := by
  show ∀ q ∈ lw_privs_1 ++ (lw_privs_2 ++ (lw_privs_3)), lw_okq q
  exact List.forall_mem_append.mpr ⟨lw_r1, List.forall_mem_append.mpr ⟨lw_r2, lw_r3⟩⟩
-- ===== end of PART A; then your names; then what follows =====
end
section
/-! the names (out of the printed ones), the words that stay good, the cells of the class and of the reference -/
def RX0 : String := "WiringContainer$BeanTable"
def TX0 : u_T := fun k => match k with
  | 0 => ("WiringContainer$BeanTable", "classes", "LWiringContainer$ClassTable;", true)
  | 1 => ("WiringContainer$BeanTable", "count", "I", false)
  | 2 => ("WiringContainer$BeanTable", "type", "[I", true)
  | 3 => ("WiringContainer$BeanTable", "marks", "[I", true)
  | 4 => ("WiringContainer$BeanTable", "scope", "[I", true)
  | 5 => ("WiringContainer$BeanTable", "choice", "[I", true)
  | 6 => ("WiringContainer$BeanTable", "home", "[I", true)
  | 7 => ("WiringContainer$BeanTable", "managed", "[Z", true)
  | 8 => ("WiringContainer$BeanTable", "points", "[I", true)
  | 9 => ("WiringContainer$BeanTable", "pointType", "[[I", true)
  | _ => ("WiringContainer$BeanTable", "pointMarks", "[[I", true)
def tyX0 : Nat → FieldType := fun k => match k with
  | 0 => .object "WiringContainer$ClassTable"
  | 1 => .int
  | 2 => .array .int
  | 3 => .array .int
  | 4 => .array .int
  | 5 => .array .int
  | 6 => .array .int
  | 7 => .array .boolean
  | 8 => .array .int
  | 9 => .array (.array .int)
  | _ => .array (.array .int)
set_option maxRecDepth 100000 in
theorem nmX0 : ∀ a, a < 11 → ∀ b, b < 11 → a ≠ b → (TX0 a).2.1 ≠ (TX0 b).2.1 := by decide +kernel
set_option maxRecDepth 100000 in
theorem tyX0_ok : ∀ k, k < 11 → parseFieldDescriptor (TX0 k).2.2.1 = some (tyX0 k) := by decide +kernel
def RX1 : String := "WiringContainer$ClassTable"
def TX1 : u_T := fun k => match k with
  | 0 => ("WiringContainer$ClassTable", "last", "I", false)
  | 1 => ("WiringContainer$ClassTable", "generic", "[Z", true)
  | 2 => ("WiringContainer$ClassTable", "closed", "[Z", true)
  | 3 => ("WiringContainer$ClassTable", "level", "[I", true)
  | 4 => ("WiringContainer$ClassTable", "first", "[I", true)
  | 5 => ("WiringContainer$ClassTable", "second", "[I", true)
  | 6 => ("WiringContainer$ClassTable", "headsAbove", "[I", true)
  | 7 => ("WiringContainer$ClassTable", "supertypes", "[J", true)
  | _ => ("WiringContainer$ClassTable", "supertypeCount", "I", false)
def tyX1 : Nat → FieldType := fun k => match k with
  | 0 => .int
  | 1 => .array .boolean
  | 2 => .array .boolean
  | 3 => .array .int
  | 4 => .array .int
  | 5 => .array .int
  | 6 => .array .int
  | 7 => .array .long
  | _ => .int
set_option maxRecDepth 100000 in
theorem nmX1 : ∀ a, a < 9 → ∀ b, b < 9 → a ≠ b → (TX1 a).2.1 ≠ (TX1 b).2.1 := by decide +kernel
set_option maxRecDepth 100000 in
theorem tyX1_ok : ∀ k, k < 9 → parseFieldDescriptor (TX1 k).2.2.1 = some (tyX1 k) := by decide +kernel
def RX2 : String := "WiringContainer$ContextTable"
def TX2 : u_T := fun k => match k with
  | 0 => ("WiringContainer$ContextTable", "active", "[Z", true)
  | _ => ("WiringContainer$ContextTable", "held", "[[I", true)
def tyX2 : Nat → FieldType := fun k => match k with
  | 0 => .array .boolean
  | _ => .array (.array .int)
set_option maxRecDepth 100000 in
theorem nmX2 : ∀ a, a < 2 → ∀ b, b < 2 → a ≠ b → (TX2 a).2.1 ≠ (TX2 b).2.1 := by decide +kernel
set_option maxRecDepth 100000 in
theorem tyX2_ok : ∀ k, k < 2 → parseFieldDescriptor (TX2 k).2.2.1 = some (tyX2 k) := by decide +kernel
def RX3 : String := "WiringContainer$InstanceTable"
def TX3 : u_T := fun k => match k with
  | 0 => ("WiringContainer$InstanceTable", "made", "I", false)
  | 1 => ("WiringContainer$InstanceTable", "living", "I", false)
  | 2 => ("WiringContainer$InstanceTable", "gone", "I", false)
  | 3 => ("WiringContainer$InstanceTable", "bean", "[I", true)
  | 4 => ("WiringContainer$InstanceTable", "owner", "[I", true)
  | 5 => ("WiringContainer$InstanceTable", "alive", "[Z", true)
  | 6 => ("WiringContainer$InstanceTable", "part", "[[I", true)
  | _ => ("WiringContainer$InstanceTable", "order", "[I", true)
def tyX3 : Nat → FieldType := fun k => match k with
  | 0 => .int
  | 1 => .int
  | 2 => .int
  | 3 => .array .int
  | 4 => .array .int
  | 5 => .array .boolean
  | 6 => .array (.array .int)
  | _ => .array .int
set_option maxRecDepth 100000 in
theorem nmX3 : ∀ a, a < 8 → ∀ b, b < 8 → a ≠ b → (TX3 a).2.1 ≠ (TX3 b).2.1 := by decide +kernel
set_option maxRecDepth 100000 in
theorem tyX3_ok : ∀ k, k < 8 → parseFieldDescriptor (TX3 k).2.2.1 = some (tyX3 k) := by decide +kernel
def RX4 : String := "WiringContainer$Plan"
def TX4 : u_T := fun k => match k with
  | 0 => ("WiringContainer$Plan", "classes", "LWiringContainer$ClassTable;", true)
  | 1 => ("WiringContainer$Plan", "beans", "LWiringContainer$BeanTable;", true)
  | 2 => ("WiringContainer$Plan", "target", "[[I", true)
  | 3 => ("WiringContainer$Plan", "needs", "[I", true)
  | _ => ("WiringContainer$Plan", "cost", "[I", true)
def tyX4 : Nat → FieldType := fun k => match k with
  | 0 => .object "WiringContainer$ClassTable"
  | 1 => .object "WiringContainer$BeanTable"
  | 2 => .array (.array .int)
  | 3 => .array .int
  | _ => .array .int
set_option maxRecDepth 100000 in
theorem nmX4 : ∀ a, a < 5 → ∀ b, b < 5 → a ≠ b → (TX4 a).2.1 ≠ (TX4 b).2.1 := by decide +kernel
set_option maxRecDepth 100000 in
theorem tyX4_ok : ∀ k, k < 5 → parseFieldDescriptor (TX4 k).2.2.1 = some (tyX4 k) := by decide +kernel
def RX5 : String := "WiringContainer"
def TX5 : u_T := fun k => match k with
  | 0 => ("WiringContainer", "classes", "LWiringContainer$ClassTable;", true)
  | 1 => ("WiringContainer", "beans", "LWiringContainer$BeanTable;", true)
  | 2 => ("WiringContainer", "plan", "LWiringContainer$Plan;", true)
  | 3 => ("WiringContainer", "instances", "LWiringContainer$InstanceTable;", true)
  | 4 => ("WiringContainer", "contexts", "LWiringContainer$ContextTable;", true)
  | _ => ("WiringContainer", "running", "Z", false)
def tyX5 : Nat → FieldType := fun k => match k with
  | 0 => .object "WiringContainer$ClassTable"
  | 1 => .object "WiringContainer$BeanTable"
  | 2 => .object "WiringContainer$Plan"
  | 3 => .object "WiringContainer$InstanceTable"
  | 4 => .object "WiringContainer$ContextTable"
  | _ => .boolean
set_option maxRecDepth 100000 in
theorem nmX5 : ∀ a, a < 6 → ∀ b, b < 6 → a ≠ b → (TX5 a).2.1 ≠ (TX5 b).2.1 := by decide +kernel
set_option maxRecDepth 100000 in
theorem tyX5_ok : ∀ k, k < 6 → parseFieldDescriptor (TX5 k).2.2.1 = some (tyX5 k) := by decide +kernel
def RX6 : String := "WiringContainerModel"
def TX6 : u_T := fun k => match k with
  | 0 => ("WiringContainerModel", "classes", "I", false)
  | 1 => ("WiringContainerModel", "generic", "[Z", true)
  | 2 => ("WiringContainerModel", "closed", "[Z", true)
  | 3 => ("WiringContainerModel", "level", "[I", true)
  | 4 => ("WiringContainerModel", "parent", "[I", true)
  | 5 => ("WiringContainerModel", "beans", "I", false)
  | 6 => ("WiringContainerModel", "kindOfBean", "[I", true)
  | 7 => ("WiringContainerModel", "mark", "[I", true)
  | 8 => ("WiringContainerModel", "scope", "[I", true)
  | 9 => ("WiringContainerModel", "choice", "[I", true)
  | 10 => ("WiringContainerModel", "home", "[I", true)
  | 11 => ("WiringContainerModel", "managed", "[Z", true)
  | 12 => ("WiringContainerModel", "points", "[I", true)
  | 13 => ("WiringContainerModel", "wanted", "[I", true)
  | 14 => ("WiringContainerModel", "wantedMark", "[I", true)
  | 15 => ("WiringContainerModel", "running", "Z", false)
  | 16 => ("WiringContainerModel", "to", "[I", true)
  | 17 => ("WiringContainerModel", "need", "[I", true)
  | 18 => ("WiringContainerModel", "cost", "[I", true)
  | 19 => ("WiringContainerModel", "above", "[J", true)
  | 20 => ("WiringContainerModel", "aboves", "I", false)
  | 21 => ("WiringContainerModel", "askR", "[J", true)
  | 22 => ("WiringContainerModel", "askB", "[J", true)
  | 23 => ("WiringContainerModel", "asks", "I", false)
  | 24 => ("WiringContainerModel", "used", "I", false)
  | 25 => ("WiringContainerModel", "beanAt", "[I", true)
  | 26 => ("WiringContainerModel", "ownerAt", "[I", true)
  | 27 => ("WiringContainerModel", "pointAt", "[I", true)
  | 28 => ("WiringContainerModel", "alive", "[Z", true)
  | 29 => ("WiringContainerModel", "obtained", "[Z", true)
  | 30 => ("WiringContainerModel", "gone", "[I", true)
  | 31 => ("WiringContainerModel", "gones", "I", false)
  | 32 => ("WiringContainerModel", "partBean", "[I", true)
  | 33 => ("WiringContainerModel", "partFrom", "[I", true)
  | 34 => ("WiringContainerModel", "partOwner", "[I", true)
  | 35 => ("WiringContainerModel", "partPoint", "[I", true)
  | 36 => ("WiringContainerModel", "partHome", "[Z", true)
  | 37 => ("WiringContainerModel", "parts", "I", false)
  | 38 => ("WiringContainerModel", "doomed", "[I", true)
  | 39 => ("WiringContainerModel", "active", "[Z", true)
  | _ => ("WiringContainerModel", "held", "[I", true)
def tyX6 : Nat → FieldType := fun k => match k with
  | 0 => .int
  | 1 => .array .boolean
  | 2 => .array .boolean
  | 3 => .array .int
  | 4 => .array .int
  | 5 => .int
  | 6 => .array .int
  | 7 => .array .int
  | 8 => .array .int
  | 9 => .array .int
  | 10 => .array .int
  | 11 => .array .boolean
  | 12 => .array .int
  | 13 => .array .int
  | 14 => .array .int
  | 15 => .boolean
  | 16 => .array .int
  | 17 => .array .int
  | 18 => .array .int
  | 19 => .array .long
  | 20 => .int
  | 21 => .array .long
  | 22 => .array .long
  | 23 => .int
  | 24 => .int
  | 25 => .array .int
  | 26 => .array .int
  | 27 => .array .int
  | 28 => .array .boolean
  | 29 => .array .boolean
  | 30 => .array .int
  | 31 => .int
  | 32 => .array .int
  | 33 => .array .int
  | 34 => .array .int
  | 35 => .array .int
  | 36 => .array .boolean
  | 37 => .int
  | 38 => .array .int
  | 39 => .array .boolean
  | _ => .array .int
set_option maxRecDepth 100000 in
theorem nmX6 : ∀ a, a < 41 → ∀ b, b < 41 → a ≠ b → (TX6 a).2.1 ≠ (TX6 b).2.1 := by decide +kernel
set_option maxRecDepth 100000 in
theorem tyX6_ok : ∀ k, k < 41 → parseFieldDescriptor (TX6 k).2.2.1 = some (tyX6 k) := by decide +kernel
def ww_cl : List vw_C := [(RX0, TX0, 11), (RX1, TX1, 9), (RX2, TX2, 2), (RX3, TX3, 8), (RX4, TX4, 5), (RX5, TX5, 6), (RX6, TX6, 41)]
def ww_nm (o : Nat) : String := match o with
  | 0 => "WiringContainer$BeanTable"
  | 1 => "WiringContainer$ClassTable"
  | 2 => "WiringContainer$ContextTable"
  | 3 => "WiringContainer$InstanceTable"
  | 4 => "WiringContainer$Plan"
  | 5 => "WiringContainer"
  | 6 => "WiringContainerModel"
  | 7 => "java/lang/Integer"
  | _ => "java/lang/Math"
def ww_tbl : List Jvm.Cond := lw_tbl.filter goodWord
set_option maxRecDepth 100000 in
theorem ww_good : ∀ w ∈ ww_tbl, goodWord w = true := fun w h => (List.mem_filter.mp h).2
set_option maxRecDepth 100000 in
theorem ww_in (i : Nat) {w : Jvm.Cond} (h : tables_1[i]? = some w) (g : goodWord w = true) : w ∈ ww_tbl := List.mem_filter.mpr ⟨List.mem_append_right _ (List.mem_of_getElem? h), g⟩
set_option maxRecDepth 100000 in
theorem ww_c1 (i : Nat) {w : Jvm.Cond} (h : tables_1_1[i]? = some w) (g : goodWord w = true) : w ∈ ww_tbl := List.mem_filter.mpr ⟨List.mem_append_right _ (show w ∈ tables_1 from List.mem_append_left _ (List.mem_of_getElem? h)), g⟩
set_option maxRecDepth 100000 in
theorem ww_c2 (i : Nat) {w : Jvm.Cond} (h : tables_1_2[i]? = some w) (g : goodWord w = true) : w ∈ ww_tbl := List.mem_filter.mpr ⟨List.mem_append_right _ (show w ∈ tables_1 from List.mem_append_right _ (List.mem_append_left _ (List.mem_of_getElem? h))), g⟩
set_option maxRecDepth 100000 in
theorem ww_c3 (i : Nat) {w : Jvm.Cond} (h : tables_1_3[i]? = some w) (g : goodWord w = true) : w ∈ ww_tbl := List.mem_filter.mpr ⟨List.mem_append_right _ (show w ∈ tables_1 from List.mem_append_right _ (List.mem_append_right _ (List.mem_append_left _ (List.mem_of_getElem? h)))), g⟩
set_option maxRecDepth 100000 in
theorem ww_c4 (i : Nat) {w : Jvm.Cond} (h : tables_1_4[i]? = some w) (g : goodWord w = true) : w ∈ ww_tbl := List.mem_filter.mpr ⟨List.mem_append_right _ (show w ∈ tables_1 from List.mem_append_right _ (List.mem_append_right _ (List.mem_append_right _ (List.mem_append_left _ (List.mem_of_getElem? h))))), g⟩
set_option maxRecDepth 100000 in
theorem ww_c5 (i : Nat) {w : Jvm.Cond} (h : tables_1_5[i]? = some w) (g : goodWord w = true) : w ∈ ww_tbl := List.mem_filter.mpr ⟨List.mem_append_right _ (show w ∈ tables_1 from List.mem_append_right _ (List.mem_append_right _ (List.mem_append_right _ (List.mem_append_right _ (List.mem_of_getElem? h))))), g⟩
set_option maxRecDepth 100000 in
theorem ww_inS (i : Nat) {w : Jvm.Cond} (h : (k2_sels lw_privs)[i]? = some w) (g : goodWord w = true) : w ∈ ww_tbl := List.mem_filter.mpr ⟨List.mem_append_left _ (List.mem_of_getElem? h), g⟩
def ww_nst : mm_N := [("WiringContainer$BeanTable", 101, ⟨"WiringContainer", "markOf", "(II)I"⟩, "WiringContainer")]
set_option maxRecDepth 100000 in
theorem ww_w0 : ∀ w ∈ u_ws RX0 TX0 11, w ∈ ww_tbl := fun w h => (by
  obtain ⟨k, hk, rfl⟩ := List.mem_map.mp h
  have hk := List.mem_range.mp hk
  match k, hk with
  | 0, _ => exact ww_c1 74 rfl rfl
  | 1, _ => exact ww_c1 76 rfl rfl
  | 2, _ => exact ww_c1 78 rfl rfl
  | 3, _ => exact ww_c1 80 rfl rfl
  | 4, _ => exact ww_c1 82 rfl rfl
  | 5, _ => exact ww_c1 84 rfl rfl
  | 6, _ => exact ww_c1 86 rfl rfl
  | 7, _ => exact ww_c1 88 rfl rfl
  | 8, _ => exact ww_c1 90 rfl rfl
  | 9, _ => exact ww_c1 92 rfl rfl
  | 10, _ => exact ww_c1 94 rfl rfl
  | k + 11, hk => omega)
set_option maxRecDepth 100000 in
theorem ww_C0 : mm_COk ww_tbl (RX0, TX0, 11) := ⟨ww_w0, by decide +kernel, tyX0, tyX0_ok, nmX0⟩
set_option maxRecDepth 100000 in
theorem ww_w1 : ∀ w ∈ u_ws RX1 TX1 9, w ∈ ww_tbl := fun w h => (by
  obtain ⟨k, hk, rfl⟩ := List.mem_map.mp h
  have hk := List.mem_range.mp hk
  match k, hk with
  | 0, _ => exact ww_c1 33 rfl rfl
  | 1, _ => exact ww_c1 35 rfl rfl
  | 2, _ => exact ww_c1 37 rfl rfl
  | 3, _ => exact ww_c1 39 rfl rfl
  | 4, _ => exact ww_c1 41 rfl rfl
  | 5, _ => exact ww_c1 43 rfl rfl
  | 6, _ => exact ww_c1 45 rfl rfl
  | 7, _ => exact ww_c1 47 rfl rfl
  | 8, _ => exact ww_c1 49 rfl rfl
  | k + 9, hk => omega)
set_option maxRecDepth 100000 in
theorem ww_C1 : mm_COk ww_tbl (RX1, TX1, 9) := ⟨ww_w1, by decide +kernel, tyX1, tyX1_ok, nmX1⟩
set_option maxRecDepth 100000 in
theorem ww_w2 : ∀ w ∈ u_ws RX2 TX2 2, w ∈ ww_tbl := fun w h => (by
  obtain ⟨k, hk, rfl⟩ := List.mem_map.mp h
  have hk := List.mem_range.mp hk
  match k, hk with
  | 0, _ => exact ww_c1 161 rfl rfl
  | 1, _ => exact ww_c1 163 rfl rfl
  | k + 2, hk => omega)
set_option maxRecDepth 100000 in
theorem ww_C2 : mm_COk ww_tbl (RX2, TX2, 2) := ⟨ww_w2, by decide +kernel, tyX2, tyX2_ok, nmX2⟩
set_option maxRecDepth 100000 in
theorem ww_w3 : ∀ w ∈ u_ws RX3 TX3 8, w ∈ ww_tbl := fun w h => (by
  obtain ⟨k, hk, rfl⟩ := List.mem_map.mp h
  have hk := List.mem_range.mp hk
  match k, hk with
  | 0, _ => exact ww_c1 135 rfl rfl
  | 1, _ => exact ww_c1 137 rfl rfl
  | 2, _ => exact ww_c1 139 rfl rfl
  | 3, _ => exact ww_c1 141 rfl rfl
  | 4, _ => exact ww_c1 143 rfl rfl
  | 5, _ => exact ww_c1 145 rfl rfl
  | 6, _ => exact ww_c1 147 rfl rfl
  | 7, _ => exact ww_c1 149 rfl rfl
  | k + 8, hk => omega)
set_option maxRecDepth 100000 in
theorem ww_C3 : mm_COk ww_tbl (RX3, TX3, 8) := ⟨ww_w3, by decide +kernel, tyX3, tyX3_ok, nmX3⟩
set_option maxRecDepth 100000 in
theorem ww_w4 : ∀ w ∈ u_ws RX4 TX4 5, w ∈ ww_tbl := fun w h => (by
  obtain ⟨k, hk, rfl⟩ := List.mem_map.mp h
  have hk := List.mem_range.mp hk
  match k, hk with
  | 0, _ => exact ww_c1 109 rfl rfl
  | 1, _ => exact ww_c1 111 rfl rfl
  | 2, _ => exact ww_c1 113 rfl rfl
  | 3, _ => exact ww_c1 115 rfl rfl
  | 4, _ => exact ww_c1 117 rfl rfl
  | k + 5, hk => omega)
set_option maxRecDepth 100000 in
theorem ww_C4 : mm_COk ww_tbl (RX4, TX4, 5) := ⟨ww_w4, by decide +kernel, tyX4, tyX4_ok, nmX4⟩
set_option maxRecDepth 100000 in
theorem ww_w5 : ∀ w ∈ u_ws RX5 TX5 6, w ∈ ww_tbl := fun w h => (by
  obtain ⟨k, hk, rfl⟩ := List.mem_map.mp h
  have hk := List.mem_range.mp hk
  match k, hk with
  | 0, _ => exact ww_c1 172 rfl rfl
  | 1, _ => exact ww_c1 174 rfl rfl
  | 2, _ => exact ww_c1 176 rfl rfl
  | 3, _ => exact ww_c1 178 rfl rfl
  | 4, _ => exact ww_c1 180 rfl rfl
  | 5, _ => exact ww_c1 182 rfl rfl
  | k + 6, hk => omega)
set_option maxRecDepth 100000 in
theorem ww_C5 : mm_COk ww_tbl (RX5, TX5, 6) := ⟨ww_w5, by decide +kernel, tyX5, tyX5_ok, nmX5⟩
set_option maxRecDepth 100000 in
theorem ww_w6 : ∀ w ∈ u_ws RX6 TX6 41, w ∈ ww_tbl := fun w h => (by
  obtain ⟨k, hk, rfl⟩ := List.mem_map.mp h
  have hk := List.mem_range.mp hk
  match k, hk with
  | 0, _ => exact ww_c3 189 rfl rfl
  | 1, _ => exact ww_c3 191 rfl rfl
  | 2, _ => exact ww_c3 193 rfl rfl
  | 3, _ => exact ww_c3 195 rfl rfl
  | 4, _ => exact ww_c3 197 rfl rfl
  | 5, _ => exact ww_c3 199 rfl rfl
  | 6, _ => exact ww_c3 201 rfl rfl
  | 7, _ => exact ww_c3 203 rfl rfl
  | 8, _ => exact ww_c3 205 rfl rfl
  | 9, _ => exact ww_c3 207 rfl rfl
  | 10, _ => exact ww_c3 209 rfl rfl
  | 11, _ => exact ww_c3 211 rfl rfl
  | 12, _ => exact ww_c3 213 rfl rfl
  | 13, _ => exact ww_c3 215 rfl rfl
  | 14, _ => exact ww_c3 217 rfl rfl
  | 15, _ => exact ww_c3 219 rfl rfl
  | 16, _ => exact ww_c3 221 rfl rfl
  | 17, _ => exact ww_c3 223 rfl rfl
  | 18, _ => exact ww_c3 225 rfl rfl
  | 19, _ => exact ww_c3 227 rfl rfl
  | 20, _ => exact ww_c3 229 rfl rfl
  | 21, _ => exact ww_c3 231 rfl rfl
  | 22, _ => exact ww_c3 233 rfl rfl
  | 23, _ => exact ww_c3 235 rfl rfl
  | 24, _ => exact ww_c3 237 rfl rfl
  | 25, _ => exact ww_c3 239 rfl rfl
  | 26, _ => exact ww_c4 1 rfl rfl
  | 27, _ => exact ww_c4 3 rfl rfl
  | 28, _ => exact ww_c4 5 rfl rfl
  | 29, _ => exact ww_c4 7 rfl rfl
  | 30, _ => exact ww_c4 9 rfl rfl
  | 31, _ => exact ww_c4 11 rfl rfl
  | 32, _ => exact ww_c4 13 rfl rfl
  | 33, _ => exact ww_c4 15 rfl rfl
  | 34, _ => exact ww_c4 17 rfl rfl
  | 35, _ => exact ww_c4 19 rfl rfl
  | 36, _ => exact ww_c4 21 rfl rfl
  | 37, _ => exact ww_c4 23 rfl rfl
  | 38, _ => exact ww_c4 25 rfl rfl
  | 39, _ => exact ww_c4 27 rfl rfl
  | 40, _ => exact ww_c4 29 rfl rfl
  | k + 41, hk => omega)
set_option maxRecDepth 100000 in
theorem ww_C6 : mm_COk ww_tbl (RX6, TX6, 41) := ⟨ww_w6, by decide +kernel, tyX6, tyX6_ok, nmX6⟩
set_option maxRecDepth 100000 in
theorem ww_Cs : ∀ r ∈ ww_cl, mm_COk ww_tbl r := List.forall_mem_cons.mpr ⟨ww_C0, List.forall_mem_cons.mpr ⟨ww_C1, List.forall_mem_cons.mpr ⟨ww_C2, List.forall_mem_cons.mpr ⟨ww_C3, List.forall_mem_cons.mpr ⟨ww_C4, List.forall_mem_cons.mpr ⟨ww_C5, List.forall_mem_cons.mpr ⟨ww_C6, fun _ h => absurd h List.not_mem_nil⟩⟩⟩⟩⟩⟩⟩
def sc : List mm_Sh := [.inl (5, [(2, 1), (2, 2), (2, 3), (2, 4), (2, 5), (1, 0)]), .inl (1, [(0, 0), (2, 6), (2, 7), (2, 8), (2, 9), (2, 10), (2, 11), (2, 12), (0, 0)]), .inl (0, [(2, 1), (0, 0), (2, 13), (2, 14), (2, 15), (2, 16), (2, 17), (2, 18), (2, 19), (2, 20), (2, 24)]), .inl (4, [(2, 1), (2, 2), (2, 28), (2, 32), (2, 33)]), .inl (3, [(0, 0), (0, 0), (0, 0), (2, 34), (2, 35), (2, 36), (2, 37), (2, 41)]), .inl (2, [(2, 42), (2, 43)]), .inr (1, 32, []), .inr (1, 32, []), .inr (0, 32, []), .inr (0, 32, []), .inr (0, 32, []), .inr (0, 32, []), .inr (2, 16, []), .inr (0, 16, []), .inr (0, 16, []), .inr (0, 16, []), .inr (0, 16, []), .inr (0, 16, []), .inr (1, 16, []), .inr (0, 16, []), .inr (3, 3, [21, 22, 23]), .inr (0, 16, []), .inr (0, 16, []), .inr (0, 16, []), .inr (3, 3, [25, 26, 27]), .inr (0, 16, []), .inr (0, 16, []), .inr (0, 16, []), .inr (3, 3, [29, 30, 31]), .inr (0, 16, []), .inr (0, 16, []), .inr (0, 16, []), .inr (0, 16, []), .inr (0, 16, []), .inr (0, 201, []), .inr (0, 201, []), .inr (1, 201, []), .inr (3, 3, [38, 39, 40]), .inr (0, 201, []), .inr (0, 201, []), .inr (0, 201, []), .inr (0, 200, []), .inr (1, 4, []), .inr (3, 4, [44, 45, 46, 47]), .inr (0, 16, []), .inr (0, 16, []), .inr (0, 16, []), .inr (0, 16, [])]
set_option maxRecDepth 100000 in
theorem sc_o0 : mm_SOk ww_cl (.inl (5, [(2, 1), (2, 2), (2, 3), (2, 4), (2, 5), (1, 0)])) := by
  intro ci fs h
  cases h
  refine ⟨_, _, _, rfl, rfl, fun j t q hj => ?_⟩
  match j, hj with
  | 0, hj => cases hj; exact ⟨by decide +kernel, by decide +kernel⟩
  | 1, hj => cases hj; exact ⟨by decide +kernel, by decide +kernel⟩
  | 2, hj => cases hj; exact ⟨by decide +kernel, by decide +kernel⟩
  | 3, hj => cases hj; exact ⟨by decide +kernel, by decide +kernel⟩
  | 4, hj => cases hj; exact ⟨by decide +kernel, by decide +kernel⟩
  | 5, hj => cases hj; exact ⟨by decide +kernel, by decide +kernel⟩
  | j + 6, hj => simp at hj
set_option maxRecDepth 100000 in
theorem sc_o1 : mm_SOk ww_cl (.inl (1, [(0, 0), (2, 6), (2, 7), (2, 8), (2, 9), (2, 10), (2, 11), (2, 12), (0, 0)])) := by
  intro ci fs h
  cases h
  refine ⟨_, _, _, rfl, rfl, fun j t q hj => ?_⟩
  match j, hj with
  | 0, hj => cases hj; exact ⟨by decide +kernel, by decide +kernel⟩
  | 1, hj => cases hj; exact ⟨by decide +kernel, by decide +kernel⟩
  | 2, hj => cases hj; exact ⟨by decide +kernel, by decide +kernel⟩
  | 3, hj => cases hj; exact ⟨by decide +kernel, by decide +kernel⟩
  | 4, hj => cases hj; exact ⟨by decide +kernel, by decide +kernel⟩
  | 5, hj => cases hj; exact ⟨by decide +kernel, by decide +kernel⟩
  | 6, hj => cases hj; exact ⟨by decide +kernel, by decide +kernel⟩
  | 7, hj => cases hj; exact ⟨by decide +kernel, by decide +kernel⟩
  | 8, hj => cases hj; exact ⟨by decide +kernel, by decide +kernel⟩
  | j + 9, hj => simp at hj
set_option maxRecDepth 100000 in
theorem sc_o2 : mm_SOk ww_cl (.inl (0, [(2, 1), (0, 0), (2, 13), (2, 14), (2, 15), (2, 16), (2, 17), (2, 18), (2, 19), (2, 20), (2, 24)])) := by
  intro ci fs h
  cases h
  refine ⟨_, _, _, rfl, rfl, fun j t q hj => ?_⟩
  match j, hj with
  | 0, hj => cases hj; exact ⟨by decide +kernel, by decide +kernel⟩
  | 1, hj => cases hj; exact ⟨by decide +kernel, by decide +kernel⟩
  | 2, hj => cases hj; exact ⟨by decide +kernel, by decide +kernel⟩
  | 3, hj => cases hj; exact ⟨by decide +kernel, by decide +kernel⟩
  | 4, hj => cases hj; exact ⟨by decide +kernel, by decide +kernel⟩
  | 5, hj => cases hj; exact ⟨by decide +kernel, by decide +kernel⟩
  | 6, hj => cases hj; exact ⟨by decide +kernel, by decide +kernel⟩
  | 7, hj => cases hj; exact ⟨by decide +kernel, by decide +kernel⟩
  | 8, hj => cases hj; exact ⟨by decide +kernel, by decide +kernel⟩
  | 9, hj => cases hj; exact ⟨by decide +kernel, by decide +kernel⟩
  | 10, hj => cases hj; exact ⟨by decide +kernel, by decide +kernel⟩
  | j + 11, hj => simp at hj
set_option maxRecDepth 100000 in
theorem sc_o3 : mm_SOk ww_cl (.inl (4, [(2, 1), (2, 2), (2, 28), (2, 32), (2, 33)])) := by
  intro ci fs h
  cases h
  refine ⟨_, _, _, rfl, rfl, fun j t q hj => ?_⟩
  match j, hj with
  | 0, hj => cases hj; exact ⟨by decide +kernel, by decide +kernel⟩
  | 1, hj => cases hj; exact ⟨by decide +kernel, by decide +kernel⟩
  | 2, hj => cases hj; exact ⟨by decide +kernel, by decide +kernel⟩
  | 3, hj => cases hj; exact ⟨by decide +kernel, by decide +kernel⟩
  | 4, hj => cases hj; exact ⟨by decide +kernel, by decide +kernel⟩
  | j + 5, hj => simp at hj
set_option maxRecDepth 100000 in
theorem sc_o4 : mm_SOk ww_cl (.inl (3, [(0, 0), (0, 0), (0, 0), (2, 34), (2, 35), (2, 36), (2, 37), (2, 41)])) := by
  intro ci fs h
  cases h
  refine ⟨_, _, _, rfl, rfl, fun j t q hj => ?_⟩
  match j, hj with
  | 0, hj => cases hj; exact ⟨by decide +kernel, by decide +kernel⟩
  | 1, hj => cases hj; exact ⟨by decide +kernel, by decide +kernel⟩
  | 2, hj => cases hj; exact ⟨by decide +kernel, by decide +kernel⟩
  | 3, hj => cases hj; exact ⟨by decide +kernel, by decide +kernel⟩
  | 4, hj => cases hj; exact ⟨by decide +kernel, by decide +kernel⟩
  | 5, hj => cases hj; exact ⟨by decide +kernel, by decide +kernel⟩
  | 6, hj => cases hj; exact ⟨by decide +kernel, by decide +kernel⟩
  | 7, hj => cases hj; exact ⟨by decide +kernel, by decide +kernel⟩
  | j + 8, hj => simp at hj
set_option maxRecDepth 100000 in
theorem sc_o5 : mm_SOk ww_cl (.inl (2, [(2, 42), (2, 43)])) := by
  intro ci fs h
  cases h
  refine ⟨_, _, _, rfl, rfl, fun j t q hj => ?_⟩
  match j, hj with
  | 0, hj => cases hj; exact ⟨by decide +kernel, by decide +kernel⟩
  | 1, hj => cases hj; exact ⟨by decide +kernel, by decide +kernel⟩
  | j + 2, hj => simp at hj
set_option maxRecDepth 100000 in
theorem sc_ok : ∀ x ∈ sc, mm_SOk ww_cl x := List.forall_mem_cons.mpr ⟨sc_o0, List.forall_mem_cons.mpr ⟨sc_o1, List.forall_mem_cons.mpr ⟨sc_o2, List.forall_mem_cons.mpr ⟨sc_o3, List.forall_mem_cons.mpr ⟨sc_o4, List.forall_mem_cons.mpr ⟨sc_o5, List.forall_mem_cons.mpr ⟨(fun _ _ h => by cases h), List.forall_mem_cons.mpr ⟨(fun _ _ h => by cases h), List.forall_mem_cons.mpr ⟨(fun _ _ h => by cases h), List.forall_mem_cons.mpr ⟨(fun _ _ h => by cases h), List.forall_mem_cons.mpr ⟨(fun _ _ h => by cases h), List.forall_mem_cons.mpr ⟨(fun _ _ h => by cases h), List.forall_mem_cons.mpr ⟨(fun _ _ h => by cases h), List.forall_mem_cons.mpr ⟨(fun _ _ h => by cases h), List.forall_mem_cons.mpr ⟨(fun _ _ h => by cases h), List.forall_mem_cons.mpr ⟨(fun _ _ h => by cases h), List.forall_mem_cons.mpr ⟨(fun _ _ h => by cases h), List.forall_mem_cons.mpr ⟨(fun _ _ h => by cases h), List.forall_mem_cons.mpr ⟨(fun _ _ h => by cases h), List.forall_mem_cons.mpr ⟨(fun _ _ h => by cases h), List.forall_mem_cons.mpr ⟨(fun _ _ h => by cases h), List.forall_mem_cons.mpr ⟨(fun _ _ h => by cases h), List.forall_mem_cons.mpr ⟨(fun _ _ h => by cases h), List.forall_mem_cons.mpr ⟨(fun _ _ h => by cases h), List.forall_mem_cons.mpr ⟨(fun _ _ h => by cases h), List.forall_mem_cons.mpr ⟨(fun _ _ h => by cases h), List.forall_mem_cons.mpr ⟨(fun _ _ h => by cases h), List.forall_mem_cons.mpr ⟨(fun _ _ h => by cases h), List.forall_mem_cons.mpr ⟨(fun _ _ h => by cases h), List.forall_mem_cons.mpr ⟨(fun _ _ h => by cases h), List.forall_mem_cons.mpr ⟨(fun _ _ h => by cases h), List.forall_mem_cons.mpr ⟨(fun _ _ h => by cases h), List.forall_mem_cons.mpr ⟨(fun _ _ h => by cases h), List.forall_mem_cons.mpr ⟨(fun _ _ h => by cases h), List.forall_mem_cons.mpr ⟨(fun _ _ h => by cases h), List.forall_mem_cons.mpr ⟨(fun _ _ h => by cases h), List.forall_mem_cons.mpr ⟨(fun _ _ h => by cases h), List.forall_mem_cons.mpr ⟨(fun _ _ h => by cases h), List.forall_mem_cons.mpr ⟨(fun _ _ h => by cases h), List.forall_mem_cons.mpr ⟨(fun _ _ h => by cases h), List.forall_mem_cons.mpr ⟨(fun _ _ h => by cases h), List.forall_mem_cons.mpr ⟨(fun _ _ h => by cases h), List.forall_mem_cons.mpr ⟨(fun _ _ h => by cases h), List.forall_mem_cons.mpr ⟨(fun _ _ h => by cases h), List.forall_mem_cons.mpr ⟨(fun _ _ h => by cases h), List.forall_mem_cons.mpr ⟨(fun _ _ h => by cases h), List.forall_mem_cons.mpr ⟨(fun _ _ h => by cases h), List.forall_mem_cons.mpr ⟨(fun _ _ h => by cases h), fun _ h => absurd h List.not_mem_nil⟩⟩⟩⟩⟩⟩⟩⟩⟩⟩⟩⟩⟩⟩⟩⟩⟩⟩⟩⟩⟩⟩⟩⟩⟩⟩⟩⟩⟩⟩⟩⟩⟩⟩⟩⟩⟩⟩⟩⟩⟩⟩⟩⟩⟩⟩⟩⟩
def sr : List mm_Sh := [.inl (6, [(0, 0), (2, 1), (2, 2), (2, 3), (2, 4), (0, 0), (2, 5), (2, 6), (2, 7), (2, 8), (2, 9), (2, 10), (2, 11), (2, 12), (2, 13), (1, 0), (2, 14), (2, 15), (2, 16), (2, 17), (0, 0), (2, 18), (2, 19), (0, 0), (0, 0), (2, 20), (2, 21), (2, 22), (2, 23), (2, 24), (2, 25), (0, 0), (2, 26), (2, 27), (2, 28), (2, 29), (2, 30), (0, 0), (2, 31), (2, 32), (2, 33)]), .inr (1, 32, []), .inr (1, 32, []), .inr (0, 32, []), .inr (0, 64, []), .inr (0, 16, []), .inr (0, 16, []), .inr (0, 16, []), .inr (0, 16, []), .inr (0, 16, []), .inr (1, 16, []), .inr (0, 16, []), .inr (0, 48, []), .inr (0, 48, []), .inr (0, 48, []), .inr (0, 16, []), .inr (0, 16, []), .inr (2, 16, []), .inr (2, 64, []), .inr (2, 64, []), .inr (0, 201, []), .inr (0, 201, []), .inr (0, 201, []), .inr (1, 201, []), .inr (1, 201, []), .inr (0, 201, []), .inr (0, 16, []), .inr (0, 16, []), .inr (0, 16, []), .inr (0, 16, []), .inr (1, 16, []), .inr (0, 16, []), .inr (1, 4, []), .inr (0, 64, [])]
set_option maxRecDepth 100000 in
theorem sr_o0 : mm_SOk ww_cl (.inl (6, [(0, 0), (2, 1), (2, 2), (2, 3), (2, 4), (0, 0), (2, 5), (2, 6), (2, 7), (2, 8), (2, 9), (2, 10), (2, 11), (2, 12), (2, 13), (1, 0), (2, 14), (2, 15), (2, 16), (2, 17), (0, 0), (2, 18), (2, 19), (0, 0), (0, 0), (2, 20), (2, 21), (2, 22), (2, 23), (2, 24), (2, 25), (0, 0), (2, 26), (2, 27), (2, 28), (2, 29), (2, 30), (0, 0), (2, 31), (2, 32), (2, 33)])) := by
  intro ci fs h
  cases h
  refine ⟨_, _, _, rfl, rfl, fun j t q hj => ?_⟩
  match j, hj with
  | 0, hj => cases hj; exact ⟨by decide +kernel, by decide +kernel⟩
  | 1, hj => cases hj; exact ⟨by decide +kernel, by decide +kernel⟩
  | 2, hj => cases hj; exact ⟨by decide +kernel, by decide +kernel⟩
  | 3, hj => cases hj; exact ⟨by decide +kernel, by decide +kernel⟩
  | 4, hj => cases hj; exact ⟨by decide +kernel, by decide +kernel⟩
  | 5, hj => cases hj; exact ⟨by decide +kernel, by decide +kernel⟩
  | 6, hj => cases hj; exact ⟨by decide +kernel, by decide +kernel⟩
  | 7, hj => cases hj; exact ⟨by decide +kernel, by decide +kernel⟩
  | 8, hj => cases hj; exact ⟨by decide +kernel, by decide +kernel⟩
  | 9, hj => cases hj; exact ⟨by decide +kernel, by decide +kernel⟩
  | 10, hj => cases hj; exact ⟨by decide +kernel, by decide +kernel⟩
  | 11, hj => cases hj; exact ⟨by decide +kernel, by decide +kernel⟩
  | 12, hj => cases hj; exact ⟨by decide +kernel, by decide +kernel⟩
  | 13, hj => cases hj; exact ⟨by decide +kernel, by decide +kernel⟩
  | 14, hj => cases hj; exact ⟨by decide +kernel, by decide +kernel⟩
  | 15, hj => cases hj; exact ⟨by decide +kernel, by decide +kernel⟩
  | 16, hj => cases hj; exact ⟨by decide +kernel, by decide +kernel⟩
  | 17, hj => cases hj; exact ⟨by decide +kernel, by decide +kernel⟩
  | 18, hj => cases hj; exact ⟨by decide +kernel, by decide +kernel⟩
  | 19, hj => cases hj; exact ⟨by decide +kernel, by decide +kernel⟩
  | 20, hj => cases hj; exact ⟨by decide +kernel, by decide +kernel⟩
  | 21, hj => cases hj; exact ⟨by decide +kernel, by decide +kernel⟩
  | 22, hj => cases hj; exact ⟨by decide +kernel, by decide +kernel⟩
  | 23, hj => cases hj; exact ⟨by decide +kernel, by decide +kernel⟩
  | 24, hj => cases hj; exact ⟨by decide +kernel, by decide +kernel⟩
  | 25, hj => cases hj; exact ⟨by decide +kernel, by decide +kernel⟩
  | 26, hj => cases hj; exact ⟨by decide +kernel, by decide +kernel⟩
  | 27, hj => cases hj; exact ⟨by decide +kernel, by decide +kernel⟩
  | 28, hj => cases hj; exact ⟨by decide +kernel, by decide +kernel⟩
  | 29, hj => cases hj; exact ⟨by decide +kernel, by decide +kernel⟩
  | 30, hj => cases hj; exact ⟨by decide +kernel, by decide +kernel⟩
  | 31, hj => cases hj; exact ⟨by decide +kernel, by decide +kernel⟩
  | 32, hj => cases hj; exact ⟨by decide +kernel, by decide +kernel⟩
  | 33, hj => cases hj; exact ⟨by decide +kernel, by decide +kernel⟩
  | 34, hj => cases hj; exact ⟨by decide +kernel, by decide +kernel⟩
  | 35, hj => cases hj; exact ⟨by decide +kernel, by decide +kernel⟩
  | 36, hj => cases hj; exact ⟨by decide +kernel, by decide +kernel⟩
  | 37, hj => cases hj; exact ⟨by decide +kernel, by decide +kernel⟩
  | 38, hj => cases hj; exact ⟨by decide +kernel, by decide +kernel⟩
  | 39, hj => cases hj; exact ⟨by decide +kernel, by decide +kernel⟩
  | 40, hj => cases hj; exact ⟨by decide +kernel, by decide +kernel⟩
  | j + 41, hj => simp at hj
set_option maxRecDepth 100000 in
theorem sr_ok : ∀ x ∈ sr, mm_SOk ww_cl x := List.forall_mem_cons.mpr ⟨sr_o0, List.forall_mem_cons.mpr ⟨(fun _ _ h => by cases h), List.forall_mem_cons.mpr ⟨(fun _ _ h => by cases h), List.forall_mem_cons.mpr ⟨(fun _ _ h => by cases h), List.forall_mem_cons.mpr ⟨(fun _ _ h => by cases h), List.forall_mem_cons.mpr ⟨(fun _ _ h => by cases h), List.forall_mem_cons.mpr ⟨(fun _ _ h => by cases h), List.forall_mem_cons.mpr ⟨(fun _ _ h => by cases h), List.forall_mem_cons.mpr ⟨(fun _ _ h => by cases h), List.forall_mem_cons.mpr ⟨(fun _ _ h => by cases h), List.forall_mem_cons.mpr ⟨(fun _ _ h => by cases h), List.forall_mem_cons.mpr ⟨(fun _ _ h => by cases h), List.forall_mem_cons.mpr ⟨(fun _ _ h => by cases h), List.forall_mem_cons.mpr ⟨(fun _ _ h => by cases h), List.forall_mem_cons.mpr ⟨(fun _ _ h => by cases h), List.forall_mem_cons.mpr ⟨(fun _ _ h => by cases h), List.forall_mem_cons.mpr ⟨(fun _ _ h => by cases h), List.forall_mem_cons.mpr ⟨(fun _ _ h => by cases h), List.forall_mem_cons.mpr ⟨(fun _ _ h => by cases h), List.forall_mem_cons.mpr ⟨(fun _ _ h => by cases h), List.forall_mem_cons.mpr ⟨(fun _ _ h => by cases h), List.forall_mem_cons.mpr ⟨(fun _ _ h => by cases h), List.forall_mem_cons.mpr ⟨(fun _ _ h => by cases h), List.forall_mem_cons.mpr ⟨(fun _ _ h => by cases h), List.forall_mem_cons.mpr ⟨(fun _ _ h => by cases h), List.forall_mem_cons.mpr ⟨(fun _ _ h => by cases h), List.forall_mem_cons.mpr ⟨(fun _ _ h => by cases h), List.forall_mem_cons.mpr ⟨(fun _ _ h => by cases h), List.forall_mem_cons.mpr ⟨(fun _ _ h => by cases h), List.forall_mem_cons.mpr ⟨(fun _ _ h => by cases h), List.forall_mem_cons.mpr ⟨(fun _ _ h => by cases h), List.forall_mem_cons.mpr ⟨(fun _ _ h => by cases h), List.forall_mem_cons.mpr ⟨(fun _ _ h => by cases h), List.forall_mem_cons.mpr ⟨(fun _ _ h => by cases h), fun _ h => absurd h List.not_mem_nil⟩⟩⟩⟩⟩⟩⟩⟩⟩⟩⟩⟩⟩⟩⟩⟩⟩⟩⟩⟩⟩⟩⟩⟩⟩⟩⟩⟩⟩⟩⟩⟩⟩⟩
end
section
/-! THE CLASS: its methods as rows (by program, out of the printed decode rows and words) -/
-- 0: WiringContainer$BeanTable.isFull()Z
def cp_0_r0 : List mm_Row := [(.aload_n 0, 0, 0, 0, 0), (.getfield 46, 0, 1, 0, 0), (.bipush 16, 0, 0, 16, 0), (.if_icmp .lt 7, 1, 0, 0, 0), (.iconst 1, 0, 0, 1, 0), (.goto 4, 2, 0, 0, 0)]
def cp_0_r1 : List mm_Row := [(.iconst 0, 0, 0, 0, 0), (.ireturn, 0, 0, 0, 0)]
def cp_0_r2 : List mm_Row := [(.ireturn, 0, 0, 0, 0)]
def cp_0_l : List (Nat × List mm_Row) := [(0, cp_0_r0), (13, cp_0_r1), (14, cp_0_r2)]
def cp_0 : mm_M := (0, ⟨"WiringContainer$BeanTable", "isFull", "()Z"⟩, prog_2_method_2_code, 1, (some .boolean), cp_0_l)
-- 1: WiringContainer$BeanTable.exists(I)Z
def cp_1_r0 : List mm_Row := [(.iload_n 1, 0, 0, 0, 0), (.ifCond .lt 15, 1, 0, 0, 0), (.iload_n 1, 0, 0, 0, 0), (.aload_n 0, 0, 0, 0, 0), (.getfield 46, 0, 1, 0, 0), (.if_icmp .ge 7, 1, 0, 0, 0), (.iconst 1, 0, 0, 1, 0), (.goto 4, 2, 0, 0, 0)]
def cp_1_r1 : List mm_Row := [(.iconst 0, 0, 0, 0, 0), (.ireturn, 0, 0, 0, 0)]
def cp_1_r2 : List mm_Row := [(.ireturn, 0, 0, 0, 0)]
def cp_1_l : List (Nat × List mm_Row) := [(0, cp_1_r0), (16, cp_1_r1), (17, cp_1_r2)]
def cp_1 : mm_M := (0, ⟨"WiringContainer$BeanTable", "exists", "(I)Z"⟩, prog_2_method_3_code, 2, (some .boolean), cp_1_l)
-- 2: WiringContainer$BeanTable.size()I
def cp_2_r0 : List mm_Row := [(.aload_n 0, 0, 0, 0, 0), (.getfield 46, 0, 1, 0, 0), (.ireturn, 0, 0, 0, 0)]
def cp_2_l : List (Nat × List mm_Row) := [(0, cp_2_r0)]
def cp_2 : mm_M := (0, ⟨"WiringContainer$BeanTable", "size", "()I"⟩, prog_2_method_4_code, 1, (some .int), cp_2_l)
-- 3: WiringContainer$BeanTable.add(IIII)I
def cp_3_r0 : List mm_Row := [(.aload_n 0, 0, 0, 0, 0), (.invokevirtual 50, 0, 49, 0, 0), (.ifCond .eq 6, 1, 0, 0, 0), (.bipush (-2), 0, 0, (-2), 0), (.ireturn, 0, 0, 0, 0)]
def cp_3_r1 : List mm_Row := [(.aload_n 0, 0, 0, 0, 0), (.getfield 46, 0, 1, 0, 0), (.istore 5, 0, 0, 0, 0), (.aload_n 0, 0, 0, 0, 0), (.getfield 9, 0, 2, 0, 0), (.iload 5, 0, 0, 0, 0), (.iload_n 1, 0, 0, 0, 0), (.iastore, 0, 0, 0, 0), (.iload_n 2, 0, 0, 0, 0), (.iconst 3, 0, 0, 3, 0), (.ishr, 0, 0, 0, 0), (.ifCond .ne 7, 2, 0, 0, 0), (.iconst 1, 0, 0, 1, 0), (.goto 4, 3, 0, 0, 0)]
def cp_3_r2 : List mm_Row := [(.iconst 0, 0, 0, 0, 0), (.istore 6, 0, 0, 0, 0), (.aload_n 0, 0, 0, 0, 0), (.getfield 15, 0, 3, 0, 0), (.iload 5, 0, 0, 0, 0), (.iload 6, 0, 0, 0, 0), (.ifCond .eq 10, 4, 0, 0, 0), (.iload_n 2, 0, 0, 0, 0), (.bipush 8, 0, 0, 8, 0), (.ior, 0, 0, 0, 0), (.goto 4, 5, 0, 0, 0)]
def cp_3_r3 : List mm_Row := [(.istore 6, 0, 0, 0, 0), (.aload_n 0, 0, 0, 0, 0), (.getfield 15, 0, 3, 0, 0), (.iload 5, 0, 0, 0, 0), (.iload 6, 0, 0, 0, 0), (.ifCond .eq 10, 4, 0, 0, 0), (.iload_n 2, 0, 0, 0, 0), (.bipush 8, 0, 0, 8, 0), (.ior, 0, 0, 0, 0), (.goto 4, 5, 0, 0, 0)]
def cp_3_r4 : List mm_Row := [(.iload_n 2, 0, 0, 0, 0), (.iastore, 0, 0, 0, 0), (.aload_n 0, 0, 0, 0, 0), (.getfield 18, 0, 4, 0, 0), (.iload 5, 0, 0, 0, 0), (.iload_n 3, 0, 0, 0, 0), (.iastore, 0, 0, 0, 0), (.aload_n 0, 0, 0, 0, 0), (.getfield 21, 0, 5, 0, 0), (.iload 5, 0, 0, 0, 0), (.iload 4, 0, 0, 0, 0), (.iastore, 0, 0, 0, 0), (.aload_n 0, 0, 0, 0, 0), (.getfield 24, 0, 6, 0, 0), (.iload 5, 0, 0, 0, 0), (.iconst (-1), 0, 0, (-1), 0), (.iastore, 0, 0, 0, 0), (.aload_n 0, 0, 0, 0, 0), (.dup, 0, 0, 0, 0), (.getfield 46, 0, 1, 0, 0), (.iconst 1, 0, 0, 1, 0), (.iadd, 0, 0, 0, 0), (.putfield 46, 0, 1, 0, 0), (.iload 5, 0, 0, 0, 0), (.ireturn, 0, 0, 0, 0)]
def cp_3_r5 : List mm_Row := [(.iastore, 0, 0, 0, 0), (.aload_n 0, 0, 0, 0, 0), (.getfield 18, 0, 4, 0, 0), (.iload 5, 0, 0, 0, 0), (.iload_n 3, 0, 0, 0, 0), (.iastore, 0, 0, 0, 0), (.aload_n 0, 0, 0, 0, 0), (.getfield 21, 0, 5, 0, 0), (.iload 5, 0, 0, 0, 0), (.iload 4, 0, 0, 0, 0), (.iastore, 0, 0, 0, 0), (.aload_n 0, 0, 0, 0, 0), (.getfield 24, 0, 6, 0, 0), (.iload 5, 0, 0, 0, 0), (.iconst (-1), 0, 0, (-1), 0), (.iastore, 0, 0, 0, 0), (.aload_n 0, 0, 0, 0, 0), (.dup, 0, 0, 0, 0), (.getfield 46, 0, 1, 0, 0), (.iconst 1, 0, 0, 1, 0), (.iadd, 0, 0, 0, 0), (.putfield 46, 0, 1, 0, 0), (.iload 5, 0, 0, 0, 0), (.ireturn, 0, 0, 0, 0)]
def cp_3_l : List (Nat × List mm_Row) := [(0, cp_3_r0), (10, cp_3_r1), (34, cp_3_r2), (35, cp_3_r3), (55, cp_3_r4), (56, cp_3_r5)]
def cp_3 : mm_M := (0, ⟨"WiringContainer$BeanTable", "add", "(IIII)I"⟩, prog_2_method_5_code, 7, (some .int), cp_3_l)
-- 4: WiringContainer$BeanTable.setManaged(I)V
def cp_4_r0 : List mm_Row := [(.aload_n 0, 0, 0, 0, 0), (.iload_n 1, 0, 0, 0, 0), (.invokevirtual 54, 1, 50, 0, 0), (.ifCond .eq 10, 1, 0, 0, 0), (.aload_n 0, 0, 0, 0, 0), (.getfield 27, 0, 7, 0, 0), (.iload_n 1, 0, 0, 0, 0), (.iconst 1, 0, 0, 1, 0), (.bastore, 0, 0, 0, 0), (.return_, 0, 0, 0, 0)]
def cp_4_r1 : List mm_Row := [(.return_, 0, 0, 0, 0)]
def cp_4_l : List (Nat × List mm_Row) := [(0, cp_4_r0), (15, cp_4_r1)]
def cp_4 : mm_M := (0, ⟨"WiringContainer$BeanTable", "setManaged", "(I)V"⟩, prog_2_method_6_code, 2, none, cp_4_l)
-- 5: WiringContainer$BeanTable.setHome(II)V
def cp_5_r0 : List mm_Row := [(.aload_n 0, 0, 0, 0, 0), (.iload_n 1, 0, 0, 0, 0), (.invokevirtual 54, 1, 50, 0, 0), (.ifCond .eq 18, 1, 0, 0, 0), (.aload_n 0, 0, 0, 0, 0), (.iload_n 2, 0, 0, 0, 0), (.invokevirtual 58, 15, 50, 0, 0), (.ifCond .eq 10, 1, 0, 0, 0), (.aload_n 0, 0, 0, 0, 0), (.getfield 24, 0, 6, 0, 0), (.iload_n 1, 0, 0, 0, 0), (.iload_n 2, 0, 0, 0, 0), (.iastore, 0, 0, 0, 0), (.return_, 0, 0, 0, 0)]
def cp_5_r1 : List mm_Row := [(.return_, 0, 0, 0, 0)]
def cp_5_l : List (Nat × List mm_Row) := [(0, cp_5_r0), (23, cp_5_r1)]
def cp_5 : mm_M := (0, ⟨"WiringContainer$BeanTable", "setHome", "(II)V"⟩, prog_2_method_7_code, 3, none, cp_5_l)
-- 6: WiringContainer$BeanTable.addPoint(III)I
def cp_6_r0 : List mm_Row := [(.aload_n 0, 0, 0, 0, 0), (.iload_n 1, 0, 0, 0, 0), (.invokevirtual 54, 1, 50, 0, 0), (.ifCond .eq 13, 1, 0, 0, 0), (.aload_n 0, 0, 0, 0, 0), (.getfield 31, 0, 8, 0, 0), (.iload_n 1, 0, 0, 0, 0), (.iaload, 0, 0, 0, 0), (.iconst 3, 0, 0, 3, 0), (.if_icmp .lt 6, 2, 0, 0, 0), (.bipush (-2), 0, 0, (-2), 0), (.ireturn, 0, 0, 0, 0)]
def cp_6_r1 : List mm_Row := [(.bipush (-2), 0, 0, (-2), 0), (.ireturn, 0, 0, 0, 0)]
def cp_6_r2 : List mm_Row := [(.aload_n 0, 0, 0, 0, 0), (.getfield 31, 0, 8, 0, 0), (.iload_n 1, 0, 0, 0, 0), (.iaload, 0, 0, 0, 0), (.istore 4, 0, 0, 0, 0), (.aload_n 0, 0, 0, 0, 0), (.getfield 36, 0, 9, 0, 0), (.iload 4, 0, 0, 0, 0), (.aaload, 0, 0, 0, 0), (.iload_n 1, 0, 0, 0, 0), (.iload_n 2, 0, 0, 0, 0), (.iastore, 0, 0, 0, 0), (.aload_n 0, 0, 0, 0, 0), (.getfield 39, 0, 10, 0, 0), (.iload 4, 0, 0, 0, 0), (.aaload, 0, 0, 0, 0), (.iload_n 1, 0, 0, 0, 0), (.iload_n 3, 0, 0, 0, 0), (.iastore, 0, 0, 0, 0), (.aload_n 0, 0, 0, 0, 0), (.getfield 31, 0, 8, 0, 0), (.iload_n 1, 0, 0, 0, 0), (.dup2, 0, 0, 0, 0), (.iaload, 0, 0, 0, 0), (.iconst 1, 0, 0, 1, 0), (.iadd, 0, 0, 0, 0), (.iastore, 0, 0, 0, 0), (.iload 4, 0, 0, 0, 0), (.ireturn, 0, 0, 0, 0)]
def cp_6_l : List (Nat × List mm_Row) := [(0, cp_6_r0), (18, cp_6_r1), (21, cp_6_r2)]
def cp_6 : mm_M := (0, ⟨"WiringContainer$BeanTable", "addPoint", "(III)I"⟩, prog_2_method_8_code, 5, (some .int), cp_6_l)
-- 7: WiringContainer$BeanTable.typeOf(I)I
def cp_7_r0 : List mm_Row := [(.aload_n 0, 0, 0, 0, 0), (.iload_n 1, 0, 0, 0, 0), (.invokevirtual 54, 1, 50, 0, 0), (.ifCond .eq 12, 1, 0, 0, 0), (.aload_n 0, 0, 0, 0, 0), (.getfield 9, 0, 2, 0, 0), (.iload_n 1, 0, 0, 0, 0), (.iaload, 0, 0, 0, 0), (.goto 4, 2, 0, 0, 0)]
def cp_7_r1 : List mm_Row := [(.iconst 0, 0, 0, 0, 0), (.ireturn, 0, 0, 0, 0)]
def cp_7_r2 : List mm_Row := [(.ireturn, 0, 0, 0, 0)]
def cp_7_l : List (Nat × List mm_Row) := [(0, cp_7_r0), (17, cp_7_r1), (18, cp_7_r2)]
def cp_7 : mm_M := (0, ⟨"WiringContainer$BeanTable", "typeOf", "(I)I"⟩, prog_2_method_9_code, 2, (some .int), cp_7_l)
-- 8: WiringContainer$BeanTable.nameOf(I)I
def cp_8_r0 : List mm_Row := [(.aload_n 0, 0, 0, 0, 0), (.iload_n 1, 0, 0, 0, 0), (.invokevirtual 54, 1, 50, 0, 0), (.ifCond .eq 15, 1, 0, 0, 0), (.aload_n 0, 0, 0, 0, 0), (.getfield 15, 0, 3, 0, 0), (.iload_n 1, 0, 0, 0, 0), (.iaload, 0, 0, 0, 0), (.bipush 7, 0, 0, 7, 0), (.iand, 0, 0, 0, 0), (.goto 4, 2, 0, 0, 0)]
def cp_8_r1 : List mm_Row := [(.iconst 0, 0, 0, 0, 0), (.ireturn, 0, 0, 0, 0)]
def cp_8_r2 : List mm_Row := [(.ireturn, 0, 0, 0, 0)]
def cp_8_l : List (Nat × List mm_Row) := [(0, cp_8_r0), (20, cp_8_r1), (21, cp_8_r2)]
def cp_8 : mm_M := (0, ⟨"WiringContainer$BeanTable", "nameOf", "(I)I"⟩, prog_2_method_10_code, 2, (some .int), cp_8_l)
-- 9: WiringContainer$BeanTable.scopeOf(I)I
def cp_9_r0 : List mm_Row := [(.aload_n 0, 0, 0, 0, 0), (.iload_n 1, 0, 0, 0, 0), (.invokevirtual 54, 1, 50, 0, 0), (.ifCond .eq 12, 1, 0, 0, 0), (.aload_n 0, 0, 0, 0, 0), (.getfield 18, 0, 4, 0, 0), (.iload_n 1, 0, 0, 0, 0), (.iaload, 0, 0, 0, 0), (.goto 4, 2, 0, 0, 0)]
def cp_9_r1 : List mm_Row := [(.iconst 0, 0, 0, 0, 0), (.ireturn, 0, 0, 0, 0)]
def cp_9_r2 : List mm_Row := [(.ireturn, 0, 0, 0, 0)]
def cp_9_l : List (Nat × List mm_Row) := [(0, cp_9_r0), (17, cp_9_r1), (18, cp_9_r2)]
def cp_9 : mm_M := (0, ⟨"WiringContainer$BeanTable", "scopeOf", "(I)I"⟩, prog_2_method_11_code, 2, (some .int), cp_9_l)
-- 10: WiringContainer$BeanTable.homeOf(I)I
def cp_10_r0 : List mm_Row := [(.aload_n 0, 0, 0, 0, 0), (.iload_n 1, 0, 0, 0, 0), (.invokevirtual 54, 1, 50, 0, 0), (.ifCond .eq 12, 1, 0, 0, 0), (.aload_n 0, 0, 0, 0, 0), (.getfield 24, 0, 6, 0, 0), (.iload_n 1, 0, 0, 0, 0), (.iaload, 0, 0, 0, 0), (.goto 4, 2, 0, 0, 0)]
def cp_10_r1 : List mm_Row := [(.iconst (-1), 0, 0, (-1), 0), (.ireturn, 0, 0, 0, 0)]
def cp_10_r2 : List mm_Row := [(.ireturn, 0, 0, 0, 0)]
def cp_10_l : List (Nat × List mm_Row) := [(0, cp_10_r0), (17, cp_10_r1), (18, cp_10_r2)]
def cp_10 : mm_M := (0, ⟨"WiringContainer$BeanTable", "homeOf", "(I)I"⟩, prog_2_method_12_code, 2, (some .int), cp_10_l)
-- 11: WiringContainer$BeanTable.pointCount(I)I
def cp_11_r0 : List mm_Row := [(.aload_n 0, 0, 0, 0, 0), (.iload_n 1, 0, 0, 0, 0), (.invokevirtual 54, 1, 50, 0, 0), (.ifCond .eq 12, 1, 0, 0, 0), (.aload_n 0, 0, 0, 0, 0), (.getfield 31, 0, 8, 0, 0), (.iload_n 1, 0, 0, 0, 0), (.iaload, 0, 0, 0, 0), (.goto 4, 2, 0, 0, 0)]
def cp_11_r1 : List mm_Row := [(.iconst 0, 0, 0, 0, 0), (.ireturn, 0, 0, 0, 0)]
def cp_11_r2 : List mm_Row := [(.ireturn, 0, 0, 0, 0)]
def cp_11_l : List (Nat × List mm_Row) := [(0, cp_11_r0), (17, cp_11_r1), (18, cp_11_r2)]
def cp_11 : mm_M := (0, ⟨"WiringContainer$BeanTable", "pointCount", "(I)I"⟩, prog_2_method_13_code, 2, (some .int), cp_11_l)
-- 12: WiringContainer$BeanTable.hasPoint(II)Z
def cp_12_r0 : List mm_Row := [(.iload_n 2, 0, 0, 0, 0), (.ifCond .lt 16, 1, 0, 0, 0), (.iload_n 2, 0, 0, 0, 0), (.aload_n 0, 0, 0, 0, 0), (.iload_n 1, 0, 0, 0, 0), (.invokevirtual 61, 11, 18, 0, 0), (.if_icmp .ge 7, 1, 0, 0, 0), (.iconst 1, 0, 0, 1, 0), (.goto 4, 2, 0, 0, 0)]
def cp_12_r1 : List mm_Row := [(.iconst 0, 0, 0, 0, 0), (.ireturn, 0, 0, 0, 0)]
def cp_12_r2 : List mm_Row := [(.ireturn, 0, 0, 0, 0)]
def cp_12_l : List (Nat × List mm_Row) := [(0, cp_12_r0), (17, cp_12_r1), (18, cp_12_r2)]
def cp_12 : mm_M := (0, ⟨"WiringContainer$BeanTable", "hasPoint", "(II)Z"⟩, prog_2_method_14_code, 3, (some .boolean), cp_12_l)
-- 13: WiringContainer$BeanTable.pointTypeOf(II)I
def cp_13_r0 : List mm_Row := [(.aload_n 0, 0, 0, 0, 0), (.iload_n 1, 0, 0, 0, 0), (.iload_n 2, 0, 0, 0, 0), (.invokevirtual 65, 12, 51, 0, 0), (.ifCond .eq 14, 1, 0, 0, 0), (.aload_n 0, 0, 0, 0, 0), (.getfield 36, 0, 9, 0, 0), (.iload_n 2, 0, 0, 0, 0), (.aaload, 0, 0, 0, 0), (.iload_n 1, 0, 0, 0, 0), (.iaload, 0, 0, 0, 0), (.goto 4, 2, 0, 0, 0)]
def cp_13_r1 : List mm_Row := [(.iconst 0, 0, 0, 0, 0), (.ireturn, 0, 0, 0, 0)]
def cp_13_r2 : List mm_Row := [(.ireturn, 0, 0, 0, 0)]
def cp_13_l : List (Nat × List mm_Row) := [(0, cp_13_r0), (20, cp_13_r1), (21, cp_13_r2)]
def cp_13 : mm_M := (0, ⟨"WiringContainer$BeanTable", "pointTypeOf", "(II)I"⟩, prog_2_method_15_code, 3, (some .int), cp_13_l)
-- 14: WiringContainer$BeanTable.pointMarksOf(II)I
def cp_14_r0 : List mm_Row := [(.aload_n 0, 0, 0, 0, 0), (.iload_n 1, 0, 0, 0, 0), (.iload_n 2, 0, 0, 0, 0), (.invokevirtual 65, 12, 51, 0, 0), (.ifCond .eq 14, 1, 0, 0, 0), (.aload_n 0, 0, 0, 0, 0), (.getfield 39, 0, 10, 0, 0), (.iload_n 2, 0, 0, 0, 0), (.aaload, 0, 0, 0, 0), (.iload_n 1, 0, 0, 0, 0), (.iaload, 0, 0, 0, 0), (.goto 4, 2, 0, 0, 0)]
def cp_14_r1 : List mm_Row := [(.iconst 0, 0, 0, 0, 0), (.ireturn, 0, 0, 0, 0)]
def cp_14_r2 : List mm_Row := [(.ireturn, 0, 0, 0, 0)]
def cp_14_l : List (Nat × List mm_Row) := [(0, cp_14_r0), (20, cp_14_r1), (21, cp_14_r2)]
def cp_14 : mm_M := (0, ⟨"WiringContainer$BeanTable", "pointMarksOf", "(II)I"⟩, prog_2_method_16_code, 3, (some .int), cp_14_l)
-- 15: WiringContainer$BeanTable.mayBeHome(I)Z
def cp_15_r0 : List mm_Row := [(.aload_n 0, 0, 0, 0, 0), (.iload_n 1, 0, 0, 0, 0), (.invokevirtual 54, 1, 50, 0, 0), (.ifCond .eq 25, 1, 0, 0, 0), (.aload_n 0, 0, 0, 0, 0), (.getfield 27, 0, 7, 0, 0), (.iload_n 1, 0, 0, 0, 0), (.baload, 0, 0, 0, 0), (.ifCond .eq 16, 1, 0, 0, 0), (.aload_n 0, 0, 0, 0, 0), (.getfield 18, 0, 4, 0, 0), (.iload_n 1, 0, 0, 0, 0), (.iaload, 0, 0, 0, 0), (.ifCond .ne 7, 1, 0, 0, 0), (.iconst 1, 0, 0, 1, 0), (.goto 4, 2, 0, 0, 0)]
def cp_15_r1 : List mm_Row := [(.iconst 0, 0, 0, 0, 0), (.ireturn, 0, 0, 0, 0)]
def cp_15_r2 : List mm_Row := [(.ireturn, 0, 0, 0, 0)]
def cp_15_l : List (Nat × List mm_Row) := [(0, cp_15_r0), (30, cp_15_r1), (31, cp_15_r2)]
def cp_15 : mm_M := (0, ⟨"WiringContainer$BeanTable", "mayBeHome", "(I)Z"⟩, prog_2_method_17_code, 2, (some .boolean), cp_15_l)
-- 16: WiringContainer$BeanTable.isDependent(I)Z
def cp_16_r0 : List mm_Row := [(.aload_n 0, 0, 0, 0, 0), (.iload_n 1, 0, 0, 0, 0), (.invokevirtual 54, 1, 50, 0, 0), (.ifCond .eq 16, 1, 0, 0, 0), (.aload_n 0, 0, 0, 0, 0), (.getfield 18, 0, 4, 0, 0), (.iload_n 1, 0, 0, 0, 0), (.iaload, 0, 0, 0, 0), (.ifCond .ne 7, 1, 0, 0, 0), (.iconst 1, 0, 0, 1, 0), (.goto 4, 2, 0, 0, 0)]
def cp_16_r1 : List mm_Row := [(.iconst 0, 0, 0, 0, 0), (.ireturn, 0, 0, 0, 0)]
def cp_16_r2 : List mm_Row := [(.ireturn, 0, 0, 0, 0)]
def cp_16_l : List (Nat × List mm_Row) := [(0, cp_16_r0), (21, cp_16_r1), (22, cp_16_r2)]
def cp_16 : mm_M := (0, ⟨"WiringContainer$BeanTable", "isDependent", "(I)Z"⟩, prog_2_method_18_code, 2, (some .boolean), cp_16_l)
-- 17: WiringContainer$BeanTable.isNormal(I)Z
def cp_17_r0 : List mm_Row := [(.aload_n 0, 0, 0, 0, 0), (.iload_n 1, 0, 0, 0, 0), (.invokevirtual 54, 1, 50, 0, 0), (.ifCond .eq 16, 1, 0, 0, 0), (.aload_n 0, 0, 0, 0, 0), (.getfield 18, 0, 4, 0, 0), (.iload_n 1, 0, 0, 0, 0), (.iaload, 0, 0, 0, 0), (.ifCond .eq 7, 1, 0, 0, 0), (.iconst 1, 0, 0, 1, 0), (.goto 4, 2, 0, 0, 0)]
def cp_17_r1 : List mm_Row := [(.iconst 0, 0, 0, 0, 0), (.ireturn, 0, 0, 0, 0)]
def cp_17_r2 : List mm_Row := [(.ireturn, 0, 0, 0, 0)]
def cp_17_l : List (Nat × List mm_Row) := [(0, cp_17_r0), (21, cp_17_r1), (22, cp_17_r2)]
def cp_17 : mm_M := (0, ⟨"WiringContainer$BeanTable", "isNormal", "(I)Z"⟩, prog_2_method_19_code, 2, (some .boolean), cp_17_l)
-- 18: WiringContainer$BeanTable.isEnabled(I)Z
def cp_18_r0 : List mm_Row := [(.aload_n 0, 0, 0, 0, 0), (.iload_n 1, 0, 0, 0, 0), (.invokevirtual 54, 1, 50, 0, 0), (.ifCond .eq 13, 1, 0, 0, 0), (.aload_n 0, 0, 0, 0, 0), (.getfield 21, 0, 5, 0, 0), (.iload_n 1, 0, 0, 0, 0), (.iaload, 0, 0, 0, 0), (.iconst (-1), 0, 0, (-1), 0), (.if_icmp .ne 5, 2, 0, 0, 0), (.iconst 0, 0, 0, 0, 0), (.ireturn, 0, 0, 0, 0)]
def cp_18_r1 : List mm_Row := [(.iconst 0, 0, 0, 0, 0), (.ireturn, 0, 0, 0, 0)]
def cp_18_r2 : List mm_Row := [(.aload_n 0, 0, 0, 0, 0), (.getfield 24, 0, 6, 0, 0), (.iload_n 1, 0, 0, 0, 0), (.iaload, 0, 0, 0, 0), (.istore_n 2, 0, 0, 0, 0), (.aload_n 0, 0, 0, 0, 0), (.iload_n 2, 0, 0, 0, 0), (.invokevirtual 54, 1, 50, 0, 0), (.ifCond .eq 13, 3, 0, 0, 0), (.aload_n 0, 0, 0, 0, 0), (.getfield 21, 0, 5, 0, 0), (.iload_n 2, 0, 0, 0, 0), (.iaload, 0, 0, 0, 0), (.iconst (-1), 0, 0, (-1), 0), (.if_icmp .eq 7, 4, 0, 0, 0), (.iconst 1, 0, 0, 1, 0), (.goto 4, 5, 0, 0, 0)]
def cp_18_r3 : List mm_Row := [(.iconst 1, 0, 0, 1, 0), (.goto 4, 5, 0, 0, 0)]
def cp_18_r4 : List mm_Row := [(.iconst 0, 0, 0, 0, 0), (.ireturn, 0, 0, 0, 0)]
def cp_18_r5 : List mm_Row := [(.ireturn, 0, 0, 0, 0)]
def cp_18_l : List (Nat × List mm_Row) := [(0, cp_18_r0), (18, cp_18_r1), (20, cp_18_r2), (45, cp_18_r3), (49, cp_18_r4), (50, cp_18_r5)]
def cp_18 : mm_M := (0, ⟨"WiringContainer$BeanTable", "isEnabled", "(I)Z"⟩, prog_2_method_20_code, 3, (some .boolean), cp_18_l)
-- 19: WiringContainer$BeanTable.find(II)I
def cp_19_r0 : List mm_Row := [(.aload_n 0, 0, 0, 0, 0), (.iload_n 1, 0, 0, 0, 0), (.iload_n 2, 0, 0, 0, 0), (.invokevirtual 69, 20, 19, 0, 0), (.istore_n 3, 0, 0, 0, 0), (.iload_n 3, 0, 0, 0, 0), (.ifCond .ne 6, 1, 0, 0, 0), (.bipush (-4), 0, 0, (-4), 0), (.ireturn, 0, 0, 0, 0)]
def cp_19_r1 : List mm_Row := [(.aload_n 0, 0, 0, 0, 0), (.iload_n 3, 0, 0, 0, 0), (.invokevirtual 73, 21, 18, 0, 0), (.istore 4, 0, 0, 0, 0), (.iload 4, 0, 0, 0, 0), (.invokestatic 76, 100, 17, 0, 0), (.iconst 1, 0, 0, 1, 0), (.if_icmp .ne 13, 2, 0, 0, 0), (.iload 4, 0, 0, 0, 0), (.iconst 1, 0, 0, 1, 0), (.isub, 0, 0, 0, 0), (.invokestatic 76, 100, 17, 0, 0), (.goto 5, 3, 0, 0, 0)]
def cp_19_r2 : List mm_Row := [(.bipush (-5), 0, 0, (-5), 0), (.ireturn, 0, 0, 0, 0)]
def cp_19_r3 : List mm_Row := [(.ireturn, 0, 0, 0, 0)]
def cp_19_l : List (Nat × List mm_Row) := [(0, cp_19_r0), (14, cp_19_r1), (40, cp_19_r2), (42, cp_19_r3)]
def cp_19 : mm_M := (0, ⟨"WiringContainer$BeanTable", "find", "(II)I"⟩, prog_2_method_21_code, 5, (some .int), cp_19_l)
-- 20: WiringContainer$BeanTable.candidateSet(II)I
def cp_20_r0 : List mm_Row := [(.iconst 0, 0, 0, 0, 0), (.istore_n 3, 0, 0, 0, 0), (.iconst 0, 0, 0, 0, 0), (.istore 4, 0, 0, 0, 0), (.iload 4, 0, 0, 0, 0), (.aload_n 0, 0, 0, 0, 0), (.getfield 46, 0, 1, 0, 0), (.if_icmp .ge 56, 3, 0, 0, 0), (.aload_n 0, 0, 0, 0, 0), (.iload 4, 0, 0, 0, 0), (.invokevirtual 81, 18, 50, 0, 0), (.ifCond .eq 41, 2, 0, 0, 0), (.aload_n 0, 0, 0, 0, 0), (.iload 4, 0, 0, 0, 0), (.iload_n 2, 0, 0, 0, 0), (.invokevirtual 84, 23, 51, 0, 0), (.ifCond .eq 31, 2, 0, 0, 0), (.aload_n 0, 0, 0, 0, 0), (.getfield 42, 0, 0, 0, 0), (.iload_n 1, 0, 0, 0, 0), (.i2l, 0, 0, 0, 0), (.aload_n 0, 0, 0, 0, 0), (.getfield 9, 0, 2, 0, 0), (.iload 4, 0, 0, 0, 0), (.iaload, 0, 0, 0, 0), (.i2l, 0, 0, 0, 0), (.iconst 0, 0, 0, 0, 0), (.invokevirtual 87, 34, 116, 0, 0), (.ifCond .eq 10, 2, 0, 0, 0), (.iload_n 3, 0, 0, 0, 0), (.iconst 1, 0, 0, 1, 0), (.iload 4, 0, 0, 0, 0), (.ishl, 0, 0, 0, 0), (.ior, 0, 0, 0, 0), (.istore_n 3, 0, 0, 0, 0), (.iinc 4 1, 0, 0, 1, 0), (.goto (-59), 1, 0, 0, 0)]
def cp_20_r1 : List mm_Row := [(.iload 4, 0, 0, 0, 0), (.aload_n 0, 0, 0, 0, 0), (.getfield 46, 0, 1, 0, 0), (.if_icmp .ge 56, 3, 0, 0, 0), (.aload_n 0, 0, 0, 0, 0), (.iload 4, 0, 0, 0, 0), (.invokevirtual 81, 18, 50, 0, 0), (.ifCond .eq 41, 2, 0, 0, 0), (.aload_n 0, 0, 0, 0, 0), (.iload 4, 0, 0, 0, 0), (.iload_n 2, 0, 0, 0, 0), (.invokevirtual 84, 23, 51, 0, 0), (.ifCond .eq 31, 2, 0, 0, 0), (.aload_n 0, 0, 0, 0, 0), (.getfield 42, 0, 0, 0, 0), (.iload_n 1, 0, 0, 0, 0), (.i2l, 0, 0, 0, 0), (.aload_n 0, 0, 0, 0, 0), (.getfield 9, 0, 2, 0, 0), (.iload 4, 0, 0, 0, 0), (.iaload, 0, 0, 0, 0), (.i2l, 0, 0, 0, 0), (.iconst 0, 0, 0, 0, 0), (.invokevirtual 87, 34, 116, 0, 0), (.ifCond .eq 10, 2, 0, 0, 0), (.iload_n 3, 0, 0, 0, 0), (.iconst 1, 0, 0, 1, 0), (.iload 4, 0, 0, 0, 0), (.ishl, 0, 0, 0, 0), (.ior, 0, 0, 0, 0), (.istore_n 3, 0, 0, 0, 0), (.iinc 4 1, 0, 0, 1, 0), (.goto (-59), 1, 0, 0, 0)]
def cp_20_r2 : List mm_Row := [(.iinc 4 1, 0, 0, 1, 0), (.goto (-59), 1, 0, 0, 0)]
def cp_20_r3 : List mm_Row := [(.iload_n 3, 0, 0, 0, 0), (.ireturn, 0, 0, 0, 0)]
def cp_20_l : List (Nat × List mm_Row) := [(0, cp_20_r0), (5, cp_20_r1), (61, cp_20_r2), (67, cp_20_r3)]
def cp_20 : mm_M := (0, ⟨"WiringContainer$BeanTable", "candidateSet", "(II)I"⟩, prog_2_method_22_code, 5, (some .int), cp_20_l)
-- 21: WiringContainer$BeanTable.narrow(I)I
def cp_21_r0 : List mm_Row := [(.iconst 0, 0, 0, 0, 0), (.istore_n 2, 0, 0, 0, 0), (.iconst 0, 0, 0, 0, 0), (.istore_n 3, 0, 0, 0, 0), (.iconst 0, 0, 0, 0, 0), (.istore 4, 0, 0, 0, 0), (.iload 4, 0, 0, 0, 0), (.aload_n 0, 0, 0, 0, 0), (.getfield 46, 0, 1, 0, 0), (.if_icmp .ge 51, 4, 0, 0, 0), (.iload_n 1, 0, 0, 0, 0), (.iload 4, 0, 0, 0, 0), (.ishr, 0, 0, 0, 0), (.iconst 1, 0, 0, 1, 0), (.iand, 0, 0, 0, 0), (.iconst 1, 0, 0, 1, 0), (.if_icmp .ne 35, 3, 0, 0, 0), (.aload_n 0, 0, 0, 0, 0), (.iload 4, 0, 0, 0, 0), (.invokevirtual 93, 22, 18, 0, 0), (.istore 5, 0, 0, 0, 0), (.iload 5, 0, 0, 0, 0), (.iload_n 2, 0, 0, 0, 0), (.if_icmp .le 8, 2, 0, 0, 0), (.iload 5, 0, 0, 0, 0), (.istore_n 2, 0, 0, 0, 0), (.iconst 0, 0, 0, 0, 0), (.istore_n 3, 0, 0, 0, 0), (.iload 5, 0, 0, 0, 0), (.iload_n 2, 0, 0, 0, 0), (.if_icmp .ne 10, 3, 0, 0, 0), (.iload_n 3, 0, 0, 0, 0), (.iconst 1, 0, 0, 1, 0), (.iload 4, 0, 0, 0, 0), (.ishl, 0, 0, 0, 0), (.ior, 0, 0, 0, 0), (.istore_n 3, 0, 0, 0, 0), (.iinc 4 1, 0, 0, 1, 0), (.goto (-54), 1, 0, 0, 0)]
def cp_21_r1 : List mm_Row := [(.iload 4, 0, 0, 0, 0), (.aload_n 0, 0, 0, 0, 0), (.getfield 46, 0, 1, 0, 0), (.if_icmp .ge 51, 4, 0, 0, 0), (.iload_n 1, 0, 0, 0, 0), (.iload 4, 0, 0, 0, 0), (.ishr, 0, 0, 0, 0), (.iconst 1, 0, 0, 1, 0), (.iand, 0, 0, 0, 0), (.iconst 1, 0, 0, 1, 0), (.if_icmp .ne 35, 3, 0, 0, 0), (.aload_n 0, 0, 0, 0, 0), (.iload 4, 0, 0, 0, 0), (.invokevirtual 93, 22, 18, 0, 0), (.istore 5, 0, 0, 0, 0), (.iload 5, 0, 0, 0, 0), (.iload_n 2, 0, 0, 0, 0), (.if_icmp .le 8, 2, 0, 0, 0), (.iload 5, 0, 0, 0, 0), (.istore_n 2, 0, 0, 0, 0), (.iconst 0, 0, 0, 0, 0), (.istore_n 3, 0, 0, 0, 0), (.iload 5, 0, 0, 0, 0), (.iload_n 2, 0, 0, 0, 0), (.if_icmp .ne 10, 3, 0, 0, 0), (.iload_n 3, 0, 0, 0, 0), (.iconst 1, 0, 0, 1, 0), (.iload 4, 0, 0, 0, 0), (.ishl, 0, 0, 0, 0), (.ior, 0, 0, 0, 0), (.istore_n 3, 0, 0, 0, 0), (.iinc 4 1, 0, 0, 1, 0), (.goto (-54), 1, 0, 0, 0)]
def cp_21_r2 : List mm_Row := [(.iload 5, 0, 0, 0, 0), (.iload_n 2, 0, 0, 0, 0), (.if_icmp .ne 10, 3, 0, 0, 0), (.iload_n 3, 0, 0, 0, 0), (.iconst 1, 0, 0, 1, 0), (.iload 4, 0, 0, 0, 0), (.ishl, 0, 0, 0, 0), (.ior, 0, 0, 0, 0), (.istore_n 3, 0, 0, 0, 0), (.iinc 4 1, 0, 0, 1, 0), (.goto (-54), 1, 0, 0, 0)]
def cp_21_r3 : List mm_Row := [(.iinc 4 1, 0, 0, 1, 0), (.goto (-54), 1, 0, 0, 0)]
def cp_21_r4 : List mm_Row := [(.iload_n 3, 0, 0, 0, 0), (.ireturn, 0, 0, 0, 0)]
def cp_21_l : List (Nat × List mm_Row) := [(0, cp_21_r0), (7, cp_21_r1), (45, cp_21_r2), (58, cp_21_r3), (64, cp_21_r4)]
def cp_21 : mm_M := (0, ⟨"WiringContainer$BeanTable", "narrow", "(I)I"⟩, prog_2_method_23_code, 6, (some .int), cp_21_l)
-- 22: WiringContainer$BeanTable.rankOf(I)I
def cp_22_r0 : List mm_Row := [(.aload_n 0, 0, 0, 0, 0), (.getfield 24, 0, 6, 0, 0), (.iload_n 1, 0, 0, 0, 0), (.iaload, 0, 0, 0, 0), (.istore_n 2, 0, 0, 0, 0), (.aload_n 0, 0, 0, 0, 0), (.getfield 21, 0, 5, 0, 0), (.iload_n 1, 0, 0, 0, 0), (.iaload, 0, 0, 0, 0), (.ifCond .gt 11, 1, 0, 0, 0), (.aload_n 0, 0, 0, 0, 0), (.iload_n 2, 0, 0, 0, 0), (.invokevirtual 54, 1, 50, 0, 0), (.ifCond .ne 14, 2, 0, 0, 0), (.aload_n 0, 0, 0, 0, 0), (.getfield 21, 0, 5, 0, 0), (.iload_n 1, 0, 0, 0, 0), (.iaload, 0, 0, 0, 0), (.iconst 0, 0, 0, 0, 0), (.invokestatic 96, 1000, 18, 0, 0), (.ireturn, 0, 0, 0, 0)]
def cp_22_r1 : List mm_Row := [(.aload_n 0, 0, 0, 0, 0), (.getfield 21, 0, 5, 0, 0), (.iload_n 1, 0, 0, 0, 0), (.iaload, 0, 0, 0, 0), (.iconst 0, 0, 0, 0, 0), (.invokestatic 96, 1000, 18, 0, 0), (.ireturn, 0, 0, 0, 0)]
def cp_22_r2 : List mm_Row := [(.aload_n 0, 0, 0, 0, 0), (.getfield 21, 0, 5, 0, 0), (.iload_n 2, 0, 0, 0, 0), (.iaload, 0, 0, 0, 0), (.iconst 0, 0, 0, 0, 0), (.invokestatic 96, 1000, 18, 0, 0), (.ireturn, 0, 0, 0, 0)]
def cp_22_l : List (Nat × List mm_Row) := [(0, cp_22_r0), (24, cp_22_r1), (35, cp_22_r2)]
def cp_22 : mm_M := (0, ⟨"WiringContainer$BeanTable", "rankOf", "(I)I"⟩, prog_2_method_24_code, 3, (some .int), cp_22_l)
-- 23: WiringContainer$BeanTable.carries(II)Z
def cp_23_r0 : List mm_Row := [(.iload_n 2, 0, 0, 0, 0), (.iconst (-1), 0, 0, (-1), 0), (.if_icmp .ne 5, 1, 0, 0, 0), (.iconst 1, 0, 0, 1, 0), (.ireturn, 0, 0, 0, 0)]
def cp_23_r1 : List mm_Row := [(.iload_n 2, 0, 0, 0, 0), (.ifCond .ne 8, 2, 0, 0, 0), (.bipush 8, 0, 0, 8, 0), (.goto 4, 3, 0, 0, 0)]
def cp_23_r2 : List mm_Row := [(.iload_n 2, 0, 0, 0, 0), (.istore_n 3, 0, 0, 0, 0), (.iconst 0, 0, 0, 0, 0), (.istore 4, 0, 0, 0, 0), (.iload 4, 0, 0, 0, 0), (.iconst 5, 0, 0, 5, 0), (.if_icmp .ge 67, 9, 0, 0, 0), (.iload_n 3, 0, 0, 0, 0), (.iload 4, 0, 0, 0, 0), (.invokestatic 101, 91, 18, 0, 0), (.istore 5, 0, 0, 0, 0), (.aload_n 0, 0, 0, 0, 0), (.getfield 15, 0, 3, 0, 0), (.iload_n 1, 0, 0, 0, 0), (.iaload, 0, 0, 0, 0), (.iload 4, 0, 0, 0, 0), (.invokestatic 101, 91, 18, 0, 0), (.istore 6, 0, 0, 0, 0), (.iload 6, 0, 0, 0, 0), (.iload 5, 0, 0, 0, 0), (.if_icmp .eq 14, 5, 0, 0, 0), (.iload 6, 0, 0, 0, 0), (.ifCond .eq 13, 6, 0, 0, 0), (.iload 4, 0, 0, 0, 0), (.iconst 4, 0, 0, 4, 0), (.if_icmp .ne 7, 6, 0, 0, 0), (.iconst 1, 0, 0, 1, 0), (.goto 4, 7, 0, 0, 0)]
def cp_23_r3 : List mm_Row := [(.istore_n 3, 0, 0, 0, 0), (.iconst 0, 0, 0, 0, 0), (.istore 4, 0, 0, 0, 0), (.iload 4, 0, 0, 0, 0), (.iconst 5, 0, 0, 5, 0), (.if_icmp .ge 67, 9, 0, 0, 0), (.iload_n 3, 0, 0, 0, 0), (.iload 4, 0, 0, 0, 0), (.invokestatic 101, 91, 18, 0, 0), (.istore 5, 0, 0, 0, 0), (.aload_n 0, 0, 0, 0, 0), (.getfield 15, 0, 3, 0, 0), (.iload_n 1, 0, 0, 0, 0), (.iaload, 0, 0, 0, 0), (.iload 4, 0, 0, 0, 0), (.invokestatic 101, 91, 18, 0, 0), (.istore 6, 0, 0, 0, 0), (.iload 6, 0, 0, 0, 0), (.iload 5, 0, 0, 0, 0), (.if_icmp .eq 14, 5, 0, 0, 0), (.iload 6, 0, 0, 0, 0), (.ifCond .eq 13, 6, 0, 0, 0), (.iload 4, 0, 0, 0, 0), (.iconst 4, 0, 0, 4, 0), (.if_icmp .ne 7, 6, 0, 0, 0), (.iconst 1, 0, 0, 1, 0), (.goto 4, 7, 0, 0, 0)]
def cp_23_r4 : List mm_Row := [(.iload 4, 0, 0, 0, 0), (.iconst 5, 0, 0, 5, 0), (.if_icmp .ge 67, 9, 0, 0, 0), (.iload_n 3, 0, 0, 0, 0), (.iload 4, 0, 0, 0, 0), (.invokestatic 101, 91, 18, 0, 0), (.istore 5, 0, 0, 0, 0), (.aload_n 0, 0, 0, 0, 0), (.getfield 15, 0, 3, 0, 0), (.iload_n 1, 0, 0, 0, 0), (.iaload, 0, 0, 0, 0), (.iload 4, 0, 0, 0, 0), (.invokestatic 101, 91, 18, 0, 0), (.istore 6, 0, 0, 0, 0), (.iload 6, 0, 0, 0, 0), (.iload 5, 0, 0, 0, 0), (.if_icmp .eq 14, 5, 0, 0, 0), (.iload 6, 0, 0, 0, 0), (.ifCond .eq 13, 6, 0, 0, 0), (.iload 4, 0, 0, 0, 0), (.iconst 4, 0, 0, 4, 0), (.if_icmp .ne 7, 6, 0, 0, 0), (.iconst 1, 0, 0, 1, 0), (.goto 4, 7, 0, 0, 0)]
def cp_23_r5 : List mm_Row := [(.iconst 1, 0, 0, 1, 0), (.goto 4, 7, 0, 0, 0)]
def cp_23_r6 : List mm_Row := [(.iconst 0, 0, 0, 0, 0), (.istore 7, 0, 0, 0, 0), (.iload 5, 0, 0, 0, 0), (.ifCond .eq 10, 8, 0, 0, 0), (.iload 7, 0, 0, 0, 0), (.ifCond .ne 5, 8, 0, 0, 0), (.iconst 0, 0, 0, 0, 0), (.ireturn, 0, 0, 0, 0)]
def cp_23_r7 : List mm_Row := [(.istore 7, 0, 0, 0, 0), (.iload 5, 0, 0, 0, 0), (.ifCond .eq 10, 8, 0, 0, 0), (.iload 7, 0, 0, 0, 0), (.ifCond .ne 5, 8, 0, 0, 0), (.iconst 0, 0, 0, 0, 0), (.ireturn, 0, 0, 0, 0)]
def cp_23_r8 : List mm_Row := [(.iinc 4 1, 0, 0, 1, 0), (.goto (-67), 4, 0, 0, 0)]
def cp_23_r9 : List mm_Row := [(.iconst 1, 0, 0, 1, 0), (.ireturn, 0, 0, 0, 0)]
def cp_23_l : List (Nat × List mm_Row) := [(0, cp_23_r0), (7, cp_23_r1), (16, cp_23_r2), (17, cp_23_r3), (21, cp_23_r4), (66, cp_23_r5), (70, cp_23_r6), (71, cp_23_r7), (85, cp_23_r8), (91, cp_23_r9)]
def cp_23 : mm_M := (0, ⟨"WiringContainer$BeanTable", "carries", "(II)Z"⟩, prog_2_method_25_code, 8, (some .boolean), cp_23_l)
-- 24: WiringContainer$ClassTable.isFull()Z
def cp_24_r0 : List mm_Row := [(.aload_n 0, 0, 0, 0, 0), (.getfield 35, 1, 0, 0, 0), (.bipush 13, 0, 0, 13, 0), (.if_icmp .lt 7, 1, 0, 0, 0), (.iconst 1, 0, 0, 1, 0), (.goto 4, 2, 0, 0, 0)]
def cp_24_r1 : List mm_Row := [(.iconst 0, 0, 0, 0, 0), (.ireturn, 0, 0, 0, 0)]
def cp_24_r2 : List mm_Row := [(.ireturn, 0, 0, 0, 0)]
def cp_24_l : List (Nat × List mm_Row) := [(0, cp_24_r0), (13, cp_24_r1), (14, cp_24_r2)]
def cp_24 : mm_M := (1, ⟨"WiringContainer$ClassTable", "isFull", "()Z"⟩, prog_3_method_2_code, 1, (some .boolean), cp_24_l)
-- 25: WiringContainer$ClassTable.isClass(I)Z
def cp_25_r0 : List mm_Row := [(.iload_n 1, 0, 0, 0, 0), (.iconst 1, 0, 0, 1, 0), (.if_icmp .lt 15, 1, 0, 0, 0), (.iload_n 1, 0, 0, 0, 0), (.aload_n 0, 0, 0, 0, 0), (.getfield 35, 1, 0, 0, 0), (.if_icmp .gt 7, 1, 0, 0, 0), (.iconst 1, 0, 0, 1, 0), (.goto 4, 2, 0, 0, 0)]
def cp_25_r1 : List mm_Row := [(.iconst 0, 0, 0, 0, 0), (.ireturn, 0, 0, 0, 0)]
def cp_25_r2 : List mm_Row := [(.ireturn, 0, 0, 0, 0)]
def cp_25_l : List (Nat × List mm_Row) := [(0, cp_25_r0), (17, cp_25_r1), (18, cp_25_r2)]
def cp_25 : mm_M := (1, ⟨"WiringContainer$ClassTable", "isClass", "(I)Z"⟩, prog_3_method_3_code, 2, (some .boolean), cp_25_l)
-- 26: WiringContainer$ClassTable.isHeadClosed(I)Z
def cp_26_r0 : List mm_Row := [(.aload_n 0, 0, 0, 0, 0), (.getfield 15, 1, 2, 0, 0), (.iload_n 1, 0, 0, 0, 0), (.bipush 31, 0, 0, 31, 0), (.iand, 0, 0, 0, 0), (.baload, 0, 0, 0, 0), (.ireturn, 0, 0, 0, 0)]
def cp_26_l : List (Nat × List mm_Row) := [(0, cp_26_r0)]
def cp_26 : mm_M := (1, ⟨"WiringContainer$ClassTable", "isHeadClosed", "(I)Z"⟩, prog_3_method_4_code, 2, (some .boolean), cp_26_l)
-- 27: WiringContainer$ClassTable.isParentCode(IZ)Z
def cp_27_r0 : List mm_Row := [(.iload_n 1, 0, 0, 0, 0), (.bipush 31, 0, 0, 31, 0), (.iand, 0, 0, 0, 0), (.istore_n 3, 0, 0, 0, 0), (.aload_n 0, 0, 0, 0, 0), (.iload_n 1, 0, 0, 0, 0), (.iconst 3, 0, 0, 3, 0), (.iconst 0, 0, 0, 0, 0), (.iload_n 2, 0, 0, 0, 0), (.invokevirtual 39, 38, 117, 0, 0), (.ifCond .eq 21, 1, 0, 0, 0), (.iload_n 3, 0, 0, 0, 0), (.iconst 1, 0, 0, 1, 0), (.if_icmp .eq 16, 1, 0, 0, 0), (.aload_n 0, 0, 0, 0, 0), (.getfield 15, 1, 2, 0, 0), (.iload_n 3, 0, 0, 0, 0), (.baload, 0, 0, 0, 0), (.ifCond .ne 7, 1, 0, 0, 0), (.iconst 1, 0, 0, 1, 0), (.goto 4, 2, 0, 0, 0)]
def cp_27_r1 : List mm_Row := [(.iconst 0, 0, 0, 0, 0), (.ireturn, 0, 0, 0, 0)]
def cp_27_r2 : List mm_Row := [(.ireturn, 0, 0, 0, 0)]
def cp_27_l : List (Nat × List mm_Row) := [(0, cp_27_r0), (34, cp_27_r1), (35, cp_27_r2)]
def cp_27 : mm_M := (1, ⟨"WiringContainer$ClassTable", "isParentCode", "(IZ)Z"⟩, prog_3_method_5_code, 4, (some .boolean), cp_27_l)
-- 28: WiringContainer$ClassTable.isProductCode(I)Z
def cp_28_r0 : List mm_Row := [(.aload_n 0, 0, 0, 0, 0), (.iload_n 1, 0, 0, 0, 0), (.iconst 4, 0, 0, 4, 0), (.iconst 0, 0, 0, 0, 0), (.iconst 1, 0, 0, 1, 0), (.invokevirtual 39, 38, 117, 0, 0), (.ireturn, 0, 0, 0, 0)]
def cp_28_l : List (Nat × List mm_Row) := [(0, cp_28_r0)]
def cp_28 : mm_M := (1, ⟨"WiringContainer$ClassTable", "isProductCode", "(I)Z"⟩, prog_3_method_6_code, 2, (some .boolean), cp_28_l)
-- 29: WiringContainer$ClassTable.isRequiredCode(I)Z
def cp_29_r0 : List mm_Row := [(.aload_n 0, 0, 0, 0, 0), (.iload_n 1, 0, 0, 0, 0), (.bipush 6, 0, 0, 6, 0), (.iconst 1, 0, 0, 1, 0), (.iconst 0, 0, 0, 0, 0), (.invokevirtual 39, 38, 117, 0, 0), (.ireturn, 0, 0, 0, 0)]
def cp_29_l : List (Nat × List mm_Row) := [(0, cp_29_r0)]
def cp_29 : mm_M := (1, ⟨"WiringContainer$ClassTable", "isRequiredCode", "(I)Z"⟩, prog_3_method_7_code, 2, (some .boolean), cp_29_l)
-- 30: WiringContainer$ClassTable.levelBelow(II)I
def cp_30_r0 : List mm_Row := [(.iload_n 1, 0, 0, 0, 0), (.ifCond .ne 7, 1, 0, 0, 0), (.iconst 0, 0, 0, 0, 0), (.goto 14, 2, 0, 0, 0)]
def cp_30_r1 : List mm_Row := [(.aload_n 0, 0, 0, 0, 0), (.getfield 18, 1, 3, 0, 0), (.iload_n 1, 0, 0, 0, 0), (.bipush 31, 0, 0, 31, 0), (.iand, 0, 0, 0, 0), (.iaload, 0, 0, 0, 0), (.iconst 1, 0, 0, 1, 0), (.iadd, 0, 0, 0, 0), (.istore_n 3, 0, 0, 0, 0), (.iload_n 2, 0, 0, 0, 0), (.ifCond .ne 7, 3, 0, 0, 0), (.iconst 0, 0, 0, 0, 0), (.goto 14, 4, 0, 0, 0)]
def cp_30_r2 : List mm_Row := [(.istore_n 3, 0, 0, 0, 0), (.iload_n 2, 0, 0, 0, 0), (.ifCond .ne 7, 3, 0, 0, 0), (.iconst 0, 0, 0, 0, 0), (.goto 14, 4, 0, 0, 0)]
def cp_30_r3 : List mm_Row := [(.aload_n 0, 0, 0, 0, 0), (.getfield 18, 1, 3, 0, 0), (.iload_n 2, 0, 0, 0, 0), (.bipush 31, 0, 0, 31, 0), (.iand, 0, 0, 0, 0), (.iaload, 0, 0, 0, 0), (.iconst 1, 0, 0, 1, 0), (.iadd, 0, 0, 0, 0), (.istore 4, 0, 0, 0, 0), (.iload_n 3, 0, 0, 0, 0), (.iload 4, 0, 0, 0, 0), (.invokestatic 43, 1000, 18, 0, 0), (.ireturn, 0, 0, 0, 0)]
def cp_30_r4 : List mm_Row := [(.istore 4, 0, 0, 0, 0), (.iload_n 3, 0, 0, 0, 0), (.iload 4, 0, 0, 0, 0), (.invokestatic 43, 1000, 18, 0, 0), (.ireturn, 0, 0, 0, 0)]
def cp_30_l : List (Nat × List mm_Row) := [(0, cp_30_r0), (8, cp_30_r1), (19, cp_30_r2), (28, cp_30_r3), (39, cp_30_r4)]
def cp_30 : mm_M := (1, ⟨"WiringContainer$ClassTable", "levelBelow", "(II)I"⟩, prog_3_method_8_code, 5, (some .int), cp_30_l)
-- 31: WiringContainer$ClassTable.add(IIZZ)I
def cp_31_r0 : List mm_Row := [(.aload_n 0, 0, 0, 0, 0), (.invokevirtual 49, 24, 113, 0, 0), (.ifCond .eq 6, 1, 0, 0, 0), (.bipush (-2), 0, 0, (-2), 0), (.ireturn, 0, 0, 0, 0)]
def cp_31_r1 : List mm_Row := [(.aload_n 0, 0, 0, 0, 0), (.dup, 0, 0, 0, 0), (.getfield 35, 1, 0, 0, 0), (.iconst 1, 0, 0, 1, 0), (.iadd, 0, 0, 0, 0), (.putfield 35, 1, 0, 0, 0), (.aload_n 0, 0, 0, 0, 0), (.getfield 9, 1, 1, 0, 0), (.aload_n 0, 0, 0, 0, 0), (.getfield 35, 1, 0, 0, 0), (.iload_n 3, 0, 0, 0, 0), (.bastore, 0, 0, 0, 0), (.aload_n 0, 0, 0, 0, 0), (.getfield 15, 1, 2, 0, 0), (.aload_n 0, 0, 0, 0, 0), (.getfield 35, 1, 0, 0, 0), (.iload 4, 0, 0, 0, 0), (.bastore, 0, 0, 0, 0), (.aload_n 0, 0, 0, 0, 0), (.getfield 18, 1, 3, 0, 0), (.aload_n 0, 0, 0, 0, 0), (.getfield 35, 1, 0, 0, 0), (.aload_n 0, 0, 0, 0, 0), (.iload_n 1, 0, 0, 0, 0), (.iload_n 2, 0, 0, 0, 0), (.invokevirtual 53, 30, 83, 0, 0), (.iastore, 0, 0, 0, 0), (.aload_n 0, 0, 0, 0, 0), (.getfield 22, 1, 4, 0, 0), (.aload_n 0, 0, 0, 0, 0), (.getfield 35, 1, 0, 0, 0), (.iload_n 1, 0, 0, 0, 0), (.iastore, 0, 0, 0, 0), (.aload_n 0, 0, 0, 0, 0), (.getfield 25, 1, 5, 0, 0), (.aload_n 0, 0, 0, 0, 0), (.getfield 35, 1, 0, 0, 0), (.iload_n 2, 0, 0, 0, 0), (.iastore, 0, 0, 0, 0), (.aload_n 0, 0, 0, 0, 0), (.getfield 28, 1, 6, 0, 0), (.aload_n 0, 0, 0, 0, 0), (.getfield 35, 1, 0, 0, 0), (.iconst 1, 0, 0, 1, 0), (.aload_n 0, 0, 0, 0, 0), (.getfield 35, 1, 0, 0, 0), (.ishl, 0, 0, 0, 0), (.iconst 2, 0, 0, 2, 0), (.ior, 0, 0, 0, 0), (.aload_n 0, 0, 0, 0, 0), (.getfield 28, 1, 6, 0, 0), (.iload_n 1, 0, 0, 0, 0), (.bipush 31, 0, 0, 31, 0), (.iand, 0, 0, 0, 0), (.iaload, 0, 0, 0, 0), (.ior, 0, 0, 0, 0), (.aload_n 0, 0, 0, 0, 0), (.getfield 28, 1, 6, 0, 0), (.iload_n 2, 0, 0, 0, 0), (.bipush 31, 0, 0, 31, 0), (.iand, 0, 0, 0, 0), (.iaload, 0, 0, 0, 0), (.ior, 0, 0, 0, 0), (.iastore, 0, 0, 0, 0), (.aload_n 0, 0, 0, 0, 0), (.getfield 35, 1, 0, 0, 0), (.ireturn, 0, 0, 0, 0)]
def cp_31_l : List (Nat × List mm_Row) := [(0, cp_31_r0), (10, cp_31_r1)]
def cp_31 : mm_M := (1, ⟨"WiringContainer$ClassTable", "add", "(IIZZ)I"⟩, prog_3_method_9_code, 5, (some .int), cp_31_l)
-- 32: WiringContainer$ClassTable.ownType(I)I
def cp_32_r0 : List mm_Row := [(.aload_n 0, 0, 0, 0, 0), (.getfield 9, 1, 1, 0, 0), (.iload_n 1, 0, 0, 0, 0), (.bipush 31, 0, 0, 31, 0), (.iand, 0, 0, 0, 0), (.baload, 0, 0, 0, 0), (.ifCond .eq 11, 1, 0, 0, 0), (.iload_n 1, 0, 0, 0, 0), (.sipush 992, 0, 0, 992, 0), (.iadd, 0, 0, 0, 0), (.goto 4, 2, 0, 0, 0)]
def cp_32_r1 : List mm_Row := [(.iload_n 1, 0, 0, 0, 0), (.ireturn, 0, 0, 0, 0)]
def cp_32_r2 : List mm_Row := [(.ireturn, 0, 0, 0, 0)]
def cp_32_l : List (Nat × List mm_Row) := [(0, cp_32_r0), (20, cp_32_r1), (21, cp_32_r2)]
def cp_32 : mm_M := (1, ⟨"WiringContainer$ClassTable", "ownType", "(I)I"⟩, prog_3_method_10_code, 2, (some .int), cp_32_l)
-- 33: WiringContainer$ClassTable.countSupertypes(J)I
def cp_33_r0 : List mm_Row := [(.aload_n 0, 0, 0, 0, 0), (.iconst 0, 0, 0, 0, 0), (.putfield 56, 1, 8, 0, 0), (.aload_n 0, 0, 0, 0, 0), (.lload_n 1, 0, 0, 0, 0), (.invokevirtual 59, 37, 66, 0, 0), (.aload_n 0, 0, 0, 0, 0), (.lconst 1, 0, 0, 0, 1), (.invokevirtual 59, 37, 66, 0, 0), (.iconst 0, 0, 0, 0, 0), (.istore_n 3, 0, 0, 0, 0), (.iload_n 3, 0, 0, 0, 0), (.aload_n 0, 0, 0, 0, 0), (.getfield 56, 1, 8, 0, 0), (.if_icmp .ge 86, 4, 0, 0, 0), (.iload_n 3, 0, 0, 0, 0), (.bipush 16, 0, 0, 16, 0), (.if_icmp .ge 80, 4, 0, 0, 0), (.aload_n 0, 0, 0, 0, 0), (.getfield 31, 1, 7, 0, 0), (.iload_n 3, 0, 0, 0, 0), (.laload, 0, 0, 0, 0), (.lstore 4, 0, 0, 0, 0), (.lload 4, 0, 0, 0, 0), (.ldc2_w 63, 0, 0, 0, 31), (.land, 0, 0, 0, 0), (.l2i, 0, 0, 0, 0), (.istore 6, 0, 0, 0, 0), (.aload_n 0, 0, 0, 0, 0), (.getfield 22, 1, 4, 0, 0), (.iload 6, 0, 0, 0, 0), (.iaload, 0, 0, 0, 0), (.ifCond .eq 20, 2, 0, 0, 0), (.aload_n 0, 0, 0, 0, 0), (.aload_n 0, 0, 0, 0, 0), (.aload_n 0, 0, 0, 0, 0), (.getfield 22, 1, 4, 0, 0), (.iload 6, 0, 0, 0, 0), (.iaload, 0, 0, 0, 0), (.lload 4, 0, 0, 0, 0), (.invokevirtual 65, 36, 99, 0, 0), (.invokevirtual 59, 37, 66, 0, 0), (.aload_n 0, 0, 0, 0, 0), (.getfield 25, 1, 5, 0, 0), (.iload 6, 0, 0, 0, 0), (.iaload, 0, 0, 0, 0), (.ifCond .eq 20, 3, 0, 0, 0), (.aload_n 0, 0, 0, 0, 0), (.aload_n 0, 0, 0, 0, 0), (.aload_n 0, 0, 0, 0, 0), (.getfield 25, 1, 5, 0, 0), (.iload 6, 0, 0, 0, 0), (.iaload, 0, 0, 0, 0), (.lload 4, 0, 0, 0, 0), (.invokevirtual 65, 36, 99, 0, 0), (.invokevirtual 59, 37, 66, 0, 0), (.iinc 3 1, 0, 0, 1, 0), (.goto (-88), 1, 0, 0, 0)]
def cp_33_r1 : List mm_Row := [(.iload_n 3, 0, 0, 0, 0), (.aload_n 0, 0, 0, 0, 0), (.getfield 56, 1, 8, 0, 0), (.if_icmp .ge 86, 4, 0, 0, 0), (.iload_n 3, 0, 0, 0, 0), (.bipush 16, 0, 0, 16, 0), (.if_icmp .ge 80, 4, 0, 0, 0), (.aload_n 0, 0, 0, 0, 0), (.getfield 31, 1, 7, 0, 0), (.iload_n 3, 0, 0, 0, 0), (.laload, 0, 0, 0, 0), (.lstore 4, 0, 0, 0, 0), (.lload 4, 0, 0, 0, 0), (.ldc2_w 63, 0, 0, 0, 31), (.land, 0, 0, 0, 0), (.l2i, 0, 0, 0, 0), (.istore 6, 0, 0, 0, 0), (.aload_n 0, 0, 0, 0, 0), (.getfield 22, 1, 4, 0, 0), (.iload 6, 0, 0, 0, 0), (.iaload, 0, 0, 0, 0), (.ifCond .eq 20, 2, 0, 0, 0), (.aload_n 0, 0, 0, 0, 0), (.aload_n 0, 0, 0, 0, 0), (.aload_n 0, 0, 0, 0, 0), (.getfield 22, 1, 4, 0, 0), (.iload 6, 0, 0, 0, 0), (.iaload, 0, 0, 0, 0), (.lload 4, 0, 0, 0, 0), (.invokevirtual 65, 36, 99, 0, 0), (.invokevirtual 59, 37, 66, 0, 0), (.aload_n 0, 0, 0, 0, 0), (.getfield 25, 1, 5, 0, 0), (.iload 6, 0, 0, 0, 0), (.iaload, 0, 0, 0, 0), (.ifCond .eq 20, 3, 0, 0, 0), (.aload_n 0, 0, 0, 0, 0), (.aload_n 0, 0, 0, 0, 0), (.aload_n 0, 0, 0, 0, 0), (.getfield 25, 1, 5, 0, 0), (.iload 6, 0, 0, 0, 0), (.iaload, 0, 0, 0, 0), (.lload 4, 0, 0, 0, 0), (.invokevirtual 65, 36, 99, 0, 0), (.invokevirtual 59, 37, 66, 0, 0), (.iinc 3 1, 0, 0, 1, 0), (.goto (-88), 1, 0, 0, 0)]
def cp_33_r2 : List mm_Row := [(.aload_n 0, 0, 0, 0, 0), (.getfield 25, 1, 5, 0, 0), (.iload 6, 0, 0, 0, 0), (.iaload, 0, 0, 0, 0), (.ifCond .eq 20, 3, 0, 0, 0), (.aload_n 0, 0, 0, 0, 0), (.aload_n 0, 0, 0, 0, 0), (.aload_n 0, 0, 0, 0, 0), (.getfield 25, 1, 5, 0, 0), (.iload 6, 0, 0, 0, 0), (.iaload, 0, 0, 0, 0), (.lload 4, 0, 0, 0, 0), (.invokevirtual 65, 36, 99, 0, 0), (.invokevirtual 59, 37, 66, 0, 0), (.iinc 3 1, 0, 0, 1, 0), (.goto (-88), 1, 0, 0, 0)]
def cp_33_r3 : List mm_Row := [(.iinc 3 1, 0, 0, 1, 0), (.goto (-88), 1, 0, 0, 0)]
def cp_33_r4 : List mm_Row := [(.aload_n 0, 0, 0, 0, 0), (.getfield 56, 1, 8, 0, 0), (.ireturn, 0, 0, 0, 0)]
def cp_33_l : List (Nat × List mm_Row) := [(0, cp_33_r0), (17, cp_33_r1), (75, cp_33_r2), (102, cp_33_r3), (108, cp_33_r4)]
def cp_33 : mm_M := (1, ⟨"WiringContainer$ClassTable", "countSupertypes", "(J)I"⟩, prog_3_method_11_code, 7, (some .int), cp_33_l)
-- 34: WiringContainer$ClassTable.isMetBySome(JJI)Z
def cp_34_r0 : List mm_Row := [(.lload_n 3, 0, 0, 0, 0), (.ldc2_w 63, 0, 0, 0, 31), (.land, 0, 0, 0, 0), (.l2i, 0, 0, 0, 0), (.istore 6, 0, 0, 0, 0), (.lload_n 1, 0, 0, 0, 0), (.ldc2_w 63, 0, 0, 0, 31), (.land, 0, 0, 0, 0), (.l2i, 0, 0, 0, 0), (.istore 7, 0, 0, 0, 0), (.iload 5, 0, 0, 0, 0), (.bipush 40, 0, 0, 40, 0), (.if_icmp .gt 18, 1, 0, 0, 0), (.aload_n 0, 0, 0, 0, 0), (.getfield 28, 1, 6, 0, 0), (.iload 6, 0, 0, 0, 0), (.iaload, 0, 0, 0, 0), (.iload 7, 0, 0, 0, 0), (.ishr, 0, 0, 0, 0), (.iconst 1, 0, 0, 1, 0), (.iand, 0, 0, 0, 0), (.ifCond .ne 5, 2, 0, 0, 0), (.iconst 0, 0, 0, 0, 0), (.ireturn, 0, 0, 0, 0)]
def cp_34_r1 : List mm_Row := [(.iconst 0, 0, 0, 0, 0), (.ireturn, 0, 0, 0, 0)]
def cp_34_r2 : List mm_Row := [(.iload 7, 0, 0, 0, 0), (.iconst 1, 0, 0, 1, 0), (.if_icmp .eq 16, 3, 0, 0, 0), (.aload_n 0, 0, 0, 0, 0), (.lload_n 1, 0, 0, 0, 0), (.lload_n 3, 0, 0, 0, 0), (.iload 5, 0, 0, 0, 0), (.iconst 1, 0, 0, 1, 0), (.iadd, 0, 0, 0, 0), (.invokevirtual 69, 35, 116, 0, 0), (.ifCond .eq 5, 4, 0, 0, 0), (.iconst 1, 0, 0, 1, 0), (.ireturn, 0, 0, 0, 0)]
def cp_34_r3 : List mm_Row := [(.iconst 1, 0, 0, 1, 0), (.ireturn, 0, 0, 0, 0)]
def cp_34_r4 : List mm_Row := [(.aload_n 0, 0, 0, 0, 0), (.getfield 22, 1, 4, 0, 0), (.iload 6, 0, 0, 0, 0), (.iaload, 0, 0, 0, 0), (.ifCond .eq 29, 5, 0, 0, 0), (.aload_n 0, 0, 0, 0, 0), (.lload_n 1, 0, 0, 0, 0), (.aload_n 0, 0, 0, 0, 0), (.aload_n 0, 0, 0, 0, 0), (.getfield 22, 1, 4, 0, 0), (.iload 6, 0, 0, 0, 0), (.iaload, 0, 0, 0, 0), (.lload_n 3, 0, 0, 0, 0), (.invokevirtual 65, 36, 99, 0, 0), (.iload 5, 0, 0, 0, 0), (.iconst 1, 0, 0, 1, 0), (.iadd, 0, 0, 0, 0), (.invokevirtual 73, 34, 116, 0, 0), (.ifCond .eq 5, 5, 0, 0, 0), (.iconst 1, 0, 0, 1, 0), (.ireturn, 0, 0, 0, 0)]
def cp_34_r5 : List mm_Row := [(.aload_n 0, 0, 0, 0, 0), (.getfield 25, 1, 5, 0, 0), (.iload 6, 0, 0, 0, 0), (.iaload, 0, 0, 0, 0), (.ifCond .eq 31, 6, 0, 0, 0), (.aload_n 0, 0, 0, 0, 0), (.lload_n 1, 0, 0, 0, 0), (.aload_n 0, 0, 0, 0, 0), (.aload_n 0, 0, 0, 0, 0), (.getfield 25, 1, 5, 0, 0), (.iload 6, 0, 0, 0, 0), (.iaload, 0, 0, 0, 0), (.lload_n 3, 0, 0, 0, 0), (.invokevirtual 65, 36, 99, 0, 0), (.iload 5, 0, 0, 0, 0), (.iconst 1, 0, 0, 1, 0), (.iadd, 0, 0, 0, 0), (.invokevirtual 73, 34, 116, 0, 0), (.ifCond .eq 7, 6, 0, 0, 0), (.iconst 1, 0, 0, 1, 0), (.goto 4, 7, 0, 0, 0)]
def cp_34_r6 : List mm_Row := [(.iconst 0, 0, 0, 0, 0), (.ireturn, 0, 0, 0, 0)]
def cp_34_r7 : List mm_Row := [(.ireturn, 0, 0, 0, 0)]
def cp_34_l : List (Nat × List mm_Row) := [(0, cp_34_r0), (38, cp_34_r1), (40, cp_34_r2), (59, cp_34_r3), (61, cp_34_r4), (97, cp_34_r5), (135, cp_34_r6), (136, cp_34_r7)]
def cp_34 : mm_M := (1, ⟨"WiringContainer$ClassTable", "isMetBySome", "(JJI)Z"⟩, prog_3_method_12_code, 8, (some .boolean), cp_34_l)
-- 35: WiringContainer$ClassTable.isMet(JJI)Z
def cp_35_r0 : List mm_Row := [(.iload 5, 0, 0, 0, 0), (.bipush 40, 0, 0, 40, 0), (.if_icmp .gt 17, 1, 0, 0, 0), (.lload_n 1, 0, 0, 0, 0), (.ldc2_w 63, 0, 0, 0, 31), (.land, 0, 0, 0, 0), (.lload_n 3, 0, 0, 0, 0), (.ldc2_w 63, 0, 0, 0, 31), (.land, 0, 0, 0, 0), (.lcmp, 0, 0, 0, 0), (.ifCond .eq 5, 2, 0, 0, 0), (.iconst 0, 0, 0, 0, 0), (.ireturn, 0, 0, 0, 0)]
def cp_35_r1 : List mm_Row := [(.iconst 0, 0, 0, 0, 0), (.ireturn, 0, 0, 0, 0)]
def cp_35_r2 : List mm_Row := [(.lload_n 1, 0, 0, 0, 0), (.iconst 5, 0, 0, 5, 0), (.lshr, 0, 0, 0, 0), (.lstore 6, 0, 0, 0, 0), (.lload_n 3, 0, 0, 0, 0), (.iconst 5, 0, 0, 5, 0), (.lshr, 0, 0, 0, 0), (.lstore 8, 0, 0, 0, 0), (.lload 6, 0, 0, 0, 0), (.lconst 0, 0, 0, 0, 0), (.lcmp, 0, 0, 0, 0), (.ifCond .ne 32, 6, 0, 0, 0), (.lload 8, 0, 0, 0, 0), (.lconst 0, 0, 0, 0, 0), (.lcmp, 0, 0, 0, 0), (.ifCond .eq 19, 3, 0, 0, 0), (.lload 8, 0, 0, 0, 0), (.ldc2_w 63, 0, 0, 0, 31), (.lcmp, 0, 0, 0, 0), (.ifCond .eq 10, 3, 0, 0, 0), (.lload 8, 0, 0, 0, 0), (.lconst 1, 0, 0, 0, 1), (.lcmp, 0, 0, 0, 0), (.ifCond .ne 7, 4, 0, 0, 0), (.iconst 1, 0, 0, 1, 0), (.goto 4, 5, 0, 0, 0)]
def cp_35_r3 : List mm_Row := [(.iconst 1, 0, 0, 1, 0), (.goto 4, 5, 0, 0, 0)]
def cp_35_r4 : List mm_Row := [(.iconst 0, 0, 0, 0, 0), (.ireturn, 0, 0, 0, 0)]
def cp_35_r5 : List mm_Row := [(.ireturn, 0, 0, 0, 0)]
def cp_35_r6 : List mm_Row := [(.lload 8, 0, 0, 0, 0), (.lconst 0, 0, 0, 0, 0), (.lcmp, 0, 0, 0, 0), (.ifCond .ne 16, 9, 0, 0, 0), (.lload 6, 0, 0, 0, 0), (.lconst 1, 0, 0, 0, 1), (.lcmp, 0, 0, 0, 0), (.ifCond .ne 7, 7, 0, 0, 0), (.iconst 1, 0, 0, 1, 0), (.goto 4, 8, 0, 0, 0)]
def cp_35_r7 : List mm_Row := [(.iconst 0, 0, 0, 0, 0), (.ireturn, 0, 0, 0, 0)]
def cp_35_r8 : List mm_Row := [(.ireturn, 0, 0, 0, 0)]
def cp_35_r9 : List mm_Row := [(.lload 8, 0, 0, 0, 0), (.ldc2_w 63, 0, 0, 0, 31), (.lcmp, 0, 0, 0, 0), (.ifCond .eq 12, 10, 0, 0, 0), (.lload 6, 0, 0, 0, 0), (.ldc2_w 76, 0, 0, 0, 30), (.lcmp, 0, 0, 0, 0), (.ifCond .ne 5, 11, 0, 0, 0), (.iconst 1, 0, 0, 1, 0), (.ireturn, 0, 0, 0, 0)]
def cp_35_r10 : List mm_Row := [(.iconst 1, 0, 0, 1, 0), (.ireturn, 0, 0, 0, 0)]
def cp_35_r11 : List mm_Row := [(.lload 6, 0, 0, 0, 0), (.ldc2_w 63, 0, 0, 0, 31), (.land, 0, 0, 0, 0), (.ldc2_w 78, 0, 0, 0, 29), (.lcmp, 0, 0, 0, 0), (.ifCond .ne 18, 12, 0, 0, 0), (.aload_n 0, 0, 0, 0, 0), (.lload 6, 0, 0, 0, 0), (.iconst 5, 0, 0, 5, 0), (.lshr, 0, 0, 0, 0), (.lload 8, 0, 0, 0, 0), (.iload 5, 0, 0, 0, 0), (.iconst 1, 0, 0, 1, 0), (.iadd, 0, 0, 0, 0), (.invokevirtual 73, 34, 116, 0, 0), (.ireturn, 0, 0, 0, 0)]
def cp_35_r12 : List mm_Row := [(.aload_n 0, 0, 0, 0, 0), (.lload 6, 0, 0, 0, 0), (.lload 8, 0, 0, 0, 0), (.iload 5, 0, 0, 0, 0), (.iconst 1, 0, 0, 1, 0), (.iadd, 0, 0, 0, 0), (.invokevirtual 69, 35, 116, 0, 0), (.ireturn, 0, 0, 0, 0)]
def cp_35_l : List (Nat × List mm_Row) := [(0, cp_35_r0), (21, cp_35_r1), (23, cp_35_r2), (63, cp_35_r3), (67, cp_35_r4), (68, cp_35_r5), (69, cp_35_r6), (87, cp_35_r7), (88, cp_35_r8), (89, cp_35_r9), (107, cp_35_r10), (109, cp_35_r11), (137, cp_35_r12)]
def cp_35 : mm_M := (1, ⟨"WiringContainer$ClassTable", "isMet", "(JJI)Z"⟩, prog_3_method_13_code, 10, (some .boolean), cp_35_l)
-- 36: WiringContainer$ClassTable.become(IJ)J
def cp_36_r0 : List mm_Row := [(.lload_n 2, 0, 0, 0, 0), (.iconst 5, 0, 0, 5, 0), (.lshr, 0, 0, 0, 0), (.lstore 4, 0, 0, 0, 0), (.lload 4, 0, 0, 0, 0), (.lconst 0, 0, 0, 0, 0), (.lcmp, 0, 0, 0, 0), (.ifCond .ne 23, 1, 0, 0, 0), (.aload_n 0, 0, 0, 0, 0), (.getfield 9, 1, 1, 0, 0), (.lload_n 2, 0, 0, 0, 0), (.ldc2_w 63, 0, 0, 0, 31), (.land, 0, 0, 0, 0), (.l2i, 0, 0, 0, 0), (.baload, 0, 0, 0, 0), (.ifCond .eq 9, 1, 0, 0, 0), (.iload_n 1, 0, 0, 0, 0), (.bipush 31, 0, 0, 31, 0), (.iand, 0, 0, 0, 0), (.i2l, 0, 0, 0, 0), (.lreturn, 0, 0, 0, 0)]
def cp_36_r1 : List mm_Row := [(.iconst 1, 0, 0, 1, 0), (.istore 6, 0, 0, 0, 0), (.iload 6, 0, 0, 0, 0), (.iconst 3, 0, 0, 3, 0), (.if_icmp .ge 40, 4, 0, 0, 0), (.iload 6, 0, 0, 0, 0), (.iconst 5, 0, 0, 5, 0), (.imul, 0, 0, 0, 0), (.istore 7, 0, 0, 0, 0), (.iload_n 1, 0, 0, 0, 0), (.iload 7, 0, 0, 0, 0), (.ishr, 0, 0, 0, 0), (.bipush 31, 0, 0, 31, 0), (.if_icmp .ne 19, 3, 0, 0, 0), (.iload_n 1, 0, 0, 0, 0), (.iconst 1, 0, 0, 1, 0), (.iload 7, 0, 0, 0, 0), (.ishl, 0, 0, 0, 0), (.iconst 1, 0, 0, 1, 0), (.isub, 0, 0, 0, 0), (.iand, 0, 0, 0, 0), (.i2l, 0, 0, 0, 0), (.lload 4, 0, 0, 0, 0), (.iload 7, 0, 0, 0, 0), (.lshl, 0, 0, 0, 0), (.lor, 0, 0, 0, 0), (.lreturn, 0, 0, 0, 0)]
def cp_36_r2 : List mm_Row := [(.iload 6, 0, 0, 0, 0), (.iconst 3, 0, 0, 3, 0), (.if_icmp .ge 40, 4, 0, 0, 0), (.iload 6, 0, 0, 0, 0), (.iconst 5, 0, 0, 5, 0), (.imul, 0, 0, 0, 0), (.istore 7, 0, 0, 0, 0), (.iload_n 1, 0, 0, 0, 0), (.iload 7, 0, 0, 0, 0), (.ishr, 0, 0, 0, 0), (.bipush 31, 0, 0, 31, 0), (.if_icmp .ne 19, 3, 0, 0, 0), (.iload_n 1, 0, 0, 0, 0), (.iconst 1, 0, 0, 1, 0), (.iload 7, 0, 0, 0, 0), (.ishl, 0, 0, 0, 0), (.iconst 1, 0, 0, 1, 0), (.isub, 0, 0, 0, 0), (.iand, 0, 0, 0, 0), (.i2l, 0, 0, 0, 0), (.lload 4, 0, 0, 0, 0), (.iload 7, 0, 0, 0, 0), (.lshl, 0, 0, 0, 0), (.lor, 0, 0, 0, 0), (.lreturn, 0, 0, 0, 0)]
def cp_36_r3 : List mm_Row := [(.iinc 6 1, 0, 0, 1, 0), (.goto (-40), 2, 0, 0, 0)]
def cp_36_r4 : List mm_Row := [(.iload_n 1, 0, 0, 0, 0), (.i2l, 0, 0, 0, 0), (.lreturn, 0, 0, 0, 0)]
def cp_36_l : List (Nat × List mm_Row) := [(0, cp_36_r0), (32, cp_36_r1), (35, cp_36_r2), (72, cp_36_r3), (78, cp_36_r4)]
def cp_36 : mm_M := (1, ⟨"WiringContainer$ClassTable", "become", "(IJ)J"⟩, prog_3_method_14_code, 8, (some .long), cp_36_l)
-- 37: WiringContainer$ClassTable.note(J)V
def cp_37_r0 : List mm_Row := [(.iconst 0, 0, 0, 0, 0), (.istore_n 3, 0, 0, 0, 0), (.iload_n 3, 0, 0, 0, 0), (.aload_n 0, 0, 0, 0, 0), (.getfield 56, 1, 8, 0, 0), (.if_icmp .ge 21, 3, 0, 0, 0), (.aload_n 0, 0, 0, 0, 0), (.getfield 31, 1, 7, 0, 0), (.iload_n 3, 0, 0, 0, 0), (.laload, 0, 0, 0, 0), (.lload_n 1, 0, 0, 0, 0), (.lcmp, 0, 0, 0, 0), (.ifCond .ne 4, 2, 0, 0, 0), (.return_, 0, 0, 0, 0)]
def cp_37_r1 : List mm_Row := [(.iload_n 3, 0, 0, 0, 0), (.aload_n 0, 0, 0, 0, 0), (.getfield 56, 1, 8, 0, 0), (.if_icmp .ge 21, 3, 0, 0, 0), (.aload_n 0, 0, 0, 0, 0), (.getfield 31, 1, 7, 0, 0), (.iload_n 3, 0, 0, 0, 0), (.laload, 0, 0, 0, 0), (.lload_n 1, 0, 0, 0, 0), (.lcmp, 0, 0, 0, 0), (.ifCond .ne 4, 2, 0, 0, 0), (.return_, 0, 0, 0, 0)]
def cp_37_r2 : List mm_Row := [(.iinc 3 1, 0, 0, 1, 0), (.goto (-23), 1, 0, 0, 0)]
def cp_37_r3 : List mm_Row := [(.aload_n 0, 0, 0, 0, 0), (.getfield 56, 1, 8, 0, 0), (.bipush 16, 0, 0, 16, 0), (.if_icmp .ge 23, 4, 0, 0, 0), (.aload_n 0, 0, 0, 0, 0), (.getfield 31, 1, 7, 0, 0), (.aload_n 0, 0, 0, 0, 0), (.getfield 56, 1, 8, 0, 0), (.lload_n 1, 0, 0, 0, 0), (.lastore, 0, 0, 0, 0), (.aload_n 0, 0, 0, 0, 0), (.dup, 0, 0, 0, 0), (.getfield 56, 1, 8, 0, 0), (.iconst 1, 0, 0, 1, 0), (.iadd, 0, 0, 0, 0), (.putfield 56, 1, 8, 0, 0), (.return_, 0, 0, 0, 0)]
def cp_37_r4 : List mm_Row := [(.return_, 0, 0, 0, 0)]
def cp_37_l : List (Nat × List mm_Row) := [(0, cp_37_r0), (2, cp_37_r1), (22, cp_37_r2), (28, cp_37_r3), (57, cp_37_r4)]
def cp_37 : mm_M := (1, ⟨"WiringContainer$ClassTable", "note", "(J)V"⟩, prog_3_method_15_code, 4, none, cp_37_l)
-- 38: WiringContainer$ClassTable.isTypeCode(IIZZ)Z
def cp_38_r0 : List mm_Row := [(.iload_n 1, 0, 0, 0, 0), (.bipush 31, 0, 0, 31, 0), (.iand, 0, 0, 0, 0), (.istore 5, 0, 0, 0, 0), (.iload_n 1, 0, 0, 0, 0), (.ifCond .le 16, 1, 0, 0, 0), (.iload_n 2, 0, 0, 0, 0), (.ifCond .le 12, 1, 0, 0, 0), (.aload_n 0, 0, 0, 0, 0), (.iload 5, 0, 0, 0, 0), (.invokevirtual 80, 25, 114, 0, 0), (.ifCond .ne 5, 2, 0, 0, 0), (.iconst 0, 0, 0, 0, 0), (.ireturn, 0, 0, 0, 0)]
def cp_38_r1 : List mm_Row := [(.iconst 0, 0, 0, 0, 0), (.ireturn, 0, 0, 0, 0)]
def cp_38_r2 : List mm_Row := [(.iload_n 1, 0, 0, 0, 0), (.iconst 5, 0, 0, 5, 0), (.ishr, 0, 0, 0, 0), (.istore 6, 0, 0, 0, 0), (.iload 6, 0, 0, 0, 0), (.ifCond .eq 28, 3, 0, 0, 0), (.aload_n 0, 0, 0, 0, 0), (.getfield 9, 1, 1, 0, 0), (.iload 5, 0, 0, 0, 0), (.baload, 0, 0, 0, 0), (.ifCond .eq 22, 4, 0, 0, 0), (.aload_n 0, 0, 0, 0, 0), (.iload 6, 0, 0, 0, 0), (.iload_n 2, 0, 0, 0, 0), (.iconst 1, 0, 0, 1, 0), (.isub, 0, 0, 0, 0), (.iload_n 3, 0, 0, 0, 0), (.iload 4, 0, 0, 0, 0), (.invokevirtual 84, 39, 117, 0, 0), (.ifCond .eq 7, 4, 0, 0, 0), (.iconst 1, 0, 0, 1, 0), (.goto 4, 5, 0, 0, 0)]
def cp_38_r3 : List mm_Row := [(.iconst 1, 0, 0, 1, 0), (.goto 4, 5, 0, 0, 0)]
def cp_38_r4 : List mm_Row := [(.iconst 0, 0, 0, 0, 0), (.ireturn, 0, 0, 0, 0)]
def cp_38_r5 : List mm_Row := [(.ireturn, 0, 0, 0, 0)]
def cp_38_l : List (Nat × List mm_Row) := [(0, cp_38_r0), (23, cp_38_r1), (25, cp_38_r2), (60, cp_38_r3), (64, cp_38_r4), (65, cp_38_r5)]
def cp_38 : mm_M := (1, ⟨"WiringContainer$ClassTable", "isTypeCode", "(IIZZ)Z"⟩, prog_3_method_16_code, 7, (some .boolean), cp_38_l)
-- 39: WiringContainer$ClassTable.isArgumentCode(IIZZ)Z
def cp_39_r0 : List mm_Row := [(.iload_n 2, 0, 0, 0, 0), (.ifCond .gt 5, 1, 0, 0, 0), (.iconst 0, 0, 0, 0, 0), (.ireturn, 0, 0, 0, 0)]
def cp_39_r1 : List mm_Row := [(.iload_n 1, 0, 0, 0, 0), (.bipush 31, 0, 0, 31, 0), (.iand, 0, 0, 0, 0), (.tableswitch 85 29 31 #[59, 43, 26], 9, 8, 0, 0)]
def cp_39_r2 : List mm_Row := [(.iconst 0, 0, 0, 0, 0), (.ireturn, 0, 0, 0, 0)]
def cp_39_r3 : List mm_Row := [(.ireturn, 0, 0, 0, 0)]
def cp_39_r4 : List mm_Row := [(.iconst 0, 0, 0, 0, 0), (.ireturn, 0, 0, 0, 0)]
def cp_39_r5 : List mm_Row := [(.ireturn, 0, 0, 0, 0)]
def cp_39_r6 : List mm_Row := [(.iconst 0, 0, 0, 0, 0), (.ireturn, 0, 0, 0, 0)]
def cp_39_r7 : List mm_Row := [(.ireturn, 0, 0, 0, 0)]
def cp_39_r8 : List mm_Row := [(.aload_n 0, 0, 0, 0, 0), (.iload_n 1, 0, 0, 0, 0), (.iload_n 2, 0, 0, 0, 0), (.iload_n 3, 0, 0, 0, 0), (.iload 4, 0, 0, 0, 0), (.invokevirtual 39, 38, 117, 0, 0), (.ireturn, 0, 0, 0, 0)]
def cp_39_r9 : List mm_Row := [(.iload_n 3, 0, 0, 0, 0), (.ifCond .eq 23, 6, 0, 0, 0), (.aload_n 0, 0, 0, 0, 0), (.iload_n 1, 0, 0, 0, 0), (.iconst 5, 0, 0, 5, 0), (.ishr, 0, 0, 0, 0), (.iload_n 2, 0, 0, 0, 0), (.iconst 1, 0, 0, 1, 0), (.isub, 0, 0, 0, 0), (.iconst 1, 0, 0, 1, 0), (.iload 4, 0, 0, 0, 0), (.invokevirtual 39, 38, 117, 0, 0), (.ifCond .eq 7, 6, 0, 0, 0), (.iconst 1, 0, 0, 1, 0), (.goto 4, 7, 0, 0, 0)]
def cp_39_r10 : List mm_Row := [(.iload_n 3, 0, 0, 0, 0), (.ifCond .eq 13, 4, 0, 0, 0), (.iload_n 1, 0, 0, 0, 0), (.bipush 30, 0, 0, 30, 0), (.if_icmp .ne 7, 4, 0, 0, 0), (.iconst 1, 0, 0, 1, 0), (.goto 4, 5, 0, 0, 0)]
def cp_39_r11 : List mm_Row := [(.iload 4, 0, 0, 0, 0), (.ifCond .eq 13, 2, 0, 0, 0), (.iload_n 1, 0, 0, 0, 0), (.bipush 31, 0, 0, 31, 0), (.if_icmp .ne 7, 2, 0, 0, 0), (.iconst 1, 0, 0, 1, 0), (.goto 4, 3, 0, 0, 0)]
def cp_39_l : List (Nat × List mm_Row) := [(0, cp_39_r0), (6, cp_39_r1), (51, cp_39_r2), (52, cp_39_r3), (67, cp_39_r4), (68, cp_39_r5), (93, cp_39_r6), (94, cp_39_r7), (95, cp_39_r8), (69, cp_39_r9), (53, cp_39_r10), (36, cp_39_r11)]
def cp_39 : mm_M := (1, ⟨"WiringContainer$ClassTable", "isArgumentCode", "(IIZZ)Z"⟩, prog_3_method_17_code, 5, (some .boolean), cp_39_l)
-- 40: WiringContainer$ContextTable.isActive(I)Z
def cp_40_r0 : List mm_Row := [(.iload_n 1, 0, 0, 0, 0), (.invokestatic 20, 47, 49, 0, 0), (.ifCond .eq 16, 1, 0, 0, 0), (.aload_n 0, 0, 0, 0, 0), (.getfield 9, 2, 0, 0, 0), (.iload_n 1, 0, 0, 0, 0), (.baload, 0, 0, 0, 0), (.ifCond .eq 7, 1, 0, 0, 0), (.iconst 1, 0, 0, 1, 0), (.goto 4, 2, 0, 0, 0)]
def cp_40_r1 : List mm_Row := [(.iconst 0, 0, 0, 0, 0), (.ireturn, 0, 0, 0, 0)]
def cp_40_r2 : List mm_Row := [(.ireturn, 0, 0, 0, 0)]
def cp_40_l : List (Nat × List mm_Row) := [(0, cp_40_r0), (20, cp_40_r1), (21, cp_40_r2)]
def cp_40 : mm_M := (2, ⟨"WiringContainer$ContextTable", "isActive", "(I)Z"⟩, prog_4_method_2_code, 2, (some .boolean), cp_40_l)
-- 41: WiringContainer$ContextTable.open(I)V
def cp_41_r0 : List mm_Row := [(.iload_n 1, 0, 0, 0, 0), (.invokestatic 20, 47, 49, 0, 0), (.ifCond .eq 10, 1, 0, 0, 0), (.aload_n 0, 0, 0, 0, 0), (.getfield 9, 2, 0, 0, 0), (.iload_n 1, 0, 0, 0, 0), (.iconst 1, 0, 0, 1, 0), (.bastore, 0, 0, 0, 0), (.return_, 0, 0, 0, 0)]
def cp_41_r1 : List mm_Row := [(.return_, 0, 0, 0, 0)]
def cp_41_l : List (Nat × List mm_Row) := [(0, cp_41_r0), (14, cp_41_r1)]
def cp_41 : mm_M := (2, ⟨"WiringContainer$ContextTable", "open", "(I)V"⟩, prog_4_method_3_code, 2, none, cp_41_l)
-- 42: WiringContainer$ContextTable.close(I)V
def cp_42_r0 : List mm_Row := [(.iload_n 1, 0, 0, 0, 0), (.invokestatic 20, 47, 49, 0, 0), (.ifCond .eq 10, 1, 0, 0, 0), (.aload_n 0, 0, 0, 0, 0), (.getfield 9, 2, 0, 0, 0), (.iload_n 1, 0, 0, 0, 0), (.iconst 0, 0, 0, 0, 0), (.bastore, 0, 0, 0, 0), (.return_, 0, 0, 0, 0)]
def cp_42_r1 : List mm_Row := [(.return_, 0, 0, 0, 0)]
def cp_42_l : List (Nat × List mm_Row) := [(0, cp_42_r0), (14, cp_42_r1)]
def cp_42 : mm_M := (2, ⟨"WiringContainer$ContextTable", "close", "(I)V"⟩, prog_4_method_4_code, 2, none, cp_42_l)
-- 43: WiringContainer$ContextTable.heldFor(II)I
def cp_43_r0 : List mm_Row := [(.iload_n 1, 0, 0, 0, 0), (.invokestatic 20, 47, 49, 0, 0), (.ifCond .eq 21, 1, 0, 0, 0), (.iload_n 2, 0, 0, 0, 0), (.invokestatic 24, 48, 49, 0, 0), (.ifCond .eq 14, 1, 0, 0, 0), (.aload_n 0, 0, 0, 0, 0), (.getfield 17, 2, 1, 0, 0), (.iload_n 1, 0, 0, 0, 0), (.aaload, 0, 0, 0, 0), (.iload_n 2, 0, 0, 0, 0), (.iaload, 0, 0, 0, 0), (.goto 4, 2, 0, 0, 0)]
def cp_43_r1 : List mm_Row := [(.iconst 0, 0, 0, 0, 0), (.ireturn, 0, 0, 0, 0)]
def cp_43_r2 : List mm_Row := [(.ireturn, 0, 0, 0, 0)]
def cp_43_l : List (Nat × List mm_Row) := [(0, cp_43_r0), (25, cp_43_r1), (26, cp_43_r2)]
def cp_43 : mm_M := (2, ⟨"WiringContainer$ContextTable", "heldFor", "(II)I"⟩, prog_4_method_5_code, 3, (some .int), cp_43_l)
-- 44: WiringContainer$ContextTable.hold(III)V
def cp_44_r0 : List mm_Row := [(.iload_n 1, 0, 0, 0, 0), (.invokestatic 20, 47, 49, 0, 0), (.ifCond .eq 19, 1, 0, 0, 0), (.iload_n 2, 0, 0, 0, 0), (.invokestatic 24, 48, 49, 0, 0), (.ifCond .eq 12, 1, 0, 0, 0), (.aload_n 0, 0, 0, 0, 0), (.getfield 17, 2, 1, 0, 0), (.iload_n 1, 0, 0, 0, 0), (.aaload, 0, 0, 0, 0), (.iload_n 2, 0, 0, 0, 0), (.iload_n 3, 0, 0, 0, 0), (.iastore, 0, 0, 0, 0), (.return_, 0, 0, 0, 0)]
def cp_44_r1 : List mm_Row := [(.return_, 0, 0, 0, 0)]
def cp_44_l : List (Nat × List mm_Row) := [(0, cp_44_r0), (23, cp_44_r1)]
def cp_44 : mm_M := (2, ⟨"WiringContainer$ContextTable", "hold", "(III)V"⟩, prog_4_method_6_code, 4, none, cp_44_l)
-- 45: WiringContainer$ContextTable.takeLatest(I)I
def cp_45_r0 : List mm_Row := [(.iload_n 1, 0, 0, 0, 0), (.invokestatic 20, 47, 49, 0, 0), (.ifCond .ne 5, 1, 0, 0, 0), (.iconst 0, 0, 0, 0, 0), (.ireturn, 0, 0, 0, 0)]
def cp_45_r1 : List mm_Row := [(.iconst 0, 0, 0, 0, 0), (.istore_n 2, 0, 0, 0, 0), (.iconst 0, 0, 0, 0, 0), (.istore_n 3, 0, 0, 0, 0), (.iconst 0, 0, 0, 0, 0), (.istore 4, 0, 0, 0, 0), (.iload 4, 0, 0, 0, 0), (.bipush 16, 0, 0, 16, 0), (.if_icmp .ge 35, 4, 0, 0, 0), (.aload_n 0, 0, 0, 0, 0), (.getfield 17, 2, 1, 0, 0), (.iload_n 1, 0, 0, 0, 0), (.aaload, 0, 0, 0, 0), (.iload 4, 0, 0, 0, 0), (.iaload, 0, 0, 0, 0), (.iload_n 2, 0, 0, 0, 0), (.if_icmp .le 16, 3, 0, 0, 0), (.aload_n 0, 0, 0, 0, 0), (.getfield 17, 2, 1, 0, 0), (.iload_n 1, 0, 0, 0, 0), (.aaload, 0, 0, 0, 0), (.iload 4, 0, 0, 0, 0), (.iaload, 0, 0, 0, 0), (.istore_n 2, 0, 0, 0, 0), (.iload 4, 0, 0, 0, 0), (.istore_n 3, 0, 0, 0, 0), (.iinc 4 1, 0, 0, 1, 0), (.goto (-36), 2, 0, 0, 0)]
def cp_45_r2 : List mm_Row := [(.iload 4, 0, 0, 0, 0), (.bipush 16, 0, 0, 16, 0), (.if_icmp .ge 35, 4, 0, 0, 0), (.aload_n 0, 0, 0, 0, 0), (.getfield 17, 2, 1, 0, 0), (.iload_n 1, 0, 0, 0, 0), (.aaload, 0, 0, 0, 0), (.iload 4, 0, 0, 0, 0), (.iaload, 0, 0, 0, 0), (.iload_n 2, 0, 0, 0, 0), (.if_icmp .le 16, 3, 0, 0, 0), (.aload_n 0, 0, 0, 0, 0), (.getfield 17, 2, 1, 0, 0), (.iload_n 1, 0, 0, 0, 0), (.aaload, 0, 0, 0, 0), (.iload 4, 0, 0, 0, 0), (.iaload, 0, 0, 0, 0), (.istore_n 2, 0, 0, 0, 0), (.iload 4, 0, 0, 0, 0), (.istore_n 3, 0, 0, 0, 0), (.iinc 4 1, 0, 0, 1, 0), (.goto (-36), 2, 0, 0, 0)]
def cp_45_r3 : List mm_Row := [(.iinc 4 1, 0, 0, 1, 0), (.goto (-36), 2, 0, 0, 0)]
def cp_45_r4 : List mm_Row := [(.aload_n 0, 0, 0, 0, 0), (.getfield 17, 2, 1, 0, 0), (.iload_n 1, 0, 0, 0, 0), (.aaload, 0, 0, 0, 0), (.iload_n 3, 0, 0, 0, 0), (.iconst 0, 0, 0, 0, 0), (.iastore, 0, 0, 0, 0), (.iload_n 2, 0, 0, 0, 0), (.ireturn, 0, 0, 0, 0)]
def cp_45_l : List (Nat × List mm_Row) := [(0, cp_45_r0), (9, cp_45_r1), (16, cp_45_r2), (49, cp_45_r3), (55, cp_45_r4)]
def cp_45 : mm_M := (2, ⟨"WiringContainer$ContextTable", "takeLatest", "(I)I"⟩, prog_4_method_7_code, 5, (some .int), cp_45_l)
-- 46: WiringContainer$ContextTable.letGo(II)V
def cp_46_r0 : List mm_Row := [(.iload_n 1, 0, 0, 0, 0), (.invokestatic 24, 48, 49, 0, 0), (.ifCond .ne 4, 1, 0, 0, 0), (.return_, 0, 0, 0, 0)]
def cp_46_r1 : List mm_Row := [(.iconst 0, 0, 0, 0, 0), (.istore_n 3, 0, 0, 0, 0), (.iload_n 3, 0, 0, 0, 0), (.iconst 4, 0, 0, 4, 0), (.if_icmp .ge 30, 4, 0, 0, 0), (.aload_n 0, 0, 0, 0, 0), (.getfield 17, 2, 1, 0, 0), (.iload_n 3, 0, 0, 0, 0), (.aaload, 0, 0, 0, 0), (.iload_n 1, 0, 0, 0, 0), (.iaload, 0, 0, 0, 0), (.iload_n 2, 0, 0, 0, 0), (.if_icmp .ne 12, 3, 0, 0, 0), (.aload_n 0, 0, 0, 0, 0), (.getfield 17, 2, 1, 0, 0), (.iload_n 3, 0, 0, 0, 0), (.aaload, 0, 0, 0, 0), (.iload_n 1, 0, 0, 0, 0), (.iconst 0, 0, 0, 0, 0), (.iastore, 0, 0, 0, 0), (.iinc 3 1, 0, 0, 1, 0), (.goto (-29), 2, 0, 0, 0)]
def cp_46_r2 : List mm_Row := [(.iload_n 3, 0, 0, 0, 0), (.iconst 4, 0, 0, 4, 0), (.if_icmp .ge 30, 4, 0, 0, 0), (.aload_n 0, 0, 0, 0, 0), (.getfield 17, 2, 1, 0, 0), (.iload_n 3, 0, 0, 0, 0), (.aaload, 0, 0, 0, 0), (.iload_n 1, 0, 0, 0, 0), (.iaload, 0, 0, 0, 0), (.iload_n 2, 0, 0, 0, 0), (.if_icmp .ne 12, 3, 0, 0, 0), (.aload_n 0, 0, 0, 0, 0), (.getfield 17, 2, 1, 0, 0), (.iload_n 3, 0, 0, 0, 0), (.aaload, 0, 0, 0, 0), (.iload_n 1, 0, 0, 0, 0), (.iconst 0, 0, 0, 0, 0), (.iastore, 0, 0, 0, 0), (.iinc 3 1, 0, 0, 1, 0), (.goto (-29), 2, 0, 0, 0)]
def cp_46_r3 : List mm_Row := [(.iinc 3 1, 0, 0, 1, 0), (.goto (-29), 2, 0, 0, 0)]
def cp_46_r4 : List mm_Row := [(.return_, 0, 0, 0, 0)]
def cp_46_l : List (Nat × List mm_Row) := [(0, cp_46_r0), (8, cp_46_r1), (10, cp_46_r2), (36, cp_46_r3), (42, cp_46_r4)]
def cp_46 : mm_M := (2, ⟨"WiringContainer$ContextTable", "letGo", "(II)V"⟩, prog_4_method_8_code, 4, none, cp_46_l)
-- 47: WiringContainer$ContextTable.isContext(I)Z
def cp_47_r0 : List mm_Row := [(.iload_n 0, 0, 0, 0, 0), (.ifCond .lt 12, 1, 0, 0, 0), (.iload_n 0, 0, 0, 0, 0), (.iconst 4, 0, 0, 4, 0), (.if_icmp .ge 7, 1, 0, 0, 0), (.iconst 1, 0, 0, 1, 0), (.goto 4, 2, 0, 0, 0)]
def cp_47_r1 : List mm_Row := [(.iconst 0, 0, 0, 0, 0), (.ireturn, 0, 0, 0, 0)]
def cp_47_r2 : List mm_Row := [(.ireturn, 0, 0, 0, 0)]
def cp_47_l : List (Nat × List mm_Row) := [(0, cp_47_r0), (13, cp_47_r1), (14, cp_47_r2)]
def cp_47 : mm_M := (2, ⟨"WiringContainer$ContextTable", "isContext", "(I)Z"⟩, prog_4_method_9_code, 1, (some .boolean), cp_47_l)
-- 48: WiringContainer$ContextTable.isRow(I)Z
def cp_48_r0 : List mm_Row := [(.iload_n 0, 0, 0, 0, 0), (.ifCond .lt 13, 1, 0, 0, 0), (.iload_n 0, 0, 0, 0, 0), (.bipush 16, 0, 0, 16, 0), (.if_icmp .ge 7, 1, 0, 0, 0), (.iconst 1, 0, 0, 1, 0), (.goto 4, 2, 0, 0, 0)]
def cp_48_r1 : List mm_Row := [(.iconst 0, 0, 0, 0, 0), (.ireturn, 0, 0, 0, 0)]
def cp_48_r2 : List mm_Row := [(.ireturn, 0, 0, 0, 0)]
def cp_48_l : List (Nat × List mm_Row) := [(0, cp_48_r0), (14, cp_48_r1), (15, cp_48_r2)]
def cp_48 : mm_M := (2, ⟨"WiringContainer$ContextTable", "isRow", "(I)Z"⟩, prog_4_method_10_code, 1, (some .boolean), cp_48_l)
-- 49: WiringContainer$InstanceTable.numbersLeft()I
def cp_49_r0 : List mm_Row := [(.sipush 200, 0, 0, 200, 0), (.aload_n 0, 0, 0, 0, 0), (.getfield 30, 3, 0, 0, 0), (.isub, 0, 0, 0, 0), (.ireturn, 0, 0, 0, 0)]
def cp_49_l : List (Nat × List mm_Row) := [(0, cp_49_r0)]
def cp_49 : mm_M := (3, ⟨"WiringContainer$InstanceTable", "numbersLeft", "()I"⟩, prog_5_method_2_code, 1, (some .int), cp_49_l)
-- 50: WiringContainer$InstanceTable.livingCount()I
def cp_50_r0 : List mm_Row := [(.aload_n 0, 0, 0, 0, 0), (.getfield 34, 3, 1, 0, 0), (.ireturn, 0, 0, 0, 0)]
def cp_50_l : List (Nat × List mm_Row) := [(0, cp_50_r0)]
def cp_50 : mm_M := (3, ⟨"WiringContainer$InstanceTable", "livingCount", "()I"⟩, prog_5_method_3_code, 1, (some .int), cp_50_l)
-- 51: WiringContainer$InstanceTable.destroyedCount()I
def cp_51_r0 : List mm_Row := [(.aload_n 0, 0, 0, 0, 0), (.getfield 37, 3, 2, 0, 0), (.ireturn, 0, 0, 0, 0)]
def cp_51_l : List (Nat × List mm_Row) := [(0, cp_51_r0)]
def cp_51 : mm_M := (3, ⟨"WiringContainer$InstanceTable", "destroyedCount", "()I"⟩, prog_5_method_4_code, 1, (some .int), cp_51_l)
-- 52: WiringContainer$InstanceTable.destroyedAt(I)I
def cp_52_r0 : List mm_Row := [(.iload_n 1, 0, 0, 0, 0), (.ifCond .lt 20, 1, 0, 0, 0), (.iload_n 1, 0, 0, 0, 0), (.aload_n 0, 0, 0, 0, 0), (.getfield 37, 3, 2, 0, 0), (.if_icmp .ge 12, 1, 0, 0, 0), (.aload_n 0, 0, 0, 0, 0), (.getfield 27, 3, 7, 0, 0), (.iload_n 1, 0, 0, 0, 0), (.iaload, 0, 0, 0, 0), (.goto 4, 2, 0, 0, 0)]
def cp_52_r1 : List mm_Row := [(.iconst 0, 0, 0, 0, 0), (.ireturn, 0, 0, 0, 0)]
def cp_52_r2 : List mm_Row := [(.ireturn, 0, 0, 0, 0)]
def cp_52_l : List (Nat × List mm_Row) := [(0, cp_52_r0), (21, cp_52_r1), (22, cp_52_r2)]
def cp_52 : mm_M := (3, ⟨"WiringContainer$InstanceTable", "destroyedAt", "(I)I"⟩, prog_5_method_5_code, 2, (some .int), cp_52_l)
-- 53: WiringContainer$InstanceTable.isLiving(I)Z
def cp_53_r0 : List mm_Row := [(.iload_n 1, 0, 0, 0, 0), (.iconst 1, 0, 0, 1, 0), (.if_icmp .lt 24, 1, 0, 0, 0), (.iload_n 1, 0, 0, 0, 0), (.aload_n 0, 0, 0, 0, 0), (.getfield 30, 3, 0, 0, 0), (.if_icmp .gt 16, 1, 0, 0, 0), (.aload_n 0, 0, 0, 0, 0), (.getfield 18, 3, 5, 0, 0), (.iload_n 1, 0, 0, 0, 0), (.baload, 0, 0, 0, 0), (.ifCond .eq 7, 1, 0, 0, 0), (.iconst 1, 0, 0, 1, 0), (.goto 4, 2, 0, 0, 0)]
def cp_53_r1 : List mm_Row := [(.iconst 0, 0, 0, 0, 0), (.ireturn, 0, 0, 0, 0)]
def cp_53_r2 : List mm_Row := [(.ireturn, 0, 0, 0, 0)]
def cp_53_l : List (Nat × List mm_Row) := [(0, cp_53_r0), (26, cp_53_r1), (27, cp_53_r2)]
def cp_53 : mm_M := (3, ⟨"WiringContainer$InstanceTable", "isLiving", "(I)Z"⟩, prog_5_method_6_code, 2, (some .boolean), cp_53_l)
-- 54: WiringContainer$InstanceTable.beanAt(I)I
def cp_54_r0 : List mm_Row := [(.aload_n 0, 0, 0, 0, 0), (.iload_n 1, 0, 0, 0, 0), (.invokevirtual 40, 53, 242, 0, 0), (.ifCond .eq 12, 1, 0, 0, 0), (.aload_n 0, 0, 0, 0, 0), (.getfield 9, 3, 3, 0, 0), (.iload_n 1, 0, 0, 0, 0), (.iaload, 0, 0, 0, 0), (.goto 5, 2, 0, 0, 0)]
def cp_54_r1 : List mm_Row := [(.bipush (-8), 0, 0, (-8), 0), (.ireturn, 0, 0, 0, 0)]
def cp_54_r2 : List mm_Row := [(.ireturn, 0, 0, 0, 0)]
def cp_54_l : List (Nat × List mm_Row) := [(0, cp_54_r0), (17, cp_54_r1), (19, cp_54_r2)]
def cp_54 : mm_M := (3, ⟨"WiringContainer$InstanceTable", "beanAt", "(I)I"⟩, prog_5_method_7_code, 2, (some .int), cp_54_l)
-- 55: WiringContainer$InstanceTable.ownerAt(I)I
def cp_55_r0 : List mm_Row := [(.aload_n 0, 0, 0, 0, 0), (.iload_n 1, 0, 0, 0, 0), (.invokevirtual 40, 53, 242, 0, 0), (.ifCond .eq 12, 1, 0, 0, 0), (.aload_n 0, 0, 0, 0, 0), (.getfield 15, 3, 4, 0, 0), (.iload_n 1, 0, 0, 0, 0), (.iaload, 0, 0, 0, 0), (.goto 5, 2, 0, 0, 0)]
def cp_55_r1 : List mm_Row := [(.bipush (-8), 0, 0, (-8), 0), (.ireturn, 0, 0, 0, 0)]
def cp_55_r2 : List mm_Row := [(.ireturn, 0, 0, 0, 0)]
def cp_55_l : List (Nat × List mm_Row) := [(0, cp_55_r0), (17, cp_55_r1), (19, cp_55_r2)]
def cp_55 : mm_M := (3, ⟨"WiringContainer$InstanceTable", "ownerAt", "(I)I"⟩, prog_5_method_8_code, 2, (some .int), cp_55_l)
-- 56: WiringContainer$InstanceTable.partAt(II)I
def cp_56_r0 : List mm_Row := [(.aload_n 0, 0, 0, 0, 0), (.iload_n 1, 0, 0, 0, 0), (.invokevirtual 40, 53, 242, 0, 0), (.ifCond .eq 16, 1, 0, 0, 0), (.iload_n 2, 0, 0, 0, 0), (.ifCond .lt 12, 1, 0, 0, 0), (.iload_n 2, 0, 0, 0, 0), (.iconst 3, 0, 0, 3, 0), (.if_icmp .ge 7, 1, 0, 0, 0), (.iconst 1, 0, 0, 1, 0), (.goto 4, 2, 0, 0, 0)]
def cp_56_r1 : List mm_Row := [(.iconst 0, 0, 0, 0, 0), (.istore_n 3, 0, 0, 0, 0), (.iload_n 3, 0, 0, 0, 0), (.ifCond .eq 14, 3, 0, 0, 0), (.aload_n 0, 0, 0, 0, 0), (.getfield 24, 3, 6, 0, 0), (.iload_n 2, 0, 0, 0, 0), (.aaload, 0, 0, 0, 0), (.iload_n 1, 0, 0, 0, 0), (.iaload, 0, 0, 0, 0), (.goto 5, 4, 0, 0, 0)]
def cp_56_r2 : List mm_Row := [(.istore_n 3, 0, 0, 0, 0), (.iload_n 3, 0, 0, 0, 0), (.ifCond .eq 14, 3, 0, 0, 0), (.aload_n 0, 0, 0, 0, 0), (.getfield 24, 3, 6, 0, 0), (.iload_n 2, 0, 0, 0, 0), (.aaload, 0, 0, 0, 0), (.iload_n 1, 0, 0, 0, 0), (.iaload, 0, 0, 0, 0), (.goto 5, 4, 0, 0, 0)]
def cp_56_r3 : List mm_Row := [(.bipush (-8), 0, 0, (-8), 0), (.ireturn, 0, 0, 0, 0)]
def cp_56_r4 : List mm_Row := [(.ireturn, 0, 0, 0, 0)]
def cp_56_l : List (Nat × List mm_Row) := [(0, cp_56_r0), (21, cp_56_r1), (22, cp_56_r2), (38, cp_56_r3), (40, cp_56_r4)]
def cp_56 : mm_M := (3, ⟨"WiringContainer$InstanceTable", "partAt", "(II)I"⟩, prog_5_method_9_code, 4, (some .int), cp_56_l)
-- 57: WiringContainer$InstanceTable.add(II)I
def cp_57_r0 : List mm_Row := [(.aload_n 0, 0, 0, 0, 0), (.getfield 30, 3, 0, 0, 0), (.sipush 200, 0, 0, 200, 0), (.if_icmp .lt 6, 1, 0, 0, 0), (.bipush (-2), 0, 0, (-2), 0), (.ireturn, 0, 0, 0, 0)]
def cp_57_r1 : List mm_Row := [(.aload_n 0, 0, 0, 0, 0), (.dup, 0, 0, 0, 0), (.getfield 30, 3, 0, 0, 0), (.iconst 1, 0, 0, 1, 0), (.iadd, 0, 0, 0, 0), (.putfield 30, 3, 0, 0, 0), (.aload_n 0, 0, 0, 0, 0), (.dup, 0, 0, 0, 0), (.getfield 34, 3, 1, 0, 0), (.iconst 1, 0, 0, 1, 0), (.iadd, 0, 0, 0, 0), (.putfield 34, 3, 1, 0, 0), (.aload_n 0, 0, 0, 0, 0), (.getfield 9, 3, 3, 0, 0), (.aload_n 0, 0, 0, 0, 0), (.getfield 30, 3, 0, 0, 0), (.iload_n 1, 0, 0, 0, 0), (.iastore, 0, 0, 0, 0), (.aload_n 0, 0, 0, 0, 0), (.getfield 15, 3, 4, 0, 0), (.aload_n 0, 0, 0, 0, 0), (.getfield 30, 3, 0, 0, 0), (.iload_n 2, 0, 0, 0, 0), (.iastore, 0, 0, 0, 0), (.aload_n 0, 0, 0, 0, 0), (.getfield 18, 3, 5, 0, 0), (.aload_n 0, 0, 0, 0, 0), (.getfield 30, 3, 0, 0, 0), (.iconst 1, 0, 0, 1, 0), (.bastore, 0, 0, 0, 0), (.aload_n 0, 0, 0, 0, 0), (.getfield 30, 3, 0, 0, 0), (.ireturn, 0, 0, 0, 0)]
def cp_57_l : List (Nat × List mm_Row) := [(0, cp_57_r0), (13, cp_57_r1)]
def cp_57 : mm_M := (3, ⟨"WiringContainer$InstanceTable", "add", "(II)I"⟩, prog_5_method_10_code, 3, (some .int), cp_57_l)
-- 58: WiringContainer$InstanceTable.setPart(III)V
def cp_58_r0 : List mm_Row := [(.aload_n 0, 0, 0, 0, 0), (.iload_n 1, 0, 0, 0, 0), (.invokevirtual 40, 53, 242, 0, 0), (.ifCond .eq 21, 1, 0, 0, 0), (.iload_n 2, 0, 0, 0, 0), (.ifCond .lt 17, 1, 0, 0, 0), (.iload_n 2, 0, 0, 0, 0), (.iconst 3, 0, 0, 3, 0), (.if_icmp .ge 12, 1, 0, 0, 0), (.aload_n 0, 0, 0, 0, 0), (.getfield 24, 3, 6, 0, 0), (.iload_n 2, 0, 0, 0, 0), (.aaload, 0, 0, 0, 0), (.iload_n 1, 0, 0, 0, 0), (.iload_n 3, 0, 0, 0, 0), (.iastore, 0, 0, 0, 0), (.return_, 0, 0, 0, 0)]
def cp_58_r1 : List mm_Row := [(.return_, 0, 0, 0, 0)]
def cp_58_l : List (Nat × List mm_Row) := [(0, cp_58_r0), (26, cp_58_r1)]
def cp_58 : mm_M := (3, ⟨"WiringContainer$InstanceTable", "setPart", "(III)V"⟩, prog_5_method_11_code, 4, none, cp_58_l)
-- 59: WiringContainer$InstanceTable.discard(II)V
def cp_59_r0 : List mm_Row := [(.iload_n 2, 0, 0, 0, 0), (.bipush 10, 0, 0, 10, 0), (.if_icmp .gt 21, 1, 0, 0, 0), (.aload_n 0, 0, 0, 0, 0), (.getfield 37, 3, 2, 0, 0), (.sipush 200, 0, 0, 200, 0), (.if_icmp .ge 11, 1, 0, 0, 0), (.aload_n 0, 0, 0, 0, 0), (.iload_n 1, 0, 0, 0, 0), (.invokevirtual 40, 53, 242, 0, 0), (.ifCond .ne 4, 2, 0, 0, 0), (.return_, 0, 0, 0, 0)]
def cp_59_r1 : List mm_Row := [(.return_, 0, 0, 0, 0)]
def cp_59_r2 : List mm_Row := [(.aload_n 0, 0, 0, 0, 0), (.getfield 18, 3, 5, 0, 0), (.iload_n 1, 0, 0, 0, 0), (.iconst 0, 0, 0, 0, 0), (.bastore, 0, 0, 0, 0), (.aload_n 0, 0, 0, 0, 0), (.dup, 0, 0, 0, 0), (.getfield 34, 3, 1, 0, 0), (.iconst 1, 0, 0, 1, 0), (.isub, 0, 0, 0, 0), (.putfield 34, 3, 1, 0, 0), (.aload_n 0, 0, 0, 0, 0), (.getfield 27, 3, 7, 0, 0), (.aload_n 0, 0, 0, 0, 0), (.getfield 37, 3, 2, 0, 0), (.iload_n 1, 0, 0, 0, 0), (.iastore, 0, 0, 0, 0), (.aload_n 0, 0, 0, 0, 0), (.dup, 0, 0, 0, 0), (.getfield 37, 3, 2, 0, 0), (.iconst 1, 0, 0, 1, 0), (.iadd, 0, 0, 0, 0), (.putfield 37, 3, 2, 0, 0), (.iconst 2, 0, 0, 2, 0), (.istore_n 3, 0, 0, 0, 0), (.iload_n 3, 0, 0, 0, 0), (.ifCond .lt 24, 4, 0, 0, 0), (.aload_n 0, 0, 0, 0, 0), (.aload_n 0, 0, 0, 0, 0), (.getfield 24, 3, 6, 0, 0), (.iload_n 3, 0, 0, 0, 0), (.aaload, 0, 0, 0, 0), (.iload_n 1, 0, 0, 0, 0), (.iaload, 0, 0, 0, 0), (.iload_n 2, 0, 0, 0, 0), (.iconst 1, 0, 0, 1, 0), (.iadd, 0, 0, 0, 0), (.invokevirtual 44, 59, 195, 0, 0), (.iinc 3 (-1), 0, 0, (-1), 0), (.goto (-22), 3, 0, 0, 0)]
def cp_59_r3 : List mm_Row := [(.iload_n 3, 0, 0, 0, 0), (.ifCond .lt 24, 4, 0, 0, 0), (.aload_n 0, 0, 0, 0, 0), (.aload_n 0, 0, 0, 0, 0), (.getfield 24, 3, 6, 0, 0), (.iload_n 3, 0, 0, 0, 0), (.aaload, 0, 0, 0, 0), (.iload_n 1, 0, 0, 0, 0), (.iaload, 0, 0, 0, 0), (.iload_n 2, 0, 0, 0, 0), (.iconst 1, 0, 0, 1, 0), (.iadd, 0, 0, 0, 0), (.invokevirtual 44, 59, 195, 0, 0), (.iinc 3 (-1), 0, 0, (-1), 0), (.goto (-22), 3, 0, 0, 0)]
def cp_59_r4 : List mm_Row := [(.return_, 0, 0, 0, 0)]
def cp_59_l : List (Nat × List mm_Row) := [(0, cp_59_r0), (24, cp_59_r1), (25, cp_59_r2), (64, cp_59_r3), (89, cp_59_r4)]
def cp_59 : mm_M := (3, ⟨"WiringContainer$InstanceTable", "discard", "(II)V"⟩, prog_5_method_12_code, 4, none, cp_59_l)
-- 60: WiringContainer$Plan.targetOf(II)I
def cp_60_r0 : List mm_Row := [(.aload_n 0, 0, 0, 0, 0), (.getfield 27, 4, 1, 0, 0), (.iload_n 1, 0, 0, 0, 0), (.iload_n 2, 0, 0, 0, 0), (.invokevirtual 31, 12, 51, 0, 0), (.ifCond .eq 14, 1, 0, 0, 0), (.aload_n 0, 0, 0, 0, 0), (.getfield 11, 4, 2, 0, 0), (.iload_n 2, 0, 0, 0, 0), (.aaload, 0, 0, 0, 0), (.iload_n 1, 0, 0, 0, 0), (.iaload, 0, 0, 0, 0), (.goto 5, 2, 0, 0, 0)]
def cp_60_r1 : List mm_Row := [(.bipush (-4), 0, 0, (-4), 0), (.ireturn, 0, 0, 0, 0)]
def cp_60_r2 : List mm_Row := [(.ireturn, 0, 0, 0, 0)]
def cp_60_l : List (Nat × List mm_Row) := [(0, cp_60_r0), (23, cp_60_r1), (25, cp_60_r2)]
def cp_60 : mm_M := (4, ⟨"WiringContainer$Plan", "targetOf", "(II)I"⟩, prog_6_method_2_code, 3, (some .int), cp_60_l)
-- 61: WiringContainer$Plan.costOf(I)I
def cp_61_r0 : List mm_Row := [(.aload_n 0, 0, 0, 0, 0), (.getfield 27, 4, 1, 0, 0), (.iload_n 1, 0, 0, 0, 0), (.invokevirtual 37, 1, 50, 0, 0), (.ifCond .eq 12, 1, 0, 0, 0), (.aload_n 0, 0, 0, 0, 0), (.getfield 20, 4, 4, 0, 0), (.iload_n 1, 0, 0, 0, 0), (.iaload, 0, 0, 0, 0), (.goto 4, 2, 0, 0, 0)]
def cp_61_r1 : List mm_Row := [(.iconst 0, 0, 0, 0, 0), (.ireturn, 0, 0, 0, 0)]
def cp_61_r2 : List mm_Row := [(.ireturn, 0, 0, 0, 0)]
def cp_61_l : List (Nat × List mm_Row) := [(0, cp_61_r0), (20, cp_61_r1), (21, cp_61_r2)]
def cp_61 : mm_M := (4, ⟨"WiringContainer$Plan", "costOf", "(I)I"⟩, prog_6_method_3_code, 2, (some .int), cp_61_l)
-- 62: WiringContainer$Plan.judge()I
def cp_62_r0 : List mm_Row := [(.iconst 0, 0, 0, 0, 0), (.istore_n 1, 0, 0, 0, 0), (.iconst 0, 0, 0, 0, 0), (.istore_n 2, 0, 0, 0, 0), (.iload_n 2, 0, 0, 0, 0), (.aload_n 0, 0, 0, 0, 0), (.getfield 27, 4, 1, 0, 0), (.invokevirtual 41, 2, 17, 0, 0), (.if_icmp .ge 69, 4, 0, 0, 0), (.aload_n 0, 0, 0, 0, 0), (.getfield 16, 4, 3, 0, 0), (.iload_n 2, 0, 0, 0, 0), (.iconst 0, 0, 0, 0, 0), (.iastore, 0, 0, 0, 0), (.aload_n 0, 0, 0, 0, 0), (.getfield 27, 4, 1, 0, 0), (.iload_n 2, 0, 0, 0, 0), (.invokevirtual 45, 18, 50, 0, 0), (.ifCond .eq 45, 3, 0, 0, 0), (.iload_n 1, 0, 0, 0, 0), (.aload_n 0, 0, 0, 0, 0), (.iload_n 2, 0, 0, 0, 0), (.invokevirtual 48, 64, 274, 0, 0), (.ior, 0, 0, 0, 0), (.istore_n 1, 0, 0, 0, 0), (.aload_n 0, 0, 0, 0, 0), (.getfield 27, 4, 1, 0, 0), (.iload_n 2, 0, 0, 0, 0), (.invokevirtual 52, 17, 50, 0, 0), (.ifCond .eq 21, 2, 0, 0, 0), (.aload_n 0, 0, 0, 0, 0), (.getfield 27, 4, 1, 0, 0), (.iload_n 2, 0, 0, 0, 0), (.invokevirtual 55, 7, 18, 0, 0), (.invokestatic 58, 65, 49, 0, 0), (.ifCond .eq 7, 2, 0, 0, 0), (.iload_n 1, 0, 0, 0, 0), (.iconst 1, 0, 0, 1, 0), (.ior, 0, 0, 0, 0), (.istore_n 1, 0, 0, 0, 0), (.aload_n 0, 0, 0, 0, 0), (.iload_n 2, 0, 0, 0, 0), (.invokevirtual 61, 66, 258, 0, 0), (.iinc 2 1, 0, 0, 1, 0), (.goto (-74), 1, 0, 0, 0)]
def cp_62_r1 : List mm_Row := [(.iload_n 2, 0, 0, 0, 0), (.aload_n 0, 0, 0, 0, 0), (.getfield 27, 4, 1, 0, 0), (.invokevirtual 41, 2, 17, 0, 0), (.if_icmp .ge 69, 4, 0, 0, 0), (.aload_n 0, 0, 0, 0, 0), (.getfield 16, 4, 3, 0, 0), (.iload_n 2, 0, 0, 0, 0), (.iconst 0, 0, 0, 0, 0), (.iastore, 0, 0, 0, 0), (.aload_n 0, 0, 0, 0, 0), (.getfield 27, 4, 1, 0, 0), (.iload_n 2, 0, 0, 0, 0), (.invokevirtual 45, 18, 50, 0, 0), (.ifCond .eq 45, 3, 0, 0, 0), (.iload_n 1, 0, 0, 0, 0), (.aload_n 0, 0, 0, 0, 0), (.iload_n 2, 0, 0, 0, 0), (.invokevirtual 48, 64, 274, 0, 0), (.ior, 0, 0, 0, 0), (.istore_n 1, 0, 0, 0, 0), (.aload_n 0, 0, 0, 0, 0), (.getfield 27, 4, 1, 0, 0), (.iload_n 2, 0, 0, 0, 0), (.invokevirtual 52, 17, 50, 0, 0), (.ifCond .eq 21, 2, 0, 0, 0), (.aload_n 0, 0, 0, 0, 0), (.getfield 27, 4, 1, 0, 0), (.iload_n 2, 0, 0, 0, 0), (.invokevirtual 55, 7, 18, 0, 0), (.invokestatic 58, 65, 49, 0, 0), (.ifCond .eq 7, 2, 0, 0, 0), (.iload_n 1, 0, 0, 0, 0), (.iconst 1, 0, 0, 1, 0), (.ior, 0, 0, 0, 0), (.istore_n 1, 0, 0, 0, 0), (.aload_n 0, 0, 0, 0, 0), (.iload_n 2, 0, 0, 0, 0), (.invokevirtual 61, 66, 258, 0, 0), (.iinc 2 1, 0, 0, 1, 0), (.goto (-74), 1, 0, 0, 0)]
def cp_62_r2 : List mm_Row := [(.aload_n 0, 0, 0, 0, 0), (.iload_n 2, 0, 0, 0, 0), (.invokevirtual 61, 66, 258, 0, 0), (.iinc 2 1, 0, 0, 1, 0), (.goto (-74), 1, 0, 0, 0)]
def cp_62_r3 : List mm_Row := [(.iinc 2 1, 0, 0, 1, 0), (.goto (-74), 1, 0, 0, 0)]
def cp_62_r4 : List mm_Row := [(.aload_n 0, 0, 0, 0, 0), (.invokevirtual 65, 67, 305, 0, 0), (.ifCond .eq 8, 5, 0, 0, 0), (.iload_n 1, 0, 0, 0, 0), (.bipush 16, 0, 0, 16, 0), (.ior, 0, 0, 0, 0), (.istore_n 1, 0, 0, 0, 0), (.aload_n 0, 0, 0, 0, 0), (.invokevirtual 69, 68, 305, 0, 0), (.ifCond .eq 8, 6, 0, 0, 0), (.iload_n 1, 0, 0, 0, 0), (.bipush 32, 0, 0, 32, 0), (.ior, 0, 0, 0, 0), (.istore_n 1, 0, 0, 0, 0), (.iload_n 1, 0, 0, 0, 0), (.ireturn, 0, 0, 0, 0)]
def cp_62_r5 : List mm_Row := [(.aload_n 0, 0, 0, 0, 0), (.invokevirtual 69, 68, 305, 0, 0), (.ifCond .eq 8, 6, 0, 0, 0), (.iload_n 1, 0, 0, 0, 0), (.bipush 32, 0, 0, 32, 0), (.ior, 0, 0, 0, 0), (.istore_n 1, 0, 0, 0, 0), (.iload_n 1, 0, 0, 0, 0), (.ireturn, 0, 0, 0, 0)]
def cp_62_r6 : List mm_Row := [(.iload_n 1, 0, 0, 0, 0), (.ireturn, 0, 0, 0, 0)]
def cp_62_l : List (Nat × List mm_Row) := [(0, cp_62_r0), (4, cp_62_r1), (70, cp_62_r2), (75, cp_62_r3), (81, cp_62_r4), (93, cp_62_r5), (105, cp_62_r6)]
def cp_62 : mm_M := (4, ⟨"WiringContainer$Plan", "judge", "()I"⟩, prog_6_method_4_code, 3, (some .int), cp_62_l)
-- 63: WiringContainer$Plan.weigh()V
def cp_63_r0 : List mm_Row := [(.iconst 0, 0, 0, 0, 0), (.istore_n 1, 0, 0, 0, 0), (.iload_n 1, 0, 0, 0, 0), (.aload_n 0, 0, 0, 0, 0), (.getfield 27, 4, 1, 0, 0), (.invokevirtual 41, 2, 17, 0, 0), (.if_icmp .ge 54, 6, 0, 0, 0), (.iconst 0, 0, 0, 0, 0), (.istore_n 2, 0, 0, 0, 0), (.iload_n 2, 0, 0, 0, 0), (.aload_n 0, 0, 0, 0, 0), (.getfield 27, 4, 1, 0, 0), (.invokevirtual 41, 2, 17, 0, 0), (.if_icmp .ge 35, 5, 0, 0, 0), (.aload_n 0, 0, 0, 0, 0), (.getfield 20, 4, 4, 0, 0), (.iload_n 2, 0, 0, 0, 0), (.aload_n 0, 0, 0, 0, 0), (.getfield 27, 4, 1, 0, 0), (.iload_n 2, 0, 0, 0, 0), (.invokevirtual 45, 18, 50, 0, 0), (.ifCond .eq 11, 3, 0, 0, 0), (.aload_n 0, 0, 0, 0, 0), (.iload_n 2, 0, 0, 0, 0), (.invokevirtual 72, 69, 274, 0, 0), (.goto 4, 4, 0, 0, 0)]
def cp_63_r1 : List mm_Row := [(.iload_n 1, 0, 0, 0, 0), (.aload_n 0, 0, 0, 0, 0), (.getfield 27, 4, 1, 0, 0), (.invokevirtual 41, 2, 17, 0, 0), (.if_icmp .ge 54, 6, 0, 0, 0), (.iconst 0, 0, 0, 0, 0), (.istore_n 2, 0, 0, 0, 0), (.iload_n 2, 0, 0, 0, 0), (.aload_n 0, 0, 0, 0, 0), (.getfield 27, 4, 1, 0, 0), (.invokevirtual 41, 2, 17, 0, 0), (.if_icmp .ge 35, 5, 0, 0, 0), (.aload_n 0, 0, 0, 0, 0), (.getfield 20, 4, 4, 0, 0), (.iload_n 2, 0, 0, 0, 0), (.aload_n 0, 0, 0, 0, 0), (.getfield 27, 4, 1, 0, 0), (.iload_n 2, 0, 0, 0, 0), (.invokevirtual 45, 18, 50, 0, 0), (.ifCond .eq 11, 3, 0, 0, 0), (.aload_n 0, 0, 0, 0, 0), (.iload_n 2, 0, 0, 0, 0), (.invokevirtual 72, 69, 274, 0, 0), (.goto 4, 4, 0, 0, 0)]
def cp_63_r2 : List mm_Row := [(.iload_n 2, 0, 0, 0, 0), (.aload_n 0, 0, 0, 0, 0), (.getfield 27, 4, 1, 0, 0), (.invokevirtual 41, 2, 17, 0, 0), (.if_icmp .ge 35, 5, 0, 0, 0), (.aload_n 0, 0, 0, 0, 0), (.getfield 20, 4, 4, 0, 0), (.iload_n 2, 0, 0, 0, 0), (.aload_n 0, 0, 0, 0, 0), (.getfield 27, 4, 1, 0, 0), (.iload_n 2, 0, 0, 0, 0), (.invokevirtual 45, 18, 50, 0, 0), (.ifCond .eq 11, 3, 0, 0, 0), (.aload_n 0, 0, 0, 0, 0), (.iload_n 2, 0, 0, 0, 0), (.invokevirtual 72, 69, 274, 0, 0), (.goto 4, 4, 0, 0, 0)]
def cp_63_r3 : List mm_Row := [(.iconst 0, 0, 0, 0, 0), (.iastore, 0, 0, 0, 0), (.iinc 2 1, 0, 0, 1, 0), (.goto (-40), 2, 0, 0, 0)]
def cp_63_r4 : List mm_Row := [(.iastore, 0, 0, 0, 0), (.iinc 2 1, 0, 0, 1, 0), (.goto (-40), 2, 0, 0, 0)]
def cp_63_r5 : List mm_Row := [(.iinc 1 1, 0, 0, 1, 0), (.goto (-59), 1, 0, 0, 0)]
def cp_63_r6 : List mm_Row := [(.return_, 0, 0, 0, 0)]
def cp_63_l : List (Nat × List mm_Row) := [(0, cp_63_r0), (2, cp_63_r1), (15, cp_63_r2), (50, cp_63_r3), (51, cp_63_r4), (58, cp_63_r5), (64, cp_63_r6)]
def cp_63 : mm_M := (4, ⟨"WiringContainer$Plan", "weigh", "()V"⟩, prog_6_method_5_code, 3, none, cp_63_l)
-- 64: WiringContainer$Plan.judgePoints(I)I
def cp_64_r0 : List mm_Row := [(.iconst 0, 0, 0, 0, 0), (.istore_n 2, 0, 0, 0, 0), (.iconst 0, 0, 0, 0, 0), (.istore_n 3, 0, 0, 0, 0), (.iload_n 3, 0, 0, 0, 0), (.aload_n 0, 0, 0, 0, 0), (.getfield 27, 4, 1, 0, 0), (.iload_n 1, 0, 0, 0, 0), (.invokevirtual 75, 11, 18, 0, 0), (.if_icmp .ge 107, 5, 0, 0, 0), (.aload_n 0, 0, 0, 0, 0), (.getfield 27, 4, 1, 0, 0), (.iload_n 1, 0, 0, 0, 0), (.iload_n 3, 0, 0, 0, 0), (.invokevirtual 78, 13, 19, 0, 0), (.istore 4, 0, 0, 0, 0), (.aload_n 0, 0, 0, 0, 0), (.getfield 27, 4, 1, 0, 0), (.iload 4, 0, 0, 0, 0), (.aload_n 0, 0, 0, 0, 0), (.getfield 27, 4, 1, 0, 0), (.iload_n 1, 0, 0, 0, 0), (.iload_n 3, 0, 0, 0, 0), (.invokevirtual 82, 14, 19, 0, 0), (.invokevirtual 85, 19, 19, 0, 0), (.istore 5, 0, 0, 0, 0), (.aload_n 0, 0, 0, 0, 0), (.getfield 11, 4, 2, 0, 0), (.iload_n 3, 0, 0, 0, 0), (.aaload, 0, 0, 0, 0), (.iload_n 1, 0, 0, 0, 0), (.iload 5, 0, 0, 0, 0), (.iastore, 0, 0, 0, 0), (.iload 5, 0, 0, 0, 0), (.bipush (-4), 0, 0, (-4), 0), (.if_icmp .ne 10, 2, 0, 0, 0), (.iload_n 2, 0, 0, 0, 0), (.iconst 2, 0, 0, 2, 0), (.ior, 0, 0, 0, 0), (.istore_n 2, 0, 0, 0, 0), (.goto 46, 4, 0, 0, 0)]
def cp_64_r1 : List mm_Row := [(.iload_n 3, 0, 0, 0, 0), (.aload_n 0, 0, 0, 0, 0), (.getfield 27, 4, 1, 0, 0), (.iload_n 1, 0, 0, 0, 0), (.invokevirtual 75, 11, 18, 0, 0), (.if_icmp .ge 107, 5, 0, 0, 0), (.aload_n 0, 0, 0, 0, 0), (.getfield 27, 4, 1, 0, 0), (.iload_n 1, 0, 0, 0, 0), (.iload_n 3, 0, 0, 0, 0), (.invokevirtual 78, 13, 19, 0, 0), (.istore 4, 0, 0, 0, 0), (.aload_n 0, 0, 0, 0, 0), (.getfield 27, 4, 1, 0, 0), (.iload 4, 0, 0, 0, 0), (.aload_n 0, 0, 0, 0, 0), (.getfield 27, 4, 1, 0, 0), (.iload_n 1, 0, 0, 0, 0), (.iload_n 3, 0, 0, 0, 0), (.invokevirtual 82, 14, 19, 0, 0), (.invokevirtual 85, 19, 19, 0, 0), (.istore 5, 0, 0, 0, 0), (.aload_n 0, 0, 0, 0, 0), (.getfield 11, 4, 2, 0, 0), (.iload_n 3, 0, 0, 0, 0), (.aaload, 0, 0, 0, 0), (.iload_n 1, 0, 0, 0, 0), (.iload 5, 0, 0, 0, 0), (.iastore, 0, 0, 0, 0), (.iload 5, 0, 0, 0, 0), (.bipush (-4), 0, 0, (-4), 0), (.if_icmp .ne 10, 2, 0, 0, 0), (.iload_n 2, 0, 0, 0, 0), (.iconst 2, 0, 0, 2, 0), (.ior, 0, 0, 0, 0), (.istore_n 2, 0, 0, 0, 0), (.goto 46, 4, 0, 0, 0)]
def cp_64_r2 : List mm_Row := [(.iload 5, 0, 0, 0, 0), (.bipush (-5), 0, 0, (-5), 0), (.if_icmp .ne 10, 3, 0, 0, 0), (.iload_n 2, 0, 0, 0, 0), (.iconst 4, 0, 0, 4, 0), (.ior, 0, 0, 0, 0), (.istore_n 2, 0, 0, 0, 0), (.goto 32, 4, 0, 0, 0)]
def cp_64_r3 : List mm_Row := [(.aload_n 0, 0, 0, 0, 0), (.getfield 27, 4, 1, 0, 0), (.iload 5, 0, 0, 0, 0), (.invokevirtual 52, 17, 50, 0, 0), (.ifCond .eq 20, 4, 0, 0, 0), (.aload_n 0, 0, 0, 0, 0), (.getfield 23, 4, 0, 0, 0), (.iload 4, 0, 0, 0, 0), (.invokevirtual 88, 26, 114, 0, 0), (.ifCond .eq 8, 4, 0, 0, 0), (.iload_n 2, 0, 0, 0, 0), (.bipush 8, 0, 0, 8, 0), (.ior, 0, 0, 0, 0), (.istore_n 2, 0, 0, 0, 0), (.iinc 3 1, 0, 0, 1, 0), (.goto (-113), 1, 0, 0, 0)]
def cp_64_r4 : List mm_Row := [(.iinc 3 1, 0, 0, 1, 0), (.goto (-113), 1, 0, 0, 0)]
def cp_64_r5 : List mm_Row := [(.iload_n 2, 0, 0, 0, 0), (.ireturn, 0, 0, 0, 0)]
def cp_64_l : List (Nat × List mm_Row) := [(0, cp_64_r0), (4, cp_64_r1), (71, cp_64_r2), (85, cp_64_r3), (114, cp_64_r4), (120, cp_64_r5)]
def cp_64 : mm_M := (4, ⟨"WiringContainer$Plan", "judgePoints", "(I)I"⟩, prog_6_method_6_code, 6, (some .int), cp_64_l)
-- 65: WiringContainer$Plan.containsVariable(I)Z
def cp_65_r0 : List mm_Row := [(.iconst 1, 0, 0, 1, 0), (.istore_n 1, 0, 0, 0, 0), (.iload_n 1, 0, 0, 0, 0), (.iconst 4, 0, 0, 4, 0), (.if_icmp .ge 24, 3, 0, 0, 0), (.iload_n 0, 0, 0, 0, 0), (.iload_n 1, 0, 0, 0, 0), (.iconst 5, 0, 0, 5, 0), (.imul, 0, 0, 0, 0), (.ishr, 0, 0, 0, 0), (.bipush 31, 0, 0, 31, 0), (.iand, 0, 0, 0, 0), (.bipush 31, 0, 0, 31, 0), (.if_icmp .ne 5, 2, 0, 0, 0), (.iconst 1, 0, 0, 1, 0), (.ireturn, 0, 0, 0, 0)]
def cp_65_r1 : List mm_Row := [(.iload_n 1, 0, 0, 0, 0), (.iconst 4, 0, 0, 4, 0), (.if_icmp .ge 24, 3, 0, 0, 0), (.iload_n 0, 0, 0, 0, 0), (.iload_n 1, 0, 0, 0, 0), (.iconst 5, 0, 0, 5, 0), (.imul, 0, 0, 0, 0), (.ishr, 0, 0, 0, 0), (.bipush 31, 0, 0, 31, 0), (.iand, 0, 0, 0, 0), (.bipush 31, 0, 0, 31, 0), (.if_icmp .ne 5, 2, 0, 0, 0), (.iconst 1, 0, 0, 1, 0), (.ireturn, 0, 0, 0, 0)]
def cp_65_r2 : List mm_Row := [(.iinc 1 1, 0, 0, 1, 0), (.goto (-23), 1, 0, 0, 0)]
def cp_65_r3 : List mm_Row := [(.iconst 0, 0, 0, 0, 0), (.ireturn, 0, 0, 0, 0)]
def cp_65_l : List (Nat × List mm_Row) := [(0, cp_65_r0), (2, cp_65_r1), (22, cp_65_r2), (28, cp_65_r3)]
def cp_65 : mm_M := (4, ⟨"WiringContainer$Plan", "containsVariable", "(I)Z"⟩, prog_6_method_7_code, 2, (some .boolean), cp_65_l)
-- 66: WiringContainer$Plan.noteNeeds(I)V
def cp_66_r0 : List mm_Row := [(.aload_n 0, 0, 0, 0, 0), (.getfield 27, 4, 1, 0, 0), (.iload_n 1, 0, 0, 0, 0), (.invokevirtual 93, 10, 18, 0, 0), (.istore_n 2, 0, 0, 0, 0), (.aload_n 0, 0, 0, 0, 0), (.getfield 27, 4, 1, 0, 0), (.iload_n 2, 0, 0, 0, 0), (.invokevirtual 37, 1, 50, 0, 0), (.ifCond .eq 15, 1, 0, 0, 0), (.aload_n 0, 0, 0, 0, 0), (.getfield 16, 4, 3, 0, 0), (.iload_n 1, 0, 0, 0, 0), (.dup2, 0, 0, 0, 0), (.iaload, 0, 0, 0, 0), (.iconst 1, 0, 0, 1, 0), (.iload_n 2, 0, 0, 0, 0), (.ishl, 0, 0, 0, 0), (.ior, 0, 0, 0, 0), (.iastore, 0, 0, 0, 0), (.iconst 0, 0, 0, 0, 0), (.istore_n 3, 0, 0, 0, 0), (.iload_n 3, 0, 0, 0, 0), (.aload_n 0, 0, 0, 0, 0), (.getfield 27, 4, 1, 0, 0), (.iload_n 1, 0, 0, 0, 0), (.invokevirtual 75, 11, 18, 0, 0), (.if_icmp .ge 44, 4, 0, 0, 0), (.aload_n 0, 0, 0, 0, 0), (.getfield 11, 4, 2, 0, 0), (.iload_n 3, 0, 0, 0, 0), (.aaload, 0, 0, 0, 0), (.iload_n 1, 0, 0, 0, 0), (.iaload, 0, 0, 0, 0), (.istore 4, 0, 0, 0, 0), (.aload_n 0, 0, 0, 0, 0), (.getfield 27, 4, 1, 0, 0), (.iload 4, 0, 0, 0, 0), (.invokevirtual 96, 16, 50, 0, 0), (.ifCond .eq 16, 3, 0, 0, 0), (.aload_n 0, 0, 0, 0, 0), (.getfield 16, 4, 3, 0, 0), (.iload_n 1, 0, 0, 0, 0), (.dup2, 0, 0, 0, 0), (.iaload, 0, 0, 0, 0), (.iconst 1, 0, 0, 1, 0), (.iload 4, 0, 0, 0, 0), (.ishl, 0, 0, 0, 0), (.ior, 0, 0, 0, 0), (.iastore, 0, 0, 0, 0), (.iinc 3 1, 0, 0, 1, 0), (.goto (-50), 2, 0, 0, 0)]
def cp_66_r1 : List mm_Row := [(.iconst 0, 0, 0, 0, 0), (.istore_n 3, 0, 0, 0, 0), (.iload_n 3, 0, 0, 0, 0), (.aload_n 0, 0, 0, 0, 0), (.getfield 27, 4, 1, 0, 0), (.iload_n 1, 0, 0, 0, 0), (.invokevirtual 75, 11, 18, 0, 0), (.if_icmp .ge 44, 4, 0, 0, 0), (.aload_n 0, 0, 0, 0, 0), (.getfield 11, 4, 2, 0, 0), (.iload_n 3, 0, 0, 0, 0), (.aaload, 0, 0, 0, 0), (.iload_n 1, 0, 0, 0, 0), (.iaload, 0, 0, 0, 0), (.istore 4, 0, 0, 0, 0), (.aload_n 0, 0, 0, 0, 0), (.getfield 27, 4, 1, 0, 0), (.iload 4, 0, 0, 0, 0), (.invokevirtual 96, 16, 50, 0, 0), (.ifCond .eq 16, 3, 0, 0, 0), (.aload_n 0, 0, 0, 0, 0), (.getfield 16, 4, 3, 0, 0), (.iload_n 1, 0, 0, 0, 0), (.dup2, 0, 0, 0, 0), (.iaload, 0, 0, 0, 0), (.iconst 1, 0, 0, 1, 0), (.iload 4, 0, 0, 0, 0), (.ishl, 0, 0, 0, 0), (.ior, 0, 0, 0, 0), (.iastore, 0, 0, 0, 0), (.iinc 3 1, 0, 0, 1, 0), (.goto (-50), 2, 0, 0, 0)]
def cp_66_r2 : List mm_Row := [(.iload_n 3, 0, 0, 0, 0), (.aload_n 0, 0, 0, 0, 0), (.getfield 27, 4, 1, 0, 0), (.iload_n 1, 0, 0, 0, 0), (.invokevirtual 75, 11, 18, 0, 0), (.if_icmp .ge 44, 4, 0, 0, 0), (.aload_n 0, 0, 0, 0, 0), (.getfield 11, 4, 2, 0, 0), (.iload_n 3, 0, 0, 0, 0), (.aaload, 0, 0, 0, 0), (.iload_n 1, 0, 0, 0, 0), (.iaload, 0, 0, 0, 0), (.istore 4, 0, 0, 0, 0), (.aload_n 0, 0, 0, 0, 0), (.getfield 27, 4, 1, 0, 0), (.iload 4, 0, 0, 0, 0), (.invokevirtual 96, 16, 50, 0, 0), (.ifCond .eq 16, 3, 0, 0, 0), (.aload_n 0, 0, 0, 0, 0), (.getfield 16, 4, 3, 0, 0), (.iload_n 1, 0, 0, 0, 0), (.dup2, 0, 0, 0, 0), (.iaload, 0, 0, 0, 0), (.iconst 1, 0, 0, 1, 0), (.iload 4, 0, 0, 0, 0), (.ishl, 0, 0, 0, 0), (.ior, 0, 0, 0, 0), (.iastore, 0, 0, 0, 0), (.iinc 3 1, 0, 0, 1, 0), (.goto (-50), 2, 0, 0, 0)]
def cp_66_r3 : List mm_Row := [(.iinc 3 1, 0, 0, 1, 0), (.goto (-50), 2, 0, 0, 0)]
def cp_66_r4 : List mm_Row := [(.return_, 0, 0, 0, 0)]
def cp_66_l : List (Nat × List mm_Row) := [(0, cp_66_r0), (32, cp_66_r1), (34, cp_66_r2), (81, cp_66_r3), (87, cp_66_r4)]
def cp_66 : mm_M := (4, ⟨"WiringContainer$Plan", "noteNeeds", "(I)V"⟩, prog_6_method_8_code, 5, none, cp_66_l)
-- 67: WiringContainer$Plan.someNeedsItself()Z
def cp_67_r0 : List mm_Row := [(.iconst 0, 0, 0, 0, 0), (.istore_n 1, 0, 0, 0, 0), (.iload_n 1, 0, 0, 0, 0), (.aload_n 0, 0, 0, 0, 0), (.getfield 27, 4, 1, 0, 0), (.invokevirtual 41, 2, 17, 0, 0), (.if_icmp .ge 57, 5, 0, 0, 0), (.iconst 0, 0, 0, 0, 0), (.istore_n 2, 0, 0, 0, 0), (.iload_n 2, 0, 0, 0, 0), (.aload_n 0, 0, 0, 0, 0), (.getfield 27, 4, 1, 0, 0), (.invokevirtual 41, 2, 17, 0, 0), (.if_icmp .ge 38, 4, 0, 0, 0), (.aload_n 0, 0, 0, 0, 0), (.getfield 16, 4, 3, 0, 0), (.iload_n 2, 0, 0, 0, 0), (.iaload, 0, 0, 0, 0), (.iload_n 1, 0, 0, 0, 0), (.ishr, 0, 0, 0, 0), (.iconst 1, 0, 0, 1, 0), (.iand, 0, 0, 0, 0), (.iconst 1, 0, 0, 1, 0), (.if_icmp .ne 18, 3, 0, 0, 0), (.aload_n 0, 0, 0, 0, 0), (.getfield 16, 4, 3, 0, 0), (.iload_n 2, 0, 0, 0, 0), (.dup2, 0, 0, 0, 0), (.iaload, 0, 0, 0, 0), (.aload_n 0, 0, 0, 0, 0), (.getfield 16, 4, 3, 0, 0), (.iload_n 1, 0, 0, 0, 0), (.iaload, 0, 0, 0, 0), (.ior, 0, 0, 0, 0), (.iastore, 0, 0, 0, 0), (.iinc 2 1, 0, 0, 1, 0), (.goto (-43), 2, 0, 0, 0)]
def cp_67_r1 : List mm_Row := [(.iload_n 1, 0, 0, 0, 0), (.aload_n 0, 0, 0, 0, 0), (.getfield 27, 4, 1, 0, 0), (.invokevirtual 41, 2, 17, 0, 0), (.if_icmp .ge 57, 5, 0, 0, 0), (.iconst 0, 0, 0, 0, 0), (.istore_n 2, 0, 0, 0, 0), (.iload_n 2, 0, 0, 0, 0), (.aload_n 0, 0, 0, 0, 0), (.getfield 27, 4, 1, 0, 0), (.invokevirtual 41, 2, 17, 0, 0), (.if_icmp .ge 38, 4, 0, 0, 0), (.aload_n 0, 0, 0, 0, 0), (.getfield 16, 4, 3, 0, 0), (.iload_n 2, 0, 0, 0, 0), (.iaload, 0, 0, 0, 0), (.iload_n 1, 0, 0, 0, 0), (.ishr, 0, 0, 0, 0), (.iconst 1, 0, 0, 1, 0), (.iand, 0, 0, 0, 0), (.iconst 1, 0, 0, 1, 0), (.if_icmp .ne 18, 3, 0, 0, 0), (.aload_n 0, 0, 0, 0, 0), (.getfield 16, 4, 3, 0, 0), (.iload_n 2, 0, 0, 0, 0), (.dup2, 0, 0, 0, 0), (.iaload, 0, 0, 0, 0), (.aload_n 0, 0, 0, 0, 0), (.getfield 16, 4, 3, 0, 0), (.iload_n 1, 0, 0, 0, 0), (.iaload, 0, 0, 0, 0), (.ior, 0, 0, 0, 0), (.iastore, 0, 0, 0, 0), (.iinc 2 1, 0, 0, 1, 0), (.goto (-43), 2, 0, 0, 0)]
def cp_67_r2 : List mm_Row := [(.iload_n 2, 0, 0, 0, 0), (.aload_n 0, 0, 0, 0, 0), (.getfield 27, 4, 1, 0, 0), (.invokevirtual 41, 2, 17, 0, 0), (.if_icmp .ge 38, 4, 0, 0, 0), (.aload_n 0, 0, 0, 0, 0), (.getfield 16, 4, 3, 0, 0), (.iload_n 2, 0, 0, 0, 0), (.iaload, 0, 0, 0, 0), (.iload_n 1, 0, 0, 0, 0), (.ishr, 0, 0, 0, 0), (.iconst 1, 0, 0, 1, 0), (.iand, 0, 0, 0, 0), (.iconst 1, 0, 0, 1, 0), (.if_icmp .ne 18, 3, 0, 0, 0), (.aload_n 0, 0, 0, 0, 0), (.getfield 16, 4, 3, 0, 0), (.iload_n 2, 0, 0, 0, 0), (.dup2, 0, 0, 0, 0), (.iaload, 0, 0, 0, 0), (.aload_n 0, 0, 0, 0, 0), (.getfield 16, 4, 3, 0, 0), (.iload_n 1, 0, 0, 0, 0), (.iaload, 0, 0, 0, 0), (.ior, 0, 0, 0, 0), (.iastore, 0, 0, 0, 0), (.iinc 2 1, 0, 0, 1, 0), (.goto (-43), 2, 0, 0, 0)]
def cp_67_r3 : List mm_Row := [(.iinc 2 1, 0, 0, 1, 0), (.goto (-43), 2, 0, 0, 0)]
def cp_67_r4 : List mm_Row := [(.iinc 1 1, 0, 0, 1, 0), (.goto (-62), 1, 0, 0, 0)]
def cp_67_r5 : List mm_Row := [(.iconst 0, 0, 0, 0, 0), (.istore_n 1, 0, 0, 0, 0), (.iload_n 1, 0, 0, 0, 0), (.aload_n 0, 0, 0, 0, 0), (.getfield 27, 4, 1, 0, 0), (.invokevirtual 41, 2, 17, 0, 0), (.if_icmp .ge 25, 8, 0, 0, 0), (.aload_n 0, 0, 0, 0, 0), (.getfield 16, 4, 3, 0, 0), (.iload_n 1, 0, 0, 0, 0), (.iaload, 0, 0, 0, 0), (.iload_n 1, 0, 0, 0, 0), (.ishr, 0, 0, 0, 0), (.iconst 1, 0, 0, 1, 0), (.iand, 0, 0, 0, 0), (.iconst 1, 0, 0, 1, 0), (.if_icmp .ne 5, 7, 0, 0, 0), (.iconst 1, 0, 0, 1, 0), (.ireturn, 0, 0, 0, 0)]
def cp_67_r6 : List mm_Row := [(.iload_n 1, 0, 0, 0, 0), (.aload_n 0, 0, 0, 0, 0), (.getfield 27, 4, 1, 0, 0), (.invokevirtual 41, 2, 17, 0, 0), (.if_icmp .ge 25, 8, 0, 0, 0), (.aload_n 0, 0, 0, 0, 0), (.getfield 16, 4, 3, 0, 0), (.iload_n 1, 0, 0, 0, 0), (.iaload, 0, 0, 0, 0), (.iload_n 1, 0, 0, 0, 0), (.ishr, 0, 0, 0, 0), (.iconst 1, 0, 0, 1, 0), (.iand, 0, 0, 0, 0), (.iconst 1, 0, 0, 1, 0), (.if_icmp .ne 5, 7, 0, 0, 0), (.iconst 1, 0, 0, 1, 0), (.ireturn, 0, 0, 0, 0)]
def cp_67_r7 : List mm_Row := [(.iinc 1 1, 0, 0, 1, 0), (.goto (-30), 6, 0, 0, 0)]
def cp_67_r8 : List mm_Row := [(.iconst 0, 0, 0, 0, 0), (.ireturn, 0, 0, 0, 0)]
def cp_67_l : List (Nat × List mm_Row) := [(0, cp_67_r0), (2, cp_67_r1), (15, cp_67_r2), (55, cp_67_r3), (61, cp_67_r4), (67, cp_67_r5), (69, cp_67_r6), (96, cp_67_r7), (102, cp_67_r8)]
def cp_67 : mm_M := (4, ⟨"WiringContainer$Plan", "someNeedsItself", "()Z"⟩, prog_6_method_9_code, 3, (some .boolean), cp_67_l)
-- 68: WiringContainer$Plan.someNameIsShared()Z
def cp_68_r0 : List mm_Row := [(.iconst 1, 0, 0, 1, 0), (.istore_n 1, 0, 0, 0, 0), (.iload_n 1, 0, 0, 0, 0), (.bipush 7, 0, 0, 7, 0), (.if_icmp .gt 76, 6, 0, 0, 0), (.iconst 0, 0, 0, 0, 0), (.istore_n 2, 0, 0, 0, 0), (.iconst 0, 0, 0, 0, 0), (.istore_n 3, 0, 0, 0, 0), (.iload_n 3, 0, 0, 0, 0), (.aload_n 0, 0, 0, 0, 0), (.getfield 27, 4, 1, 0, 0), (.invokevirtual 41, 2, 17, 0, 0), (.if_icmp .ge 38, 4, 0, 0, 0), (.aload_n 0, 0, 0, 0, 0), (.getfield 27, 4, 1, 0, 0), (.iload_n 3, 0, 0, 0, 0), (.invokevirtual 45, 18, 50, 0, 0), (.ifCond .eq 21, 3, 0, 0, 0), (.aload_n 0, 0, 0, 0, 0), (.getfield 27, 4, 1, 0, 0), (.iload_n 3, 0, 0, 0, 0), (.invokevirtual 99, 8, 18, 0, 0), (.iload_n 1, 0, 0, 0, 0), (.if_icmp .ne 9, 3, 0, 0, 0), (.iload_n 2, 0, 0, 0, 0), (.iconst 1, 0, 0, 1, 0), (.iload_n 3, 0, 0, 0, 0), (.ishl, 0, 0, 0, 0), (.ior, 0, 0, 0, 0), (.istore_n 2, 0, 0, 0, 0), (.iinc 3 1, 0, 0, 1, 0), (.goto (-43), 2, 0, 0, 0)]
def cp_68_r1 : List mm_Row := [(.iload_n 1, 0, 0, 0, 0), (.bipush 7, 0, 0, 7, 0), (.if_icmp .gt 76, 6, 0, 0, 0), (.iconst 0, 0, 0, 0, 0), (.istore_n 2, 0, 0, 0, 0), (.iconst 0, 0, 0, 0, 0), (.istore_n 3, 0, 0, 0, 0), (.iload_n 3, 0, 0, 0, 0), (.aload_n 0, 0, 0, 0, 0), (.getfield 27, 4, 1, 0, 0), (.invokevirtual 41, 2, 17, 0, 0), (.if_icmp .ge 38, 4, 0, 0, 0), (.aload_n 0, 0, 0, 0, 0), (.getfield 27, 4, 1, 0, 0), (.iload_n 3, 0, 0, 0, 0), (.invokevirtual 45, 18, 50, 0, 0), (.ifCond .eq 21, 3, 0, 0, 0), (.aload_n 0, 0, 0, 0, 0), (.getfield 27, 4, 1, 0, 0), (.iload_n 3, 0, 0, 0, 0), (.invokevirtual 99, 8, 18, 0, 0), (.iload_n 1, 0, 0, 0, 0), (.if_icmp .ne 9, 3, 0, 0, 0), (.iload_n 2, 0, 0, 0, 0), (.iconst 1, 0, 0, 1, 0), (.iload_n 3, 0, 0, 0, 0), (.ishl, 0, 0, 0, 0), (.ior, 0, 0, 0, 0), (.istore_n 2, 0, 0, 0, 0), (.iinc 3 1, 0, 0, 1, 0), (.goto (-43), 2, 0, 0, 0)]
def cp_68_r2 : List mm_Row := [(.iload_n 3, 0, 0, 0, 0), (.aload_n 0, 0, 0, 0, 0), (.getfield 27, 4, 1, 0, 0), (.invokevirtual 41, 2, 17, 0, 0), (.if_icmp .ge 38, 4, 0, 0, 0), (.aload_n 0, 0, 0, 0, 0), (.getfield 27, 4, 1, 0, 0), (.iload_n 3, 0, 0, 0, 0), (.invokevirtual 45, 18, 50, 0, 0), (.ifCond .eq 21, 3, 0, 0, 0), (.aload_n 0, 0, 0, 0, 0), (.getfield 27, 4, 1, 0, 0), (.iload_n 3, 0, 0, 0, 0), (.invokevirtual 99, 8, 18, 0, 0), (.iload_n 1, 0, 0, 0, 0), (.if_icmp .ne 9, 3, 0, 0, 0), (.iload_n 2, 0, 0, 0, 0), (.iconst 1, 0, 0, 1, 0), (.iload_n 3, 0, 0, 0, 0), (.ishl, 0, 0, 0, 0), (.ior, 0, 0, 0, 0), (.istore_n 2, 0, 0, 0, 0), (.iinc 3 1, 0, 0, 1, 0), (.goto (-43), 2, 0, 0, 0)]
def cp_68_r3 : List mm_Row := [(.iinc 3 1, 0, 0, 1, 0), (.goto (-43), 2, 0, 0, 0)]
def cp_68_r4 : List mm_Row := [(.aload_n 0, 0, 0, 0, 0), (.getfield 27, 4, 1, 0, 0), (.iload_n 2, 0, 0, 0, 0), (.invokevirtual 102, 21, 18, 0, 0), (.invokestatic 105, 100, 17, 0, 0), (.iconst 1, 0, 0, 1, 0), (.if_icmp .le 5, 5, 0, 0, 0), (.iconst 1, 0, 0, 1, 0), (.ireturn, 0, 0, 0, 0)]
def cp_68_r5 : List mm_Row := [(.iinc 1 1, 0, 0, 1, 0), (.goto (-76), 1, 0, 0, 0)]
def cp_68_r6 : List mm_Row := [(.iconst 0, 0, 0, 0, 0), (.ireturn, 0, 0, 0, 0)]
def cp_68_l : List (Nat × List mm_Row) := [(0, cp_68_r0), (2, cp_68_r1), (12, cp_68_r2), (52, cp_68_r3), (58, cp_68_r4), (75, cp_68_r5), (81, cp_68_r6)]
def cp_68 : mm_M := (4, ⟨"WiringContainer$Plan", "someNameIsShared", "()Z"⟩, prog_6_method_10_code, 4, (some .boolean), cp_68_l)
-- 69: WiringContainer$Plan.costOverNeeds(I)I
def cp_69_r0 : List mm_Row := [(.iconst 1, 0, 0, 1, 0), (.aload_n 0, 0, 0, 0, 0), (.aload_n 0, 0, 0, 0, 0), (.getfield 27, 4, 1, 0, 0), (.iload_n 1, 0, 0, 0, 0), (.invokevirtual 93, 10, 18, 0, 0), (.invokevirtual 110, 61, 274, 0, 0), (.iadd, 0, 0, 0, 0), (.istore_n 2, 0, 0, 0, 0), (.iconst 0, 0, 0, 0, 0), (.istore_n 3, 0, 0, 0, 0), (.iload_n 3, 0, 0, 0, 0), (.aload_n 0, 0, 0, 0, 0), (.getfield 27, 4, 1, 0, 0), (.iload_n 1, 0, 0, 0, 0), (.invokevirtual 75, 11, 18, 0, 0), (.if_icmp .ge 41, 3, 0, 0, 0), (.aload_n 0, 0, 0, 0, 0), (.getfield 11, 4, 2, 0, 0), (.iload_n 3, 0, 0, 0, 0), (.aaload, 0, 0, 0, 0), (.iload_n 1, 0, 0, 0, 0), (.iaload, 0, 0, 0, 0), (.istore 4, 0, 0, 0, 0), (.aload_n 0, 0, 0, 0, 0), (.getfield 27, 4, 1, 0, 0), (.iload 4, 0, 0, 0, 0), (.invokevirtual 96, 16, 50, 0, 0), (.ifCond .eq 13, 2, 0, 0, 0), (.iload_n 2, 0, 0, 0, 0), (.aload_n 0, 0, 0, 0, 0), (.getfield 20, 4, 4, 0, 0), (.iload 4, 0, 0, 0, 0), (.iaload, 0, 0, 0, 0), (.iadd, 0, 0, 0, 0), (.istore_n 2, 0, 0, 0, 0), (.iinc 3 1, 0, 0, 1, 0), (.goto (-47), 1, 0, 0, 0)]
def cp_69_r1 : List mm_Row := [(.iload_n 3, 0, 0, 0, 0), (.aload_n 0, 0, 0, 0, 0), (.getfield 27, 4, 1, 0, 0), (.iload_n 1, 0, 0, 0, 0), (.invokevirtual 75, 11, 18, 0, 0), (.if_icmp .ge 41, 3, 0, 0, 0), (.aload_n 0, 0, 0, 0, 0), (.getfield 11, 4, 2, 0, 0), (.iload_n 3, 0, 0, 0, 0), (.aaload, 0, 0, 0, 0), (.iload_n 1, 0, 0, 0, 0), (.iaload, 0, 0, 0, 0), (.istore 4, 0, 0, 0, 0), (.aload_n 0, 0, 0, 0, 0), (.getfield 27, 4, 1, 0, 0), (.iload 4, 0, 0, 0, 0), (.invokevirtual 96, 16, 50, 0, 0), (.ifCond .eq 13, 2, 0, 0, 0), (.iload_n 2, 0, 0, 0, 0), (.aload_n 0, 0, 0, 0, 0), (.getfield 20, 4, 4, 0, 0), (.iload 4, 0, 0, 0, 0), (.iaload, 0, 0, 0, 0), (.iadd, 0, 0, 0, 0), (.istore_n 2, 0, 0, 0, 0), (.iinc 3 1, 0, 0, 1, 0), (.goto (-47), 1, 0, 0, 0)]
def cp_69_r2 : List mm_Row := [(.iinc 3 1, 0, 0, 1, 0), (.goto (-47), 1, 0, 0, 0)]
def cp_69_r3 : List mm_Row := [(.iload_n 2, 0, 0, 0, 0), (.bipush 100, 0, 0, 100, 0), (.invokestatic 113, 1001, 18, 0, 0), (.ireturn, 0, 0, 0, 0)]
def cp_69_l : List (Nat × List mm_Row) := [(0, cp_69_r0), (17, cp_69_r1), (61, cp_69_r2), (67, cp_69_r3)]
def cp_69 : mm_M := (4, ⟨"WiringContainer$Plan", "costOverNeeds", "(I)I"⟩, prog_6_method_11_code, 5, (some .int), cp_69_l)
-- 70: WiringContainer.declare(IIZZ)I
def cp_70_r0 : List mm_Row := [(.aload_n 0, 0, 0, 0, 0), (.getfield 48, 5, 5, 0, 0), (.ifCond .eq 6, 1, 0, 0, 0), (.bipush (-3), 0, 0, (-3), 0), (.ireturn, 0, 0, 0, 0)]
def cp_70_r1 : List mm_Row := [(.aload_n 0, 0, 0, 0, 0), (.getfield 10, 5, 0, 0, 0), (.invokevirtual 52, 24, 113, 0, 0), (.ifCond .eq 6, 2, 0, 0, 0), (.bipush (-2), 0, 0, (-2), 0), (.ireturn, 0, 0, 0, 0)]
def cp_70_r2 : List mm_Row := [(.iload_n 1, 0, 0, 0, 0), (.ifCond .eq 15, 3, 0, 0, 0), (.aload_n 0, 0, 0, 0, 0), (.getfield 10, 5, 0, 0, 0), (.iload_n 1, 0, 0, 0, 0), (.iload_n 3, 0, 0, 0, 0), (.invokevirtual 56, 27, 115, 0, 0), (.ifCond .eq 23, 5, 0, 0, 0), (.iload_n 2, 0, 0, 0, 0), (.ifCond .eq 15, 4, 0, 0, 0), (.aload_n 0, 0, 0, 0, 0), (.getfield 10, 5, 0, 0, 0), (.iload_n 2, 0, 0, 0, 0), (.iload_n 3, 0, 0, 0, 0), (.invokevirtual 56, 27, 115, 0, 0), (.ifCond .eq 7, 5, 0, 0, 0), (.iconst 1, 0, 0, 1, 0), (.goto 4, 6, 0, 0, 0)]
def cp_70_r3 : List mm_Row := [(.iload_n 2, 0, 0, 0, 0), (.ifCond .eq 15, 4, 0, 0, 0), (.aload_n 0, 0, 0, 0, 0), (.getfield 10, 5, 0, 0, 0), (.iload_n 2, 0, 0, 0, 0), (.iload_n 3, 0, 0, 0, 0), (.invokevirtual 56, 27, 115, 0, 0), (.ifCond .eq 7, 5, 0, 0, 0), (.iconst 1, 0, 0, 1, 0), (.goto 4, 6, 0, 0, 0)]
def cp_70_r4 : List mm_Row := [(.iconst 1, 0, 0, 1, 0), (.goto 4, 6, 0, 0, 0)]
def cp_70_r5 : List mm_Row := [(.iconst 0, 0, 0, 0, 0), (.istore 5, 0, 0, 0, 0), (.iload 5, 0, 0, 0, 0), (.ifCond .eq 16, 7, 0, 0, 0), (.aload_n 0, 0, 0, 0, 0), (.getfield 10, 5, 0, 0, 0), (.iload_n 1, 0, 0, 0, 0), (.iload_n 2, 0, 0, 0, 0), (.invokevirtual 60, 30, 83, 0, 0), (.iconst 3, 0, 0, 3, 0), (.if_icmp .le 5, 8, 0, 0, 0), (.iconst (-1), 0, 0, (-1), 0), (.ireturn, 0, 0, 0, 0)]
def cp_70_r6 : List mm_Row := [(.istore 5, 0, 0, 0, 0), (.iload 5, 0, 0, 0, 0), (.ifCond .eq 16, 7, 0, 0, 0), (.aload_n 0, 0, 0, 0, 0), (.getfield 10, 5, 0, 0, 0), (.iload_n 1, 0, 0, 0, 0), (.iload_n 2, 0, 0, 0, 0), (.invokevirtual 60, 30, 83, 0, 0), (.iconst 3, 0, 0, 3, 0), (.if_icmp .le 5, 8, 0, 0, 0), (.iconst (-1), 0, 0, (-1), 0), (.ireturn, 0, 0, 0, 0)]
def cp_70_r7 : List mm_Row := [(.iconst (-1), 0, 0, (-1), 0), (.ireturn, 0, 0, 0, 0)]
def cp_70_r8 : List mm_Row := [(.aload_n 0, 0, 0, 0, 0), (.getfield 10, 5, 0, 0, 0), (.iload_n 1, 0, 0, 0, 0), (.iload_n 2, 0, 0, 0, 0), (.iload_n 3, 0, 0, 0, 0), (.iload 4, 0, 0, 0, 0), (.invokevirtual 64, 31, 85, 0, 0), (.ireturn, 0, 0, 0, 0)]
def cp_70_l : List (Nat × List mm_Row) := [(0, cp_70_r0), (10, cp_70_r1), (23, cp_70_r2), (39, cp_70_r3), (55, cp_70_r4), (59, cp_70_r5), (60, cp_70_r6), (80, cp_70_r7), (82, cp_70_r8)]
def cp_70 : mm_M := (5, ⟨"WiringContainer", "declare", "(IIZZ)I"⟩, prog_1_method_2_code, 6, (some .int), cp_70_l)
-- 71: WiringContainer.manage(IIII)I
def cp_71_r0 : List mm_Row := [(.aload_n 0, 0, 0, 0, 0), (.getfield 48, 5, 5, 0, 0), (.ifCond .eq 6, 1, 0, 0, 0), (.bipush (-3), 0, 0, (-3), 0), (.ireturn, 0, 0, 0, 0)]
def cp_71_r1 : List mm_Row := [(.aload_n 0, 0, 0, 0, 0), (.getfield 21, 5, 1, 0, 0), (.invokevirtual 68, 0, 49, 0, 0), (.ifCond .eq 6, 2, 0, 0, 0), (.bipush (-2), 0, 0, (-2), 0), (.ireturn, 0, 0, 0, 0)]
def cp_71_r2 : List mm_Row := [(.aload_n 0, 0, 0, 0, 0), (.getfield 10, 5, 0, 0, 0), (.iload_n 1, 0, 0, 0, 0), (.invokevirtual 69, 25, 114, 0, 0), (.ifCond .eq 13, 3, 0, 0, 0), (.iload_n 2, 0, 0, 0, 0), (.iload_n 3, 0, 0, 0, 0), (.iload 4, 0, 0, 0, 0), (.invokestatic 73, 93, 51, 0, 0), (.ifCond .ne 5, 4, 0, 0, 0), (.iconst (-1), 0, 0, (-1), 0), (.ireturn, 0, 0, 0, 0)]
def cp_71_r3 : List mm_Row := [(.iconst (-1), 0, 0, (-1), 0), (.ireturn, 0, 0, 0, 0)]
def cp_71_r4 : List mm_Row := [(.aload_n 0, 0, 0, 0, 0), (.getfield 21, 5, 1, 0, 0), (.aload_n 0, 0, 0, 0, 0), (.getfield 10, 5, 0, 0, 0), (.iload_n 1, 0, 0, 0, 0), (.invokevirtual 77, 32, 82, 0, 0), (.iload_n 2, 0, 0, 0, 0), (.iload_n 3, 0, 0, 0, 0), (.iload 4, 0, 0, 0, 0), (.invokevirtual 81, 3, 21, 0, 0), (.istore 5, 0, 0, 0, 0), (.aload_n 0, 0, 0, 0, 0), (.getfield 21, 5, 1, 0, 0), (.iload 5, 0, 0, 0, 0), (.invokevirtual 84, 4, 2, 0, 0), (.iload 5, 0, 0, 0, 0), (.ireturn, 0, 0, 0, 0)]
def cp_71_l : List (Nat × List mm_Row) := [(0, cp_71_r0), (10, cp_71_r1), (23, cp_71_r2), (44, cp_71_r3), (46, cp_71_r4)]
def cp_71 : mm_M := (5, ⟨"WiringContainer", "manage", "(IIII)I"⟩, prog_1_method_3_code, 6, (some .int), cp_71_l)
-- 72: WiringContainer.produce(IIIII)I
def cp_72_r0 : List mm_Row := [(.aload_n 0, 0, 0, 0, 0), (.getfield 48, 5, 5, 0, 0), (.ifCond .eq 6, 1, 0, 0, 0), (.bipush (-3), 0, 0, (-3), 0), (.ireturn, 0, 0, 0, 0)]
def cp_72_r1 : List mm_Row := [(.aload_n 0, 0, 0, 0, 0), (.getfield 21, 5, 1, 0, 0), (.invokevirtual 68, 0, 49, 0, 0), (.ifCond .eq 6, 2, 0, 0, 0), (.bipush (-2), 0, 0, (-2), 0), (.ireturn, 0, 0, 0, 0)]
def cp_72_r2 : List mm_Row := [(.iload_n 1, 0, 0, 0, 0), (.iconst (-1), 0, 0, (-1), 0), (.if_icmp .eq 14, 3, 0, 0, 0), (.aload_n 0, 0, 0, 0, 0), (.getfield 21, 5, 1, 0, 0), (.iload_n 1, 0, 0, 0, 0), (.invokevirtual 88, 15, 50, 0, 0), (.ifCond .eq 7, 4, 0, 0, 0), (.iconst 1, 0, 0, 1, 0), (.goto 4, 5, 0, 0, 0)]
def cp_72_r3 : List mm_Row := [(.iconst 1, 0, 0, 1, 0), (.goto 4, 5, 0, 0, 0)]
def cp_72_r4 : List mm_Row := [(.iconst 0, 0, 0, 0, 0), (.istore 6, 0, 0, 0, 0), (.iload 6, 0, 0, 0, 0), (.ifCond .eq 25, 6, 0, 0, 0), (.aload_n 0, 0, 0, 0, 0), (.getfield 10, 5, 0, 0, 0), (.iload_n 2, 0, 0, 0, 0), (.invokevirtual 91, 28, 114, 0, 0), (.ifCond .eq 14, 6, 0, 0, 0), (.iload_n 3, 0, 0, 0, 0), (.iload 4, 0, 0, 0, 0), (.iload 5, 0, 0, 0, 0), (.invokestatic 73, 93, 51, 0, 0), (.ifCond .ne 5, 7, 0, 0, 0), (.iconst (-1), 0, 0, (-1), 0), (.ireturn, 0, 0, 0, 0)]
def cp_72_r5 : List mm_Row := [(.istore 6, 0, 0, 0, 0), (.iload 6, 0, 0, 0, 0), (.ifCond .eq 25, 6, 0, 0, 0), (.aload_n 0, 0, 0, 0, 0), (.getfield 10, 5, 0, 0, 0), (.iload_n 2, 0, 0, 0, 0), (.invokevirtual 91, 28, 114, 0, 0), (.ifCond .eq 14, 6, 0, 0, 0), (.iload_n 3, 0, 0, 0, 0), (.iload 4, 0, 0, 0, 0), (.iload 5, 0, 0, 0, 0), (.invokestatic 73, 93, 51, 0, 0), (.ifCond .ne 5, 7, 0, 0, 0), (.iconst (-1), 0, 0, (-1), 0), (.ireturn, 0, 0, 0, 0)]
def cp_72_r6 : List mm_Row := [(.iconst (-1), 0, 0, (-1), 0), (.ireturn, 0, 0, 0, 0)]
def cp_72_r7 : List mm_Row := [(.aload_n 0, 0, 0, 0, 0), (.getfield 21, 5, 1, 0, 0), (.iload_n 2, 0, 0, 0, 0), (.iload_n 3, 0, 0, 0, 0), (.iload 4, 0, 0, 0, 0), (.iload 5, 0, 0, 0, 0), (.invokevirtual 81, 3, 21, 0, 0), (.istore 7, 0, 0, 0, 0), (.aload_n 0, 0, 0, 0, 0), (.getfield 21, 5, 1, 0, 0), (.iload 7, 0, 0, 0, 0), (.iload_n 1, 0, 0, 0, 0), (.invokevirtual 94, 5, 3, 0, 0), (.iload 7, 0, 0, 0, 0), (.ireturn, 0, 0, 0, 0)]
def cp_72_l : List (Nat × List mm_Row) := [(0, cp_72_r0), (10, cp_72_r1), (23, cp_72_r2), (39, cp_72_r3), (43, cp_72_r4), (44, cp_72_r5), (73, cp_72_r6), (75, cp_72_r7)]
def cp_72 : mm_M := (5, ⟨"WiringContainer", "produce", "(IIIII)I"⟩, prog_1_method_4_code, 8, (some .int), cp_72_l)
-- 73: WiringContainer.inject(III)I
def cp_73_r0 : List mm_Row := [(.aload_n 0, 0, 0, 0, 0), (.getfield 48, 5, 5, 0, 0), (.ifCond .eq 6, 1, 0, 0, 0), (.bipush (-3), 0, 0, (-3), 0), (.ireturn, 0, 0, 0, 0)]
def cp_73_r1 : List mm_Row := [(.aload_n 0, 0, 0, 0, 0), (.getfield 21, 5, 1, 0, 0), (.iload_n 1, 0, 0, 0, 0), (.invokevirtual 98, 1, 50, 0, 0), (.ifCond .eq 12, 2, 0, 0, 0), (.aload_n 0, 0, 0, 0, 0), (.iload_n 2, 0, 0, 0, 0), (.iload_n 3, 0, 0, 0, 0), (.invokevirtual 101, 94, 371, 0, 0), (.ifCond .ne 5, 3, 0, 0, 0), (.iconst (-1), 0, 0, (-1), 0), (.ireturn, 0, 0, 0, 0)]
def cp_73_r2 : List mm_Row := [(.iconst (-1), 0, 0, (-1), 0), (.ireturn, 0, 0, 0, 0)]
def cp_73_r3 : List mm_Row := [(.aload_n 0, 0, 0, 0, 0), (.getfield 21, 5, 1, 0, 0), (.iload_n 1, 0, 0, 0, 0), (.invokevirtual 105, 11, 18, 0, 0), (.iconst 3, 0, 0, 3, 0), (.if_icmp .lt 6, 4, 0, 0, 0), (.bipush (-2), 0, 0, (-2), 0), (.ireturn, 0, 0, 0, 0)]
def cp_73_r4 : List mm_Row := [(.aload_n 0, 0, 0, 0, 0), (.getfield 21, 5, 1, 0, 0), (.iload_n 1, 0, 0, 0, 0), (.iload_n 2, 0, 0, 0, 0), (.iload_n 3, 0, 0, 0, 0), (.invokevirtual 108, 6, 20, 0, 0), (.ireturn, 0, 0, 0, 0)]
def cp_73_l : List (Nat × List mm_Row) := [(0, cp_73_r0), (10, cp_73_r1), (30, cp_73_r2), (32, cp_73_r3), (47, cp_73_r4)]
def cp_73 : mm_M := (5, ⟨"WiringContainer", "inject", "(III)I"⟩, prog_1_method_5_code, 4, (some .int), cp_73_l)
-- 74: WiringContainer.types(I)I
def cp_74_r0 : List mm_Row := [(.aload_n 0, 0, 0, 0, 0), (.getfield 21, 5, 1, 0, 0), (.iload_n 1, 0, 0, 0, 0), (.invokevirtual 98, 1, 50, 0, 0), (.ifCond .ne 5, 1, 0, 0, 0), (.iconst (-1), 0, 0, (-1), 0), (.ireturn, 0, 0, 0, 0)]
def cp_74_r1 : List mm_Row := [(.aload_n 0, 0, 0, 0, 0), (.getfield 10, 5, 0, 0, 0), (.aload_n 0, 0, 0, 0, 0), (.getfield 21, 5, 1, 0, 0), (.iload_n 1, 0, 0, 0, 0), (.invokevirtual 112, 7, 18, 0, 0), (.i2l, 0, 0, 0, 0), (.invokevirtual 115, 33, 82, 0, 0), (.ireturn, 0, 0, 0, 0)]
def cp_74_l : List (Nat × List mm_Row) := [(0, cp_74_r0), (13, cp_74_r1)]
def cp_74 : mm_M := (5, ⟨"WiringContainer", "types", "(I)I"⟩, prog_1_method_6_code, 2, (some .int), cp_74_l)
-- 75: WiringContainer.fits(II)I
def cp_75_r0 : List mm_Row := [(.aload_n 0, 0, 0, 0, 0), (.getfield 21, 5, 1, 0, 0), (.iload_n 2, 0, 0, 0, 0), (.invokevirtual 98, 1, 50, 0, 0), (.ifCond .eq 14, 1, 0, 0, 0), (.aload_n 0, 0, 0, 0, 0), (.getfield 10, 5, 0, 0, 0), (.iload_n 1, 0, 0, 0, 0), (.invokevirtual 119, 29, 114, 0, 0), (.ifCond .ne 5, 2, 0, 0, 0), (.iconst (-1), 0, 0, (-1), 0), (.ireturn, 0, 0, 0, 0)]
def cp_75_r1 : List mm_Row := [(.iconst (-1), 0, 0, (-1), 0), (.ireturn, 0, 0, 0, 0)]
def cp_75_r2 : List mm_Row := [(.aload_n 0, 0, 0, 0, 0), (.getfield 10, 5, 0, 0, 0), (.iload_n 1, 0, 0, 0, 0), (.i2l, 0, 0, 0, 0), (.aload_n 0, 0, 0, 0, 0), (.getfield 21, 5, 1, 0, 0), (.iload_n 2, 0, 0, 0, 0), (.invokevirtual 112, 7, 18, 0, 0), (.i2l, 0, 0, 0, 0), (.iconst 0, 0, 0, 0, 0), (.invokevirtual 122, 34, 116, 0, 0), (.ifCond .eq 7, 3, 0, 0, 0), (.iconst 1, 0, 0, 1, 0), (.goto 4, 4, 0, 0, 0)]
def cp_75_r3 : List mm_Row := [(.iconst 0, 0, 0, 0, 0), (.ireturn, 0, 0, 0, 0)]
def cp_75_r4 : List mm_Row := [(.ireturn, 0, 0, 0, 0)]
def cp_75_l : List (Nat × List mm_Row) := [(0, cp_75_r0), (22, cp_75_r1), (24, cp_75_r2), (50, cp_75_r3), (51, cp_75_r4)]
def cp_75 : mm_M := (5, ⟨"WiringContainer", "fits", "(II)I"⟩, prog_1_method_7_code, 3, (some .int), cp_75_l)
-- 76: WiringContainer.candidates(II)I
def cp_76_r0 : List mm_Row := [(.aload_n 0, 0, 0, 0, 0), (.iload_n 1, 0, 0, 0, 0), (.iload_n 2, 0, 0, 0, 0), (.invokevirtual 101, 94, 371, 0, 0), (.ifCond .ne 5, 1, 0, 0, 0), (.iconst (-1), 0, 0, (-1), 0), (.ireturn, 0, 0, 0, 0)]
def cp_76_r1 : List mm_Row := [(.aload_n 0, 0, 0, 0, 0), (.getfield 21, 5, 1, 0, 0), (.iload_n 1, 0, 0, 0, 0), (.iload_n 2, 0, 0, 0, 0), (.invokevirtual 126, 20, 19, 0, 0), (.invokestatic 129, 100, 17, 0, 0), (.ireturn, 0, 0, 0, 0)]
def cp_76_l : List (Nat × List mm_Row) := [(0, cp_76_r0), (11, cp_76_r1)]
def cp_76 : mm_M := (5, ⟨"WiringContainer", "candidates", "(II)I"⟩, prog_1_method_8_code, 3, (some .int), cp_76_l)
-- 77: WiringContainer.resolve(II)I
def cp_77_r0 : List mm_Row := [(.aload_n 0, 0, 0, 0, 0), (.iload_n 1, 0, 0, 0, 0), (.iload_n 2, 0, 0, 0, 0), (.invokevirtual 101, 94, 371, 0, 0), (.ifCond .ne 5, 1, 0, 0, 0), (.iconst (-1), 0, 0, (-1), 0), (.ireturn, 0, 0, 0, 0)]
def cp_77_r1 : List mm_Row := [(.aload_n 0, 0, 0, 0, 0), (.getfield 21, 5, 1, 0, 0), (.iload_n 1, 0, 0, 0, 0), (.iload_n 2, 0, 0, 0, 0), (.invokevirtual 134, 19, 19, 0, 0), (.ireturn, 0, 0, 0, 0)]
def cp_77_l : List (Nat × List mm_Row) := [(0, cp_77_r0), (11, cp_77_r1)]
def cp_77 : mm_M := (5, ⟨"WiringContainer", "resolve", "(II)I"⟩, prog_1_method_9_code, 3, (some .int), cp_77_l)
-- 78: WiringContainer.deploy()I
def cp_78_r0 : List mm_Row := [(.aload_n 0, 0, 0, 0, 0), (.getfield 48, 5, 5, 0, 0), (.ifCond .eq 6, 1, 0, 0, 0), (.bipush (-3), 0, 0, (-3), 0), (.ireturn, 0, 0, 0, 0)]
def cp_78_r1 : List mm_Row := [(.aload_n 0, 0, 0, 0, 0), (.getfield 30, 5, 2, 0, 0), (.invokevirtual 137, 62, 273, 0, 0), (.istore_n 1, 0, 0, 0, 0), (.iload_n 1, 0, 0, 0, 0), (.ifCond .ne 23, 2, 0, 0, 0), (.aload_n 0, 0, 0, 0, 0), (.getfield 30, 5, 2, 0, 0), (.invokevirtual 141, 63, 257, 0, 0), (.aload_n 0, 0, 0, 0, 0), (.getfield 44, 5, 4, 0, 0), (.iconst 3, 0, 0, 3, 0), (.invokevirtual 144, 41, 130, 0, 0), (.aload_n 0, 0, 0, 0, 0), (.iconst 1, 0, 0, 1, 0), (.putfield 48, 5, 5, 0, 0), (.iload_n 1, 0, 0, 0, 0), (.ireturn, 0, 0, 0, 0)]
def cp_78_r2 : List mm_Row := [(.iload_n 1, 0, 0, 0, 0), (.ireturn, 0, 0, 0, 0)]
def cp_78_l : List (Nat × List mm_Row) := [(0, cp_78_r0), (10, cp_78_r1), (42, cp_78_r2)]
def cp_78 : mm_M := (5, ⟨"WiringContainer", "deploy", "()I"⟩, prog_1_method_10_code, 2, (some .int), cp_78_l)
-- 79: WiringContainer.cost(I)I
def cp_79_r0 : List mm_Row := [(.aload_n 0, 0, 0, 0, 0), (.getfield 48, 5, 5, 0, 0), (.ifCond .ne 6, 1, 0, 0, 0), (.bipush (-3), 0, 0, (-3), 0), (.ireturn, 0, 0, 0, 0)]
def cp_79_r1 : List mm_Row := [(.aload_n 0, 0, 0, 0, 0), (.getfield 21, 5, 1, 0, 0), (.iload_n 1, 0, 0, 0, 0), (.invokevirtual 98, 1, 50, 0, 0), (.ifCond .eq 14, 2, 0, 0, 0), (.aload_n 0, 0, 0, 0, 0), (.getfield 21, 5, 1, 0, 0), (.iload_n 1, 0, 0, 0, 0), (.invokevirtual 147, 18, 50, 0, 0), (.ifCond .ne 5, 3, 0, 0, 0), (.iconst (-1), 0, 0, (-1), 0), (.ireturn, 0, 0, 0, 0)]
def cp_79_r2 : List mm_Row := [(.iconst (-1), 0, 0, (-1), 0), (.ireturn, 0, 0, 0, 0)]
def cp_79_r3 : List mm_Row := [(.aload_n 0, 0, 0, 0, 0), (.getfield 30, 5, 2, 0, 0), (.iload_n 1, 0, 0, 0, 0), (.invokevirtual 150, 61, 274, 0, 0), (.ireturn, 0, 0, 0, 0)]
def cp_79_l : List (Nat × List mm_Row) := [(0, cp_79_r0), (10, cp_79_r1), (32, cp_79_r2), (34, cp_79_r3)]
def cp_79 : mm_M := (5, ⟨"WiringContainer", "cost", "(I)I"⟩, prog_1_method_11_code, 2, (some .int), cp_79_l)
-- 80: WiringContainer.begin(I)Z
def cp_80_r0 : List mm_Row := [(.aload_n 0, 0, 0, 0, 0), (.getfield 48, 5, 5, 0, 0), (.ifCond .eq 21, 1, 0, 0, 0), (.iload_n 1, 0, 0, 0, 0), (.invokestatic 153, 90, 49, 0, 0), (.ifCond .eq 14, 1, 0, 0, 0), (.aload_n 0, 0, 0, 0, 0), (.getfield 44, 5, 4, 0, 0), (.iload_n 1, 0, 0, 0, 0), (.invokevirtual 156, 40, 178, 0, 0), (.ifCond .eq 5, 2, 0, 0, 0), (.iconst 0, 0, 0, 0, 0), (.ireturn, 0, 0, 0, 0)]
def cp_80_r1 : List mm_Row := [(.iconst 0, 0, 0, 0, 0), (.ireturn, 0, 0, 0, 0)]
def cp_80_r2 : List mm_Row := [(.aload_n 0, 0, 0, 0, 0), (.getfield 44, 5, 4, 0, 0), (.iload_n 1, 0, 0, 0, 0), (.invokevirtual 144, 41, 130, 0, 0), (.iconst 1, 0, 0, 1, 0), (.ireturn, 0, 0, 0, 0)]
def cp_80_l : List (Nat × List mm_Row) := [(0, cp_80_r0), (25, cp_80_r1), (27, cp_80_r2)]
def cp_80 : mm_M := (5, ⟨"WiringContainer", "begin", "(I)Z"⟩, prog_1_method_12_code, 2, (some .boolean), cp_80_l)
-- 81: WiringContainer.end(I)I
def cp_81_r0 : List mm_Row := [(.aload_n 0, 0, 0, 0, 0), (.getfield 48, 5, 5, 0, 0), (.ifCond .ne 6, 1, 0, 0, 0), (.bipush (-3), 0, 0, (-3), 0), (.ireturn, 0, 0, 0, 0)]
def cp_81_r1 : List mm_Row := [(.iload_n 1, 0, 0, 0, 0), (.invokestatic 153, 90, 49, 0, 0), (.ifCond .ne 5, 2, 0, 0, 0), (.iconst (-1), 0, 0, (-1), 0), (.ireturn, 0, 0, 0, 0)]
def cp_81_r2 : List mm_Row := [(.aload_n 0, 0, 0, 0, 0), (.getfield 44, 5, 4, 0, 0), (.iload_n 1, 0, 0, 0, 0), (.invokevirtual 156, 40, 178, 0, 0), (.ifCond .ne 6, 3, 0, 0, 0), (.bipush (-7), 0, 0, (-7), 0), (.ireturn, 0, 0, 0, 0)]
def cp_81_r3 : List mm_Row := [(.aload_n 0, 0, 0, 0, 0), (.getfield 37, 5, 3, 0, 0), (.invokevirtual 159, 51, 209, 0, 0), (.istore_n 2, 0, 0, 0, 0), (.aload_n 0, 0, 0, 0, 0), (.iload_n 1, 0, 0, 0, 0), (.invokevirtual 162, 98, 322, 0, 0), (.aload_n 0, 0, 0, 0, 0), (.getfield 37, 5, 3, 0, 0), (.invokevirtual 159, 51, 209, 0, 0), (.iload_n 2, 0, 0, 0, 0), (.isub, 0, 0, 0, 0), (.ireturn, 0, 0, 0, 0)]
def cp_81_l : List (Nat × List mm_Row) := [(0, cp_81_r0), (10, cp_81_r1), (19, cp_81_r2), (33, cp_81_r3)]
def cp_81 : mm_M := (5, ⟨"WiringContainer", "end", "(I)I"⟩, prog_1_method_13_code, 3, (some .int), cp_81_l)
-- 82: WiringContainer.obtain(III)I
def cp_82_r0 : List mm_Row := [(.aload_n 0, 0, 0, 0, 0), (.getfield 48, 5, 5, 0, 0), (.ifCond .ne 6, 1, 0, 0, 0), (.bipush (-3), 0, 0, (-3), 0), (.ireturn, 0, 0, 0, 0)]
def cp_82_r1 : List mm_Row := [(.iload_n 1, 0, 0, 0, 0), (.invokestatic 153, 90, 49, 0, 0), (.ifCond .eq 12, 2, 0, 0, 0), (.aload_n 0, 0, 0, 0, 0), (.iload_n 2, 0, 0, 0, 0), (.iload_n 3, 0, 0, 0, 0), (.invokevirtual 101, 94, 371, 0, 0), (.ifCond .ne 5, 3, 0, 0, 0), (.iconst (-1), 0, 0, (-1), 0), (.ireturn, 0, 0, 0, 0)]
def cp_82_r2 : List mm_Row := [(.iconst (-1), 0, 0, (-1), 0), (.ireturn, 0, 0, 0, 0)]
def cp_82_r3 : List mm_Row := [(.aload_n 0, 0, 0, 0, 0), (.getfield 21, 5, 1, 0, 0), (.iload_n 2, 0, 0, 0, 0), (.iload_n 3, 0, 0, 0, 0), (.invokevirtual 134, 19, 19, 0, 0), (.istore 4, 0, 0, 0, 0), (.iload 4, 0, 0, 0, 0), (.ifCond .ge 6, 4, 0, 0, 0), (.iload 4, 0, 0, 0, 0), (.ireturn, 0, 0, 0, 0)]
def cp_82_r4 : List mm_Row := [(.aload_n 0, 0, 0, 0, 0), (.getfield 21, 5, 1, 0, 0), (.iload 4, 0, 0, 0, 0), (.invokevirtual 165, 16, 50, 0, 0), (.ifCond .eq 10, 5, 0, 0, 0), (.aload_n 0, 0, 0, 0, 0), (.iload 4, 0, 0, 0, 0), (.invokevirtual 168, 96, 338, 0, 0), (.ireturn, 0, 0, 0, 0)]
def cp_82_r5 : List mm_Row := [(.aload_n 0, 0, 0, 0, 0), (.getfield 10, 5, 0, 0, 0), (.iload_n 2, 0, 0, 0, 0), (.invokevirtual 171, 26, 114, 0, 0), (.ifCond .eq 6, 6, 0, 0, 0), (.bipush (-6), 0, 0, (-6), 0), (.ireturn, 0, 0, 0, 0)]
def cp_82_r6 : List mm_Row := [(.aload_n 0, 0, 0, 0, 0), (.iload_n 1, 0, 0, 0, 0), (.iload 4, 0, 0, 0, 0), (.invokevirtual 174, 95, 339, 0, 0), (.ireturn, 0, 0, 0, 0)]
def cp_82_l : List (Nat × List mm_Row) := [(0, cp_82_r0), (10, cp_82_r1), (26, cp_82_r2), (28, cp_82_r3), (47, cp_82_r4), (66, cp_82_r5), (80, cp_82_r6)]
def cp_82 : mm_M := (5, ⟨"WiringContainer", "obtain", "(III)I"⟩, prog_1_method_14_code, 5, (some .int), cp_82_l)
-- 83: WiringContainer.call(III)I
def cp_83_r0 : List mm_Row := [(.aload_n 0, 0, 0, 0, 0), (.getfield 48, 5, 5, 0, 0), (.ifCond .ne 6, 1, 0, 0, 0), (.bipush (-3), 0, 0, (-3), 0), (.ireturn, 0, 0, 0, 0)]
def cp_83_r1 : List mm_Row := [(.iload_n 1, 0, 0, 0, 0), (.invokestatic 153, 90, 49, 0, 0), (.ifCond .ne 5, 2, 0, 0, 0), (.iconst (-1), 0, 0, (-1), 0), (.ireturn, 0, 0, 0, 0)]
def cp_83_r2 : List mm_Row := [(.aload_n 0, 0, 0, 0, 0), (.getfield 37, 5, 3, 0, 0), (.iload_n 2, 0, 0, 0, 0), (.invokevirtual 177, 53, 242, 0, 0), (.ifCond .ne 6, 3, 0, 0, 0), (.bipush (-8), 0, 0, (-8), 0), (.ireturn, 0, 0, 0, 0)]
def cp_83_r3 : List mm_Row := [(.aload_n 0, 0, 0, 0, 0), (.getfield 37, 5, 3, 0, 0), (.iload_n 2, 0, 0, 0, 0), (.invokevirtual 180, 54, 210, 0, 0), (.istore 4, 0, 0, 0, 0), (.aload_n 0, 0, 0, 0, 0), (.getfield 21, 5, 1, 0, 0), (.iload 4, 0, 0, 0, 0), (.iload_n 3, 0, 0, 0, 0), (.invokevirtual 183, 12, 51, 0, 0), (.ifCond .ne 5, 4, 0, 0, 0), (.iconst (-1), 0, 0, (-1), 0), (.ireturn, 0, 0, 0, 0)]
def cp_83_r4 : List mm_Row := [(.aload_n 0, 0, 0, 0, 0), (.getfield 30, 5, 2, 0, 0), (.iload 4, 0, 0, 0, 0), (.iload_n 3, 0, 0, 0, 0), (.invokevirtual 186, 60, 275, 0, 0), (.istore 5, 0, 0, 0, 0), (.aload_n 0, 0, 0, 0, 0), (.getfield 21, 5, 1, 0, 0), (.iload 5, 0, 0, 0, 0), (.invokevirtual 165, 16, 50, 0, 0), (.ifCond .eq 13, 5, 0, 0, 0), (.aload_n 0, 0, 0, 0, 0), (.getfield 37, 5, 3, 0, 0), (.iload_n 2, 0, 0, 0, 0), (.iload_n 3, 0, 0, 0, 0), (.invokevirtual 189, 56, 211, 0, 0), (.ireturn, 0, 0, 0, 0)]
def cp_83_r5 : List mm_Row := [(.aload_n 0, 0, 0, 0, 0), (.iload_n 1, 0, 0, 0, 0), (.iload 5, 0, 0, 0, 0), (.invokevirtual 174, 95, 339, 0, 0), (.ireturn, 0, 0, 0, 0)]
def cp_83_l : List (Nat × List mm_Row) := [(0, cp_83_r0), (10, cp_83_r1), (19, cp_83_r2), (33, cp_83_r3), (58, cp_83_r4), (92, cp_83_r5)]
def cp_83 : mm_M := (5, ⟨"WiringContainer", "call", "(III)I"⟩, prog_1_method_15_code, 6, (some .int), cp_83_l)
-- 84: WiringContainer.destroy(I)I
def cp_84_r0 : List mm_Row := [(.aload_n 0, 0, 0, 0, 0), (.getfield 48, 5, 5, 0, 0), (.ifCond .ne 6, 1, 0, 0, 0), (.bipush (-3), 0, 0, (-3), 0), (.ireturn, 0, 0, 0, 0)]
def cp_84_r1 : List mm_Row := [(.aload_n 0, 0, 0, 0, 0), (.getfield 37, 5, 3, 0, 0), (.iload_n 1, 0, 0, 0, 0), (.invokevirtual 177, 53, 242, 0, 0), (.ifCond .ne 6, 2, 0, 0, 0), (.bipush (-8), 0, 0, (-8), 0), (.ireturn, 0, 0, 0, 0)]
def cp_84_r2 : List mm_Row := [(.aload_n 0, 0, 0, 0, 0), (.getfield 37, 5, 3, 0, 0), (.iload_n 1, 0, 0, 0, 0), (.invokevirtual 192, 55, 210, 0, 0), (.ifCond .eq 5, 3, 0, 0, 0), (.iconst (-1), 0, 0, (-1), 0), (.ireturn, 0, 0, 0, 0)]
def cp_84_r3 : List mm_Row := [(.aload_n 0, 0, 0, 0, 0), (.getfield 37, 5, 3, 0, 0), (.invokevirtual 159, 51, 209, 0, 0), (.istore_n 2, 0, 0, 0, 0), (.aload_n 0, 0, 0, 0, 0), (.getfield 44, 5, 4, 0, 0), (.aload_n 0, 0, 0, 0, 0), (.getfield 37, 5, 3, 0, 0), (.iload_n 1, 0, 0, 0, 0), (.invokevirtual 180, 54, 210, 0, 0), (.iload_n 1, 0, 0, 0, 0), (.invokevirtual 195, 46, 131, 0, 0), (.aload_n 0, 0, 0, 0, 0), (.getfield 37, 5, 3, 0, 0), (.iload_n 1, 0, 0, 0, 0), (.iconst 0, 0, 0, 0, 0), (.invokevirtual 198, 59, 195, 0, 0), (.aload_n 0, 0, 0, 0, 0), (.getfield 37, 5, 3, 0, 0), (.invokevirtual 159, 51, 209, 0, 0), (.iload_n 2, 0, 0, 0, 0), (.isub, 0, 0, 0, 0), (.ireturn, 0, 0, 0, 0)]
def cp_84_l : List (Nat × List mm_Row) := [(0, cp_84_r0), (10, cp_84_r1), (24, cp_84_r2), (37, cp_84_r3)]
def cp_84 : mm_M := (5, ⟨"WiringContainer", "destroy", "(I)I"⟩, prog_1_method_16_code, 3, (some .int), cp_84_l)
-- 85: WiringContainer.shutdown()I
def cp_85_r0 : List mm_Row := [(.aload_n 0, 0, 0, 0, 0), (.getfield 48, 5, 5, 0, 0), (.ifCond .ne 6, 1, 0, 0, 0), (.bipush (-3), 0, 0, (-3), 0), (.ireturn, 0, 0, 0, 0)]
def cp_85_r1 : List mm_Row := [(.aload_n 0, 0, 0, 0, 0), (.getfield 37, 5, 3, 0, 0), (.invokevirtual 159, 51, 209, 0, 0), (.istore_n 1, 0, 0, 0, 0), (.iconst 0, 0, 0, 0, 0), (.istore_n 2, 0, 0, 0, 0), (.iload_n 2, 0, 0, 0, 0), (.iconst 3, 0, 0, 3, 0), (.if_icmp .ge 25, 4, 0, 0, 0), (.aload_n 0, 0, 0, 0, 0), (.getfield 44, 5, 4, 0, 0), (.iload_n 2, 0, 0, 0, 0), (.invokevirtual 156, 40, 178, 0, 0), (.ifCond .eq 8, 3, 0, 0, 0), (.aload_n 0, 0, 0, 0, 0), (.iload_n 2, 0, 0, 0, 0), (.invokevirtual 162, 98, 322, 0, 0), (.iinc 2 1, 0, 0, 1, 0), (.goto (-24), 2, 0, 0, 0)]
def cp_85_r2 : List mm_Row := [(.iload_n 2, 0, 0, 0, 0), (.iconst 3, 0, 0, 3, 0), (.if_icmp .ge 25, 4, 0, 0, 0), (.aload_n 0, 0, 0, 0, 0), (.getfield 44, 5, 4, 0, 0), (.iload_n 2, 0, 0, 0, 0), (.invokevirtual 156, 40, 178, 0, 0), (.ifCond .eq 8, 3, 0, 0, 0), (.aload_n 0, 0, 0, 0, 0), (.iload_n 2, 0, 0, 0, 0), (.invokevirtual 162, 98, 322, 0, 0), (.iinc 2 1, 0, 0, 1, 0), (.goto (-24), 2, 0, 0, 0)]
def cp_85_r3 : List mm_Row := [(.iinc 2 1, 0, 0, 1, 0), (.goto (-24), 2, 0, 0, 0)]
def cp_85_r4 : List mm_Row := [(.aload_n 0, 0, 0, 0, 0), (.invokevirtual 201, 99, 321, 0, 0), (.aload_n 0, 0, 0, 0, 0), (.iconst 3, 0, 0, 3, 0), (.invokevirtual 162, 98, 322, 0, 0), (.aload_n 0, 0, 0, 0, 0), (.iconst 0, 0, 0, 0, 0), (.putfield 48, 5, 5, 0, 0), (.aload_n 0, 0, 0, 0, 0), (.getfield 37, 5, 3, 0, 0), (.invokevirtual 159, 51, 209, 0, 0), (.iload_n 1, 0, 0, 0, 0), (.isub, 0, 0, 0, 0), (.ireturn, 0, 0, 0, 0)]
def cp_85_l : List (Nat × List mm_Row) := [(0, cp_85_r0), (10, cp_85_r1), (20, cp_85_r2), (41, cp_85_r3), (47, cp_85_r4)]
def cp_85 : mm_M := (5, ⟨"WiringContainer", "shutdown", "()I"⟩, prog_1_method_17_code, 3, (some .int), cp_85_l)
-- 86: WiringContainer.beanOf(I)I
def cp_86_r0 : List mm_Row := [(.aload_n 0, 0, 0, 0, 0), (.getfield 37, 5, 3, 0, 0), (.iload_n 1, 0, 0, 0, 0), (.invokevirtual 177, 53, 242, 0, 0), (.ifCond .eq 14, 1, 0, 0, 0), (.aload_n 0, 0, 0, 0, 0), (.getfield 37, 5, 3, 0, 0), (.iload_n 1, 0, 0, 0, 0), (.invokevirtual 180, 54, 210, 0, 0), (.goto 5, 2, 0, 0, 0)]
def cp_86_r1 : List mm_Row := [(.bipush (-8), 0, 0, (-8), 0), (.ireturn, 0, 0, 0, 0)]
def cp_86_r2 : List mm_Row := [(.ireturn, 0, 0, 0, 0)]
def cp_86_l : List (Nat × List mm_Row) := [(0, cp_86_r0), (22, cp_86_r1), (24, cp_86_r2)]
def cp_86 : mm_M := (5, ⟨"WiringContainer", "beanOf", "(I)I"⟩, prog_1_method_18_code, 2, (some .int), cp_86_l)
-- 87: WiringContainer.owner(I)I
def cp_87_r0 : List mm_Row := [(.aload_n 0, 0, 0, 0, 0), (.getfield 37, 5, 3, 0, 0), (.iload_n 1, 0, 0, 0, 0), (.invokevirtual 177, 53, 242, 0, 0), (.ifCond .eq 14, 1, 0, 0, 0), (.aload_n 0, 0, 0, 0, 0), (.getfield 37, 5, 3, 0, 0), (.iload_n 1, 0, 0, 0, 0), (.invokevirtual 192, 55, 210, 0, 0), (.goto 5, 2, 0, 0, 0)]
def cp_87_r1 : List mm_Row := [(.bipush (-8), 0, 0, (-8), 0), (.ireturn, 0, 0, 0, 0)]
def cp_87_r2 : List mm_Row := [(.ireturn, 0, 0, 0, 0)]
def cp_87_l : List (Nat × List mm_Row) := [(0, cp_87_r0), (22, cp_87_r1), (24, cp_87_r2)]
def cp_87 : mm_M := (5, ⟨"WiringContainer", "owner", "(I)I"⟩, prog_1_method_19_code, 2, (some .int), cp_87_l)
-- 88: WiringContainer.destroyed(I)I
def cp_88_r0 : List mm_Row := [(.aload_n 0, 0, 0, 0, 0), (.getfield 37, 5, 3, 0, 0), (.iload_n 1, 0, 0, 0, 0), (.invokevirtual 204, 52, 210, 0, 0), (.ireturn, 0, 0, 0, 0)]
def cp_88_l : List (Nat × List mm_Row) := [(0, cp_88_r0)]
def cp_88 : mm_M := (5, ⟨"WiringContainer", "destroyed", "(I)I"⟩, prog_1_method_20_code, 2, (some .int), cp_88_l)
-- 89: WiringContainer.live()I
def cp_89_r0 : List mm_Row := [(.aload_n 0, 0, 0, 0, 0), (.getfield 37, 5, 3, 0, 0), (.invokevirtual 207, 50, 209, 0, 0), (.ireturn, 0, 0, 0, 0)]
def cp_89_l : List (Nat × List mm_Row) := [(0, cp_89_r0)]
def cp_89 : mm_M := (5, ⟨"WiringContainer", "live", "()I"⟩, prog_1_method_21_code, 1, (some .int), cp_89_l)
-- 90: WiringContainer.isThread(I)Z
def cp_90_r0 : List mm_Row := [(.iload_n 0, 0, 0, 0, 0), (.ifCond .lt 12, 1, 0, 0, 0), (.iload_n 0, 0, 0, 0, 0), (.iconst 3, 0, 0, 3, 0), (.if_icmp .ge 7, 1, 0, 0, 0), (.iconst 1, 0, 0, 1, 0), (.goto 4, 2, 0, 0, 0)]
def cp_90_r1 : List mm_Row := [(.iconst 0, 0, 0, 0, 0), (.ireturn, 0, 0, 0, 0)]
def cp_90_r2 : List mm_Row := [(.ireturn, 0, 0, 0, 0)]
def cp_90_l : List (Nat × List mm_Row) := [(0, cp_90_r0), (13, cp_90_r1), (14, cp_90_r2)]
def cp_90 : mm_M := (5, ⟨"WiringContainer", "isThread", "(I)Z"⟩, prog_1_method_22_code, 1, (some .boolean), cp_90_l)
-- 91: WiringContainer.markOf(II)I
def cp_91_r0 : List mm_Row := [(.iload_n 0, 0, 0, 0, 0), (.iload_n 1, 0, 0, 0, 0), (.iconst 3, 0, 0, 3, 0), (.imul, 0, 0, 0, 0), (.ishr, 0, 0, 0, 0), (.bipush 7, 0, 0, 7, 0), (.iand, 0, 0, 0, 0), (.ireturn, 0, 0, 0, 0)]
def cp_91_l : List (Nat × List mm_Row) := [(0, cp_91_r0)]
def cp_91 : mm_M := (5, ⟨"WiringContainer", "markOf", "(II)I"⟩, prog_1_method_23_code, 2, (some .int), cp_91_l)
-- 92: WiringContainer.areMarks(I)Z
def cp_92_r0 : List mm_Row := [(.iload_n 0, 0, 0, 0, 0), (.ifCond .lt 23, 1, 0, 0, 0), (.iload_n 0, 0, 0, 0, 0), (.sipush 32767, 0, 0, 32767, 0), (.if_icmp .gt 16, 1, 0, 0, 0), (.iload_n 0, 0, 0, 0, 0), (.iconst 1, 0, 0, 1, 0), (.invokestatic 210, 91, 18, 0, 0), (.iconst 1, 0, 0, 1, 0), (.if_icmp .gt 7, 1, 0, 0, 0), (.iconst 1, 0, 0, 1, 0), (.goto 4, 2, 0, 0, 0)]
def cp_92_r1 : List mm_Row := [(.iconst 0, 0, 0, 0, 0), (.ireturn, 0, 0, 0, 0)]
def cp_92_r2 : List mm_Row := [(.ireturn, 0, 0, 0, 0)]
def cp_92_l : List (Nat × List mm_Row) := [(0, cp_92_r0), (24, cp_92_r1), (25, cp_92_r2)]
def cp_92 : mm_M := (5, ⟨"WiringContainer", "areMarks", "(I)Z"⟩, prog_1_method_24_code, 1, (some .boolean), cp_92_l)
-- 93: WiringContainer.areBeanTraits(III)Z
def cp_93_r0 : List mm_Row := [(.iload_n 0, 0, 0, 0, 0), (.invokestatic 213, 92, 49, 0, 0), (.ifCond .eq 27, 1, 0, 0, 0), (.iload_n 1, 0, 0, 0, 0), (.ifCond .lt 23, 1, 0, 0, 0), (.iload_n 1, 0, 0, 0, 0), (.iconst 2, 0, 0, 2, 0), (.if_icmp .gt 18, 1, 0, 0, 0), (.iload_n 2, 0, 0, 0, 0), (.iconst (-1), 0, 0, (-1), 0), (.if_icmp .lt 13, 1, 0, 0, 0), (.iload_n 2, 0, 0, 0, 0), (.bipush 100, 0, 0, 100, 0), (.if_icmp .gt 7, 1, 0, 0, 0), (.iconst 1, 0, 0, 1, 0), (.goto 4, 2, 0, 0, 0)]
def cp_93_r1 : List mm_Row := [(.iconst 0, 0, 0, 0, 0), (.ireturn, 0, 0, 0, 0)]
def cp_93_r2 : List mm_Row := [(.ireturn, 0, 0, 0, 0)]
def cp_93_l : List (Nat × List mm_Row) := [(0, cp_93_r0), (31, cp_93_r1), (32, cp_93_r2)]
def cp_93 : mm_M := (5, ⟨"WiringContainer", "areBeanTraits", "(III)Z"⟩, prog_1_method_25_code, 3, (some .boolean), cp_93_l)
-- 94: WiringContainer.isRequirement(II)Z
def cp_94_r0 : List mm_Row := [(.aload_n 0, 0, 0, 0, 0), (.getfield 10, 5, 0, 0, 0), (.iload_n 1, 0, 0, 0, 0), (.invokevirtual 119, 29, 114, 0, 0), (.ifCond .eq 19, 2, 0, 0, 0), (.iload_n 2, 0, 0, 0, 0), (.iconst (-1), 0, 0, (-1), 0), (.if_icmp .eq 10, 1, 0, 0, 0), (.iload_n 2, 0, 0, 0, 0), (.invokestatic 213, 92, 49, 0, 0), (.ifCond .eq 7, 2, 0, 0, 0), (.iconst 1, 0, 0, 1, 0), (.goto 4, 3, 0, 0, 0)]
def cp_94_r1 : List mm_Row := [(.iconst 1, 0, 0, 1, 0), (.goto 4, 3, 0, 0, 0)]
def cp_94_r2 : List mm_Row := [(.iconst 0, 0, 0, 0, 0), (.ireturn, 0, 0, 0, 0)]
def cp_94_r3 : List mm_Row := [(.ireturn, 0, 0, 0, 0)]
def cp_94_l : List (Nat × List mm_Row) := [(0, cp_94_r0), (23, cp_94_r1), (27, cp_94_r2), (28, cp_94_r3)]
def cp_94 : mm_M := (5, ⟨"WiringContainer", "isRequirement", "(II)Z"⟩, prog_1_method_26_code, 3, (some .boolean), cp_94_l)
-- 95: WiringContainer.reach(II)I
def cp_95_r0 : List mm_Row := [(.aload_n 0, 0, 0, 0, 0), (.getfield 21, 5, 1, 0, 0), (.iload_n 2, 0, 0, 0, 0), (.invokevirtual 216, 9, 18, 0, 0), (.iconst 2, 0, 0, 2, 0), (.if_icmp .ne 7, 1, 0, 0, 0), (.iconst 3, 0, 0, 3, 0), (.goto 4, 2, 0, 0, 0)]
def cp_95_r1 : List mm_Row := [(.iload_n 1, 0, 0, 0, 0), (.istore_n 3, 0, 0, 0, 0), (.aload_n 0, 0, 0, 0, 0), (.getfield 44, 5, 4, 0, 0), (.iload_n 3, 0, 0, 0, 0), (.invokevirtual 156, 40, 178, 0, 0), (.ifCond .ne 6, 3, 0, 0, 0), (.bipush (-7), 0, 0, (-7), 0), (.ireturn, 0, 0, 0, 0)]
def cp_95_r2 : List mm_Row := [(.istore_n 3, 0, 0, 0, 0), (.aload_n 0, 0, 0, 0, 0), (.getfield 44, 5, 4, 0, 0), (.iload_n 3, 0, 0, 0, 0), (.invokevirtual 156, 40, 178, 0, 0), (.ifCond .ne 6, 3, 0, 0, 0), (.bipush (-7), 0, 0, (-7), 0), (.ireturn, 0, 0, 0, 0)]
def cp_95_r3 : List mm_Row := [(.aload_n 0, 0, 0, 0, 0), (.getfield 44, 5, 4, 0, 0), (.iload_n 3, 0, 0, 0, 0), (.iload_n 2, 0, 0, 0, 0), (.invokevirtual 219, 43, 147, 0, 0), (.istore 4, 0, 0, 0, 0), (.iload 4, 0, 0, 0, 0), (.ifCond .le 6, 4, 0, 0, 0), (.iload 4, 0, 0, 0, 0), (.ireturn, 0, 0, 0, 0)]
def cp_95_r4 : List mm_Row := [(.aload_n 0, 0, 0, 0, 0), (.iload_n 2, 0, 0, 0, 0), (.invokevirtual 168, 96, 338, 0, 0), (.istore 5, 0, 0, 0, 0), (.iload 5, 0, 0, 0, 0), (.ifCond .le 14, 5, 0, 0, 0), (.aload_n 0, 0, 0, 0, 0), (.getfield 44, 5, 4, 0, 0), (.iload_n 3, 0, 0, 0, 0), (.iload_n 2, 0, 0, 0, 0), (.iload 5, 0, 0, 0, 0), (.invokevirtual 222, 44, 132, 0, 0), (.iload 5, 0, 0, 0, 0), (.ireturn, 0, 0, 0, 0)]
def cp_95_r5 : List mm_Row := [(.iload 5, 0, 0, 0, 0), (.ireturn, 0, 0, 0, 0)]
def cp_95_l : List (Nat × List mm_Row) := [(0, cp_95_r0), (16, cp_95_r1), (17, cp_95_r2), (32, cp_95_r3), (51, cp_95_r4), (74, cp_95_r5)]
def cp_95 : mm_M := (5, ⟨"WiringContainer", "reach", "(II)I"⟩, prog_1_method_27_code, 6, (some .int), cp_95_l)
-- 96: WiringContainer.makeOrRefuse(I)I
def cp_96_r0 : List mm_Row := [(.aload_n 0, 0, 0, 0, 0), (.getfield 30, 5, 2, 0, 0), (.iload_n 1, 0, 0, 0, 0), (.invokevirtual 150, 61, 274, 0, 0), (.istore_n 2, 0, 0, 0, 0), (.iload_n 2, 0, 0, 0, 0), (.bipush 10, 0, 0, 10, 0), (.if_icmp .gt 14, 1, 0, 0, 0), (.iload_n 2, 0, 0, 0, 0), (.aload_n 0, 0, 0, 0, 0), (.getfield 37, 5, 3, 0, 0), (.invokevirtual 226, 49, 209, 0, 0), (.if_icmp .le 6, 2, 0, 0, 0), (.bipush (-2), 0, 0, (-2), 0), (.ireturn, 0, 0, 0, 0)]
def cp_96_r1 : List mm_Row := [(.bipush (-2), 0, 0, (-2), 0), (.ireturn, 0, 0, 0, 0)]
def cp_96_r2 : List mm_Row := [(.aload_n 0, 0, 0, 0, 0), (.iload_n 1, 0, 0, 0, 0), (.iconst 0, 0, 0, 0, 0), (.iconst 0, 0, 0, 0, 0), (.invokevirtual 229, 97, 340, 0, 0), (.ireturn, 0, 0, 0, 0)]
def cp_96_l : List (Nat × List mm_Row) := [(0, cp_96_r0), (26, cp_96_r1), (29, cp_96_r2)]
def cp_96 : mm_M := (5, ⟨"WiringContainer", "makeOrRefuse", "(I)I"⟩, prog_1_method_28_code, 3, (some .int), cp_96_l)
-- 97: WiringContainer.make(III)I
def cp_97_r0 : List mm_Row := [(.iload_n 3, 0, 0, 0, 0), (.bipush 10, 0, 0, 10, 0), (.if_icmp .le 5, 1, 0, 0, 0), (.iconst 0, 0, 0, 0, 0), (.ireturn, 0, 0, 0, 0)]
def cp_97_r1 : List mm_Row := [(.aload_n 0, 0, 0, 0, 0), (.getfield 21, 5, 1, 0, 0), (.iload_n 1, 0, 0, 0, 0), (.invokevirtual 232, 10, 18, 0, 0), (.istore 4, 0, 0, 0, 0), (.iload 4, 0, 0, 0, 0), (.iconst (-1), 0, 0, (-1), 0), (.if_icmp .ne 7, 2, 0, 0, 0), (.iconst 0, 0, 0, 0, 0), (.goto 13, 3, 0, 0, 0)]
def cp_97_r2 : List mm_Row := [(.aload_n 0, 0, 0, 0, 0), (.iload 4, 0, 0, 0, 0), (.iconst 0, 0, 0, 0, 0), (.iload_n 3, 0, 0, 0, 0), (.iconst 1, 0, 0, 1, 0), (.iadd, 0, 0, 0, 0), (.invokevirtual 229, 97, 340, 0, 0), (.istore 5, 0, 0, 0, 0), (.aload_n 0, 0, 0, 0, 0), (.getfield 37, 5, 3, 0, 0), (.iload_n 1, 0, 0, 0, 0), (.iload_n 2, 0, 0, 0, 0), (.invokevirtual 235, 57, 211, 0, 0), (.istore 6, 0, 0, 0, 0), (.iconst 0, 0, 0, 0, 0), (.istore 7, 0, 0, 0, 0), (.iload 7, 0, 0, 0, 0), (.aload_n 0, 0, 0, 0, 0), (.getfield 21, 5, 1, 0, 0), (.iload_n 1, 0, 0, 0, 0), (.invokevirtual 105, 11, 18, 0, 0), (.if_icmp .ge 55, 6, 0, 0, 0), (.aload_n 0, 0, 0, 0, 0), (.getfield 30, 5, 2, 0, 0), (.iload_n 1, 0, 0, 0, 0), (.iload 7, 0, 0, 0, 0), (.invokevirtual 186, 60, 275, 0, 0), (.istore 8, 0, 0, 0, 0), (.aload_n 0, 0, 0, 0, 0), (.getfield 21, 5, 1, 0, 0), (.iload 8, 0, 0, 0, 0), (.invokevirtual 165, 16, 50, 0, 0), (.ifCond .eq 25, 5, 0, 0, 0), (.aload_n 0, 0, 0, 0, 0), (.getfield 37, 5, 3, 0, 0), (.iload 6, 0, 0, 0, 0), (.iload 7, 0, 0, 0, 0), (.aload_n 0, 0, 0, 0, 0), (.iload 8, 0, 0, 0, 0), (.iload 6, 0, 0, 0, 0), (.iload_n 3, 0, 0, 0, 0), (.iconst 1, 0, 0, 1, 0), (.iadd, 0, 0, 0, 0), (.invokevirtual 229, 97, 340, 0, 0), (.invokevirtual 237, 58, 196, 0, 0), (.iinc 7 1, 0, 0, 1, 0), (.goto (-62), 4, 0, 0, 0)]
def cp_97_r3 : List mm_Row := [(.istore 5, 0, 0, 0, 0), (.aload_n 0, 0, 0, 0, 0), (.getfield 37, 5, 3, 0, 0), (.iload_n 1, 0, 0, 0, 0), (.iload_n 2, 0, 0, 0, 0), (.invokevirtual 235, 57, 211, 0, 0), (.istore 6, 0, 0, 0, 0), (.iconst 0, 0, 0, 0, 0), (.istore 7, 0, 0, 0, 0), (.iload 7, 0, 0, 0, 0), (.aload_n 0, 0, 0, 0, 0), (.getfield 21, 5, 1, 0, 0), (.iload_n 1, 0, 0, 0, 0), (.invokevirtual 105, 11, 18, 0, 0), (.if_icmp .ge 55, 6, 0, 0, 0), (.aload_n 0, 0, 0, 0, 0), (.getfield 30, 5, 2, 0, 0), (.iload_n 1, 0, 0, 0, 0), (.iload 7, 0, 0, 0, 0), (.invokevirtual 186, 60, 275, 0, 0), (.istore 8, 0, 0, 0, 0), (.aload_n 0, 0, 0, 0, 0), (.getfield 21, 5, 1, 0, 0), (.iload 8, 0, 0, 0, 0), (.invokevirtual 165, 16, 50, 0, 0), (.ifCond .eq 25, 5, 0, 0, 0), (.aload_n 0, 0, 0, 0, 0), (.getfield 37, 5, 3, 0, 0), (.iload 6, 0, 0, 0, 0), (.iload 7, 0, 0, 0, 0), (.aload_n 0, 0, 0, 0, 0), (.iload 8, 0, 0, 0, 0), (.iload 6, 0, 0, 0, 0), (.iload_n 3, 0, 0, 0, 0), (.iconst 1, 0, 0, 1, 0), (.iadd, 0, 0, 0, 0), (.invokevirtual 229, 97, 340, 0, 0), (.invokevirtual 237, 58, 196, 0, 0), (.iinc 7 1, 0, 0, 1, 0), (.goto (-62), 4, 0, 0, 0)]
def cp_97_r4 : List mm_Row := [(.iload 7, 0, 0, 0, 0), (.aload_n 0, 0, 0, 0, 0), (.getfield 21, 5, 1, 0, 0), (.iload_n 1, 0, 0, 0, 0), (.invokevirtual 105, 11, 18, 0, 0), (.if_icmp .ge 55, 6, 0, 0, 0), (.aload_n 0, 0, 0, 0, 0), (.getfield 30, 5, 2, 0, 0), (.iload_n 1, 0, 0, 0, 0), (.iload 7, 0, 0, 0, 0), (.invokevirtual 186, 60, 275, 0, 0), (.istore 8, 0, 0, 0, 0), (.aload_n 0, 0, 0, 0, 0), (.getfield 21, 5, 1, 0, 0), (.iload 8, 0, 0, 0, 0), (.invokevirtual 165, 16, 50, 0, 0), (.ifCond .eq 25, 5, 0, 0, 0), (.aload_n 0, 0, 0, 0, 0), (.getfield 37, 5, 3, 0, 0), (.iload 6, 0, 0, 0, 0), (.iload 7, 0, 0, 0, 0), (.aload_n 0, 0, 0, 0, 0), (.iload 8, 0, 0, 0, 0), (.iload 6, 0, 0, 0, 0), (.iload_n 3, 0, 0, 0, 0), (.iconst 1, 0, 0, 1, 0), (.iadd, 0, 0, 0, 0), (.invokevirtual 229, 97, 340, 0, 0), (.invokevirtual 237, 58, 196, 0, 0), (.iinc 7 1, 0, 0, 1, 0), (.goto (-62), 4, 0, 0, 0)]
def cp_97_r5 : List mm_Row := [(.iinc 7 1, 0, 0, 1, 0), (.goto (-62), 4, 0, 0, 0)]
def cp_97_r6 : List mm_Row := [(.aload_n 0, 0, 0, 0, 0), (.getfield 37, 5, 3, 0, 0), (.iload 5, 0, 0, 0, 0), (.iconst 0, 0, 0, 0, 0), (.invokevirtual 198, 59, 195, 0, 0), (.iload 6, 0, 0, 0, 0), (.ireturn, 0, 0, 0, 0)]
def cp_97_l : List (Nat × List mm_Row) := [(0, cp_97_r0), (8, cp_97_r1), (28, cp_97_r2), (38, cp_97_r3), (54, cp_97_r4), (113, cp_97_r5), (119, cp_97_r6)]
def cp_97 : mm_M := (5, ⟨"WiringContainer", "make", "(III)I"⟩, prog_1_method_29_code, 9, (some .int), cp_97_l)
-- 98: WiringContainer.endContext(I)V
def cp_98_r0 : List mm_Row := [(.iconst 0, 0, 0, 0, 0), (.istore_n 2, 0, 0, 0, 0), (.iload_n 2, 0, 0, 0, 0), (.bipush 16, 0, 0, 16, 0), (.if_icmp .ge 25, 2, 0, 0, 0), (.aload_n 0, 0, 0, 0, 0), (.getfield 37, 5, 3, 0, 0), (.aload_n 0, 0, 0, 0, 0), (.getfield 44, 5, 4, 0, 0), (.iload_n 1, 0, 0, 0, 0), (.invokevirtual 240, 45, 146, 0, 0), (.iconst 0, 0, 0, 0, 0), (.invokevirtual 198, 59, 195, 0, 0), (.iinc 2 1, 0, 0, 1, 0), (.goto (-25), 1, 0, 0, 0)]
def cp_98_r1 : List mm_Row := [(.iload_n 2, 0, 0, 0, 0), (.bipush 16, 0, 0, 16, 0), (.if_icmp .ge 25, 2, 0, 0, 0), (.aload_n 0, 0, 0, 0, 0), (.getfield 37, 5, 3, 0, 0), (.aload_n 0, 0, 0, 0, 0), (.getfield 44, 5, 4, 0, 0), (.iload_n 1, 0, 0, 0, 0), (.invokevirtual 240, 45, 146, 0, 0), (.iconst 0, 0, 0, 0, 0), (.invokevirtual 198, 59, 195, 0, 0), (.iinc 2 1, 0, 0, 1, 0), (.goto (-25), 1, 0, 0, 0)]
def cp_98_r2 : List mm_Row := [(.aload_n 0, 0, 0, 0, 0), (.getfield 44, 5, 4, 0, 0), (.iload_n 1, 0, 0, 0, 0), (.invokevirtual 243, 42, 130, 0, 0), (.return_, 0, 0, 0, 0)]
def cp_98_l : List (Nat × List mm_Row) := [(0, cp_98_r0), (2, cp_98_r1), (30, cp_98_r2)]
def cp_98 : mm_M := (5, ⟨"WiringContainer", "endContext", "(I)V"⟩, prog_1_method_30_code, 3, none, cp_98_l)
-- 99: WiringContainer.destroyObtained()V
def cp_99_r0 : List mm_Row := [(.sipush 200, 0, 0, 200, 0), (.istore_n 1, 0, 0, 0, 0), (.iload_n 1, 0, 0, 0, 0), (.iconst 1, 0, 0, 1, 0), (.if_icmp .lt 58, 3, 0, 0, 0), (.aload_n 0, 0, 0, 0, 0), (.getfield 37, 5, 3, 0, 0), (.iload_n 1, 0, 0, 0, 0), (.invokevirtual 177, 53, 242, 0, 0), (.ifCond .eq 41, 2, 0, 0, 0), (.aload_n 0, 0, 0, 0, 0), (.getfield 37, 5, 3, 0, 0), (.iload_n 1, 0, 0, 0, 0), (.invokevirtual 192, 55, 210, 0, 0), (.ifCond .ne 30, 2, 0, 0, 0), (.aload_n 0, 0, 0, 0, 0), (.getfield 21, 5, 1, 0, 0), (.aload_n 0, 0, 0, 0, 0), (.getfield 37, 5, 3, 0, 0), (.iload_n 1, 0, 0, 0, 0), (.invokevirtual 180, 54, 210, 0, 0), (.invokevirtual 165, 16, 50, 0, 0), (.ifCond .eq 12, 2, 0, 0, 0), (.aload_n 0, 0, 0, 0, 0), (.getfield 37, 5, 3, 0, 0), (.iload_n 1, 0, 0, 0, 0), (.iconst 0, 0, 0, 0, 0), (.invokevirtual 198, 59, 195, 0, 0), (.iinc 1 (-1), 0, 0, (-1), 0), (.goto (-57), 1, 0, 0, 0)]
def cp_99_r1 : List mm_Row := [(.iload_n 1, 0, 0, 0, 0), (.iconst 1, 0, 0, 1, 0), (.if_icmp .lt 58, 3, 0, 0, 0), (.aload_n 0, 0, 0, 0, 0), (.getfield 37, 5, 3, 0, 0), (.iload_n 1, 0, 0, 0, 0), (.invokevirtual 177, 53, 242, 0, 0), (.ifCond .eq 41, 2, 0, 0, 0), (.aload_n 0, 0, 0, 0, 0), (.getfield 37, 5, 3, 0, 0), (.iload_n 1, 0, 0, 0, 0), (.invokevirtual 192, 55, 210, 0, 0), (.ifCond .ne 30, 2, 0, 0, 0), (.aload_n 0, 0, 0, 0, 0), (.getfield 21, 5, 1, 0, 0), (.aload_n 0, 0, 0, 0, 0), (.getfield 37, 5, 3, 0, 0), (.iload_n 1, 0, 0, 0, 0), (.invokevirtual 180, 54, 210, 0, 0), (.invokevirtual 165, 16, 50, 0, 0), (.ifCond .eq 12, 2, 0, 0, 0), (.aload_n 0, 0, 0, 0, 0), (.getfield 37, 5, 3, 0, 0), (.iload_n 1, 0, 0, 0, 0), (.iconst 0, 0, 0, 0, 0), (.invokevirtual 198, 59, 195, 0, 0), (.iinc 1 (-1), 0, 0, (-1), 0), (.goto (-57), 1, 0, 0, 0)]
def cp_99_r2 : List mm_Row := [(.iinc 1 (-1), 0, 0, (-1), 0), (.goto (-57), 1, 0, 0, 0)]
def cp_99_r3 : List mm_Row := [(.return_, 0, 0, 0, 0)]
def cp_99_l : List (Nat × List mm_Row) := [(0, cp_99_r0), (4, cp_99_r1), (58, cp_99_r2), (64, cp_99_r3)]
def cp_99 : mm_M := (5, ⟨"WiringContainer", "destroyObtained", "()V"⟩, prog_1_method_31_code, 2, none, cp_99_l)
-- 100: java/lang/Integer.bitCount(I)I
def cp_100_r0 : List mm_Row := [(.iload_n 0, 0, 0, 0, 0), (.iload_n 0, 0, 0, 0, 0), (.iconst 1, 0, 0, 1, 0), (.iushr, 0, 0, 0, 0), (.ldc_w 265, 0, 0, 1431655765, 0), (.iand, 0, 0, 0, 0), (.isub, 0, 0, 0, 0), (.istore_n 0, 0, 0, 0, 0), (.iload_n 0, 0, 0, 0, 0), (.ldc_w 266, 0, 0, 858993459, 0), (.iand, 0, 0, 0, 0), (.iload_n 0, 0, 0, 0, 0), (.iconst 2, 0, 0, 2, 0), (.iushr, 0, 0, 0, 0), (.ldc_w 266, 0, 0, 858993459, 0), (.iand, 0, 0, 0, 0), (.iadd, 0, 0, 0, 0), (.istore_n 0, 0, 0, 0, 0), (.iload_n 0, 0, 0, 0, 0), (.iload_n 0, 0, 0, 0, 0), (.iconst 4, 0, 0, 4, 0), (.iushr, 0, 0, 0, 0), (.iadd, 0, 0, 0, 0), (.ldc_w 267, 0, 0, 252645135, 0), (.iand, 0, 0, 0, 0), (.istore_n 0, 0, 0, 0, 0), (.iload_n 0, 0, 0, 0, 0), (.iload_n 0, 0, 0, 0, 0), (.bipush 8, 0, 0, 8, 0), (.iushr, 0, 0, 0, 0), (.iadd, 0, 0, 0, 0), (.istore_n 0, 0, 0, 0, 0), (.iload_n 0, 0, 0, 0, 0), (.iload_n 0, 0, 0, 0, 0), (.bipush 16, 0, 0, 16, 0), (.iushr, 0, 0, 0, 0), (.iadd, 0, 0, 0, 0), (.istore_n 0, 0, 0, 0, 0), (.iload_n 0, 0, 0, 0, 0), (.bipush 63, 0, 0, 63, 0), (.iand, 0, 0, 0, 0), (.ireturn, 0, 0, 0, 0)]
def cp_100_l : List (Nat × List mm_Row) := [(0, cp_100_r0)]
def cp_100 : mm_M := (7, ⟨"java/lang/Integer", "bitCount", "(I)I"⟩, prog_9_method_49_code, 1, (some .int), cp_100_l)
def cp_P : List mm_M := [cp_0, cp_1, cp_2, cp_3, cp_4, cp_5, cp_6, cp_7, cp_8, cp_9, cp_10, cp_11, cp_12, cp_13, cp_14, cp_15, cp_16, cp_17, cp_18, cp_19, cp_20, cp_21, cp_22, cp_23, cp_24, cp_25, cp_26, cp_27, cp_28, cp_29, cp_30, cp_31, cp_32, cp_33, cp_34, cp_35, cp_36, cp_37, cp_38, cp_39, cp_40, cp_41, cp_42, cp_43, cp_44, cp_45, cp_46, cp_47, cp_48, cp_49, cp_50, cp_51, cp_52, cp_53, cp_54, cp_55, cp_56, cp_57, cp_58, cp_59, cp_60, cp_61, cp_62, cp_63, cp_64, cp_65, cp_66, cp_67, cp_68, cp_69, cp_70, cp_71, cp_72, cp_73, cp_74, cp_75, cp_76, cp_77, cp_78, cp_79, cp_80, cp_81, cp_82, cp_83, cp_84, cp_85, cp_86, cp_87, cp_88, cp_89, cp_90, cp_91, cp_92, cp_93, cp_94, cp_95, cp_96, cp_97, cp_98, cp_99, cp_100]
def cp_K : mm_Lk := ([(0, 9, 0, 2), (0, 15, 0, 3), (0, 18, 0, 4), (0, 21, 0, 5), (0, 24, 0, 6), (0, 27, 0, 7), (0, 31, 0, 8), (0, 36, 0, 9), (0, 39, 0, 10), (0, 42, 0, 0), (0, 46, 0, 1), (1, 9, 1, 1), (1, 15, 1, 2), (1, 18, 1, 3), (1, 22, 1, 4), (1, 25, 1, 5), (1, 28, 1, 6), (1, 31, 1, 7), (1, 35, 1, 0), (1, 56, 1, 8), (2, 9, 2, 0), (2, 17, 2, 1), (3, 9, 3, 3), (3, 15, 3, 4), (3, 18, 3, 5), (3, 24, 3, 6), (3, 27, 3, 7), (3, 30, 3, 0), (3, 34, 3, 1), (3, 37, 3, 2), (4, 11, 4, 2), (4, 16, 4, 3), (4, 20, 4, 4), (4, 23, 4, 0), (4, 27, 4, 1), (5, 10, 5, 0), (5, 21, 5, 1), (5, 30, 5, 2), (5, 37, 5, 3), (5, 44, 5, 4), (5, 48, 5, 5)], [(0, 50, 0, 49), (0, 54, 1, 50), (0, 58, 15, 50), (0, 61, 11, 18), (0, 65, 12, 51), (0, 69, 20, 19), (0, 73, 21, 18), (0, 81, 18, 50), (0, 84, 23, 51), (0, 87, 34, 116), (0, 93, 22, 18), (1, 39, 38, 117), (1, 49, 24, 113), (1, 53, 30, 83), (1, 59, 37, 66), (1, 65, 36, 99), (1, 69, 35, 116), (1, 73, 34, 116), (1, 80, 25, 114), (1, 84, 39, 117), (3, 40, 53, 242), (3, 44, 59, 195), (4, 31, 12, 51), (4, 37, 1, 50), (4, 41, 2, 17), (4, 45, 18, 50), (4, 48, 64, 274), (4, 52, 17, 50), (4, 55, 7, 18), (4, 61, 66, 258), (4, 65, 67, 305), (4, 69, 68, 305), (4, 72, 69, 274), (4, 75, 11, 18), (4, 78, 13, 19), (4, 82, 14, 19), (4, 85, 19, 19), (4, 88, 26, 114), (4, 93, 10, 18), (4, 96, 16, 50), (4, 99, 8, 18), (4, 102, 21, 18), (4, 110, 61, 274), (5, 52, 24, 113), (5, 56, 27, 115), (5, 60, 30, 83), (5, 64, 31, 85), (5, 68, 0, 49), (5, 69, 25, 114), (5, 77, 32, 82), (5, 81, 3, 21), (5, 84, 4, 2), (5, 88, 15, 50), (5, 91, 28, 114), (5, 94, 5, 3), (5, 98, 1, 50), (5, 101, 94, 371), (5, 105, 11, 18), (5, 108, 6, 20), (5, 112, 7, 18), (5, 115, 33, 82), (5, 119, 29, 114), (5, 122, 34, 116), (5, 126, 20, 19), (5, 134, 19, 19), (5, 137, 62, 273), (5, 141, 63, 257), (5, 144, 41, 130), (5, 147, 18, 50), (5, 150, 61, 274), (5, 156, 40, 178), (5, 159, 51, 209), (5, 162, 98, 322), (5, 165, 16, 50), (5, 168, 96, 338), (5, 171, 26, 114), (5, 174, 95, 339), (5, 177, 53, 242), (5, 180, 54, 210), (5, 183, 12, 51), (5, 186, 60, 275), (5, 189, 56, 211), (5, 192, 55, 210), (5, 195, 46, 131), (5, 198, 59, 195), (5, 201, 99, 321), (5, 204, 52, 210), (5, 207, 50, 209), (5, 216, 9, 18), (5, 219, 43, 147), (5, 222, 44, 132), (5, 226, 49, 209), (5, 229, 97, 340), (5, 232, 10, 18), (5, 235, 57, 211), (5, 237, 58, 196), (5, 240, 45, 146), (5, 243, 42, 130)], [(0, 76, 100, 17), (0, 96, 1000, 18), (0, 101, 91, 18), (1, 43, 1000, 18), (2, 20, 47, 49), (2, 24, 48, 49), (4, 58, 65, 49), (4, 105, 100, 17), (4, 113, 1001, 18), (5, 73, 93, 51), (5, 129, 100, 17), (5, 153, 90, 49), (5, 210, 91, 18), (5, 213, 92, 49)], [(7, 265, 1431655765), (7, 266, 858993459), (7, 267, 252645135)], [(1, 63, 31), (1, 76, 30), (1, 78, 29)])
end
section
/-! THE REFERENCE: its methods as rows (by program, out of the printed decode rows and words) -/
-- 0: WiringContainerModel.written(IIZZ)Z
def rp_0_r0 : List mm_Row := [(.iload_n 1, 0, 0, 0, 0), (.istore 5, 0, 0, 0, 0), (.iconst 0, 0, 0, 0, 0), (.istore 6, 0, 0, 0, 0), (.iconst 0, 0, 0, 0, 0), (.istore 7, 0, 0, 0, 0), (.iload_n 1, 0, 0, 0, 0), (.ifCond .gt 5, 1, 0, 0, 0), (.iconst 0, 0, 0, 0, 0), (.ireturn, 0, 0, 0, 0)]
def rp_0_r1 : List mm_Row := [(.iload 5, 0, 0, 0, 0), (.ifCond .eq 159, 15, 0, 0, 0), (.iload 5, 0, 0, 0, 0), (.bipush 31, 0, 0, 31, 0), (.iand, 0, 0, 0, 0), (.istore 8, 0, 0, 0, 0), (.iload 5, 0, 0, 0, 0), (.iconst 5, 0, 0, 5, 0), (.ishr, 0, 0, 0, 0), (.istore 5, 0, 0, 0, 0), (.iinc 7 1, 0, 0, 1, 0), (.iload 8, 0, 0, 0, 0), (.iconst 1, 0, 0, 1, 0), (.if_icmp .lt 16, 2, 0, 0, 0), (.iload 8, 0, 0, 0, 0), (.aload_n 0, 0, 0, 0, 0), (.getfield 7, 6, 0, 0, 0), (.if_icmp .gt 7, 2, 0, 0, 0), (.iconst 1, 0, 0, 1, 0), (.goto 4, 3, 0, 0, 0)]
def rp_0_r2 : List mm_Row := [(.iconst 0, 0, 0, 0, 0), (.istore 9, 0, 0, 0, 0), (.iload_n 3, 0, 0, 0, 0), (.ifCond .eq 21, 5, 0, 0, 0), (.iload 8, 0, 0, 0, 0), (.bipush 29, 0, 0, 29, 0), (.if_icmp .eq 10, 4, 0, 0, 0), (.iload 8, 0, 0, 0, 0), (.bipush 30, 0, 0, 30, 0), (.if_icmp .ne 7, 5, 0, 0, 0), (.iconst 1, 0, 0, 1, 0), (.goto 4, 6, 0, 0, 0)]
def rp_0_r3 : List mm_Row := [(.istore 9, 0, 0, 0, 0), (.iload_n 3, 0, 0, 0, 0), (.ifCond .eq 21, 5, 0, 0, 0), (.iload 8, 0, 0, 0, 0), (.bipush 29, 0, 0, 29, 0), (.if_icmp .eq 10, 4, 0, 0, 0), (.iload 8, 0, 0, 0, 0), (.bipush 30, 0, 0, 30, 0), (.if_icmp .ne 7, 5, 0, 0, 0), (.iconst 1, 0, 0, 1, 0), (.goto 4, 6, 0, 0, 0)]
def rp_0_r4 : List mm_Row := [(.iconst 1, 0, 0, 1, 0), (.goto 4, 6, 0, 0, 0)]
def rp_0_r5 : List mm_Row := [(.iconst 0, 0, 0, 0, 0), (.istore 10, 0, 0, 0, 0), (.iload 4, 0, 0, 0, 0), (.ifCond .eq 14, 7, 0, 0, 0), (.iload 8, 0, 0, 0, 0), (.bipush 31, 0, 0, 31, 0), (.if_icmp .ne 7, 7, 0, 0, 0), (.iconst 1, 0, 0, 1, 0), (.goto 4, 8, 0, 0, 0)]
def rp_0_r6 : List mm_Row := [(.istore 10, 0, 0, 0, 0), (.iload 4, 0, 0, 0, 0), (.ifCond .eq 14, 7, 0, 0, 0), (.iload 8, 0, 0, 0, 0), (.bipush 31, 0, 0, 31, 0), (.if_icmp .ne 7, 7, 0, 0, 0), (.iconst 1, 0, 0, 1, 0), (.goto 4, 8, 0, 0, 0)]
def rp_0_r7 : List mm_Row := [(.iconst 0, 0, 0, 0, 0), (.istore 11, 0, 0, 0, 0), (.iload 7, 0, 0, 0, 0), (.iload_n 2, 0, 0, 0, 0), (.if_icmp .gt 29, 9, 0, 0, 0), (.iload 6, 0, 0, 0, 0), (.iconst 2, 0, 0, 2, 0), (.if_icmp .eq 23, 9, 0, 0, 0), (.iload 9, 0, 0, 0, 0), (.ifCond .ne 20, 10, 0, 0, 0), (.iload 6, 0, 0, 0, 0), (.ifCond .eq 13, 9, 0, 0, 0), (.iload 10, 0, 0, 0, 0), (.ifCond .ne 10, 10, 0, 0, 0), (.iload 11, 0, 0, 0, 0), (.ifCond .ne 5, 10, 0, 0, 0), (.iconst 0, 0, 0, 0, 0), (.ireturn, 0, 0, 0, 0)]
def rp_0_r8 : List mm_Row := [(.istore 11, 0, 0, 0, 0), (.iload 7, 0, 0, 0, 0), (.iload_n 2, 0, 0, 0, 0), (.if_icmp .gt 29, 9, 0, 0, 0), (.iload 6, 0, 0, 0, 0), (.iconst 2, 0, 0, 2, 0), (.if_icmp .eq 23, 9, 0, 0, 0), (.iload 9, 0, 0, 0, 0), (.ifCond .ne 20, 10, 0, 0, 0), (.iload 6, 0, 0, 0, 0), (.ifCond .eq 13, 9, 0, 0, 0), (.iload 10, 0, 0, 0, 0), (.ifCond .ne 10, 10, 0, 0, 0), (.iload 11, 0, 0, 0, 0), (.ifCond .ne 5, 10, 0, 0, 0), (.iconst 0, 0, 0, 0, 0), (.ireturn, 0, 0, 0, 0)]
def rp_0_r9 : List mm_Row := [(.iconst 0, 0, 0, 0, 0), (.ireturn, 0, 0, 0, 0)]
def rp_0_r10 : List mm_Row := [(.iload 9, 0, 0, 0, 0), (.ifCond .eq 21, 12, 0, 0, 0), (.aload_n 0, 0, 0, 0, 0), (.getfield 13, 6, 1, 0, 0), (.iload 8, 0, 0, 0, 0), (.baload, 0, 0, 0, 0), (.ifCond .eq 7, 11, 0, 0, 0), (.iconst 1, 0, 0, 1, 0), (.goto 19, 14, 0, 0, 0)]
def rp_0_r11 : List mm_Row := [(.iconst 2, 0, 0, 2, 0), (.goto 15, 14, 0, 0, 0)]
def rp_0_r12 : List mm_Row := [(.iload 8, 0, 0, 0, 0), (.bipush 29, 0, 0, 29, 0), (.if_icmp .ne 7, 13, 0, 0, 0), (.iconst 0, 0, 0, 0, 0), (.goto 4, 14, 0, 0, 0)]
def rp_0_r13 : List mm_Row := [(.iconst 2, 0, 0, 2, 0), (.istore 6, 0, 0, 0, 0), (.goto (-158), 1, 0, 0, 0)]
def rp_0_r14 : List mm_Row := [(.istore 6, 0, 0, 0, 0), (.goto (-158), 1, 0, 0, 0)]
def rp_0_r15 : List mm_Row := [(.iload 6, 0, 0, 0, 0), (.ifCond .eq 7, 16, 0, 0, 0), (.iconst 1, 0, 0, 1, 0), (.goto 4, 17, 0, 0, 0)]
def rp_0_r16 : List mm_Row := [(.iconst 0, 0, 0, 0, 0), (.ireturn, 0, 0, 0, 0)]
def rp_0_r17 : List mm_Row := [(.ireturn, 0, 0, 0, 0)]
def rp_0_l : List (Nat × List mm_Row) := [(0, rp_0_r0), (15, rp_0_r1), (55, rp_0_r2), (56, rp_0_r3), (76, rp_0_r4), (80, rp_0_r5), (81, rp_0_r6), (99, rp_0_r7), (100, rp_0_r8), (134, rp_0_r9), (136, rp_0_r10), (155, rp_0_r11), (159, rp_0_r12), (170, rp_0_r13), (171, rp_0_r14), (176, rp_0_r15), (185, rp_0_r16), (186, rp_0_r17)]
def rp_0 : mm_M := (6, ⟨"WiringContainerModel", "written", "(IIZZ)Z"⟩, prog_8_method_2_code, 12, (some .boolean), rp_0_l)
-- 1: WiringContainerModel.required(I)Z
def rp_1_r0 : List mm_Row := [(.aload_n 0, 0, 0, 0, 0), (.iload_n 1, 0, 0, 0, 0), (.bipush 6, 0, 0, 6, 0), (.iconst 1, 0, 0, 1, 0), (.iconst 0, 0, 0, 0, 0), (.invokevirtual 115, 0, 437, 0, 0), (.ireturn, 0, 0, 0, 0)]
def rp_1_l : List (Nat × List mm_Row) := [(0, rp_1_r0)]
def rp_1 : mm_M := (6, ⟨"WiringContainerModel", "required", "(I)Z"⟩, prog_8_method_3_code, 2, (some .boolean), rp_1_l)
-- 2: WiringContainerModel.fine(I)Z
def rp_2_r0 : List mm_Row := [(.iload_n 0, 0, 0, 0, 0), (.ifCond .lt 24, 1, 0, 0, 0), (.iload_n 0, 0, 0, 0, 0), (.sipush 32767, 0, 0, 32767, 0), (.if_icmp .gt 17, 1, 0, 0, 0), (.iload_n 0, 0, 0, 0, 0), (.iconst 3, 0, 0, 3, 0), (.ishr, 0, 0, 0, 0), (.bipush 7, 0, 0, 7, 0), (.iand, 0, 0, 0, 0), (.iconst 1, 0, 0, 1, 0), (.if_icmp .gt 7, 1, 0, 0, 0), (.iconst 1, 0, 0, 1, 0), (.goto 4, 2, 0, 0, 0)]
def rp_2_r1 : List mm_Row := [(.iconst 0, 0, 0, 0, 0), (.ireturn, 0, 0, 0, 0)]
def rp_2_r2 : List mm_Row := [(.ireturn, 0, 0, 0, 0)]
def rp_2_l : List (Nat × List mm_Row) := [(0, rp_2_r0), (25, rp_2_r1), (26, rp_2_r2)]
def rp_2 : mm_M := (6, ⟨"WiringContainerModel", "fine", "(I)Z"⟩, prog_8_method_4_code, 1, (some .boolean), rp_2_l)
-- 3: WiringContainerModel.askable(I)Z
def rp_3_r0 : List mm_Row := [(.iload_n 0, 0, 0, 0, 0), (.iconst (-1), 0, 0, (-1), 0), (.if_icmp .eq 10, 1, 0, 0, 0), (.iload_n 0, 0, 0, 0, 0), (.invokestatic 119, 2, 49, 0, 0), (.ifCond .eq 7, 2, 0, 0, 0), (.iconst 1, 0, 0, 1, 0), (.goto 4, 3, 0, 0, 0)]
def rp_3_r1 : List mm_Row := [(.iconst 1, 0, 0, 1, 0), (.goto 4, 3, 0, 0, 0)]
def rp_3_r2 : List mm_Row := [(.iconst 0, 0, 0, 0, 0), (.ireturn, 0, 0, 0, 0)]
def rp_3_r3 : List mm_Row := [(.ireturn, 0, 0, 0, 0)]
def rp_3_l : List (Nat × List mm_Row) := [(0, rp_3_r0), (12, rp_3_r1), (16, rp_3_r2), (17, rp_3_r3)]
def rp_3 : mm_M := (6, ⟨"WiringContainerModel", "askable", "(I)Z"⟩, prog_8_method_5_code, 1, (some .boolean), rp_3_l)
-- 4: WiringContainerModel.parental(IZ)Z
def rp_4_r0 : List mm_Row := [(.iload_n 1, 0, 0, 0, 0), (.ifCond .ne 5, 1, 0, 0, 0), (.iconst 1, 0, 0, 1, 0), (.ireturn, 0, 0, 0, 0)]
def rp_4_r1 : List mm_Row := [(.aload_n 0, 0, 0, 0, 0), (.iload_n 1, 0, 0, 0, 0), (.iconst 3, 0, 0, 3, 0), (.iconst 0, 0, 0, 0, 0), (.iload_n 2, 0, 0, 0, 0), (.invokevirtual 115, 0, 437, 0, 0), (.ifCond .eq 27, 2, 0, 0, 0), (.aload_n 0, 0, 0, 0, 0), (.getfield 17, 6, 2, 0, 0), (.iload_n 1, 0, 0, 0, 0), (.bipush 31, 0, 0, 31, 0), (.iand, 0, 0, 0, 0), (.baload, 0, 0, 0, 0), (.ifCond .ne 15, 2, 0, 0, 0), (.iload_n 1, 0, 0, 0, 0), (.bipush 31, 0, 0, 31, 0), (.iand, 0, 0, 0, 0), (.iconst 1, 0, 0, 1, 0), (.if_icmp .eq 7, 2, 0, 0, 0), (.iconst 1, 0, 0, 1, 0), (.goto 4, 3, 0, 0, 0)]
def rp_4_r2 : List mm_Row := [(.iconst 0, 0, 0, 0, 0), (.ireturn, 0, 0, 0, 0)]
def rp_4_r3 : List mm_Row := [(.ireturn, 0, 0, 0, 0)]
def rp_4_l : List (Nat × List mm_Row) := [(0, rp_4_r0), (6, rp_4_r1), (41, rp_4_r2), (42, rp_4_r3)]
def rp_4 : mm_M := (6, ⟨"WiringContainerModel", "parental", "(IZ)Z"⟩, prog_8_method_6_code, 3, (some .boolean), rp_4_l)
-- 5: WiringContainerModel.declare(IIZZ)I
def rp_5_r0 : List mm_Row := [(.aload_n 0, 0, 0, 0, 0), (.getfield 123, 6, 15, 0, 0), (.ifCond .eq 6, 1, 0, 0, 0), (.bipush (-3), 0, 0, (-3), 0), (.ireturn, 0, 0, 0, 0)]
def rp_5_r1 : List mm_Row := [(.aload_n 0, 0, 0, 0, 0), (.getfield 7, 6, 0, 0, 0), (.bipush 13, 0, 0, 13, 0), (.if_icmp .lt 6, 2, 0, 0, 0), (.bipush (-2), 0, 0, (-2), 0), (.ireturn, 0, 0, 0, 0)]
def rp_5_r2 : List mm_Row := [(.aload_n 0, 0, 0, 0, 0), (.iload_n 1, 0, 0, 0, 0), (.iload_n 3, 0, 0, 0, 0), (.invokevirtual 127, 4, 435, 0, 0), (.ifCond .eq 12, 3, 0, 0, 0), (.aload_n 0, 0, 0, 0, 0), (.iload_n 2, 0, 0, 0, 0), (.iload_n 3, 0, 0, 0, 0), (.invokevirtual 127, 4, 435, 0, 0), (.ifCond .ne 5, 4, 0, 0, 0), (.iconst (-1), 0, 0, (-1), 0), (.ireturn, 0, 0, 0, 0)]
def rp_5_r3 : List mm_Row := [(.iconst (-1), 0, 0, (-1), 0), (.ireturn, 0, 0, 0, 0)]
def rp_5_r4 : List mm_Row := [(.iconst 0, 0, 0, 0, 0), (.istore 5, 0, 0, 0, 0), (.iload_n 1, 0, 0, 0, 0), (.ifCond .eq 33, 5, 0, 0, 0), (.aload_n 0, 0, 0, 0, 0), (.getfield 20, 6, 3, 0, 0), (.iload_n 1, 0, 0, 0, 0), (.bipush 31, 0, 0, 31, 0), (.iand, 0, 0, 0, 0), (.iaload, 0, 0, 0, 0), (.iconst 1, 0, 0, 1, 0), (.iadd, 0, 0, 0, 0), (.iload 5, 0, 0, 0, 0), (.if_icmp .le 17, 5, 0, 0, 0), (.aload_n 0, 0, 0, 0, 0), (.getfield 20, 6, 3, 0, 0), (.iload_n 1, 0, 0, 0, 0), (.bipush 31, 0, 0, 31, 0), (.iand, 0, 0, 0, 0), (.iaload, 0, 0, 0, 0), (.iconst 1, 0, 0, 1, 0), (.iadd, 0, 0, 0, 0), (.goto 5, 6, 0, 0, 0)]
def rp_5_r5 : List mm_Row := [(.iload 5, 0, 0, 0, 0), (.istore 5, 0, 0, 0, 0), (.iload_n 2, 0, 0, 0, 0), (.ifCond .eq 33, 7, 0, 0, 0), (.aload_n 0, 0, 0, 0, 0), (.getfield 20, 6, 3, 0, 0), (.iload_n 2, 0, 0, 0, 0), (.bipush 31, 0, 0, 31, 0), (.iand, 0, 0, 0, 0), (.iaload, 0, 0, 0, 0), (.iconst 1, 0, 0, 1, 0), (.iadd, 0, 0, 0, 0), (.iload 5, 0, 0, 0, 0), (.if_icmp .le 17, 7, 0, 0, 0), (.aload_n 0, 0, 0, 0, 0), (.getfield 20, 6, 3, 0, 0), (.iload_n 2, 0, 0, 0, 0), (.bipush 31, 0, 0, 31, 0), (.iand, 0, 0, 0, 0), (.iaload, 0, 0, 0, 0), (.iconst 1, 0, 0, 1, 0), (.iadd, 0, 0, 0, 0), (.goto 5, 8, 0, 0, 0)]
def rp_5_r6 : List mm_Row := [(.istore 5, 0, 0, 0, 0), (.iload_n 2, 0, 0, 0, 0), (.ifCond .eq 33, 7, 0, 0, 0), (.aload_n 0, 0, 0, 0, 0), (.getfield 20, 6, 3, 0, 0), (.iload_n 2, 0, 0, 0, 0), (.bipush 31, 0, 0, 31, 0), (.iand, 0, 0, 0, 0), (.iaload, 0, 0, 0, 0), (.iconst 1, 0, 0, 1, 0), (.iadd, 0, 0, 0, 0), (.iload 5, 0, 0, 0, 0), (.if_icmp .le 17, 7, 0, 0, 0), (.aload_n 0, 0, 0, 0, 0), (.getfield 20, 6, 3, 0, 0), (.iload_n 2, 0, 0, 0, 0), (.bipush 31, 0, 0, 31, 0), (.iand, 0, 0, 0, 0), (.iaload, 0, 0, 0, 0), (.iconst 1, 0, 0, 1, 0), (.iadd, 0, 0, 0, 0), (.goto 5, 8, 0, 0, 0)]
def rp_5_r7 : List mm_Row := [(.iload 5, 0, 0, 0, 0), (.istore 5, 0, 0, 0, 0), (.iload 5, 0, 0, 0, 0), (.iconst 3, 0, 0, 3, 0), (.if_icmp .le 5, 9, 0, 0, 0), (.iconst (-1), 0, 0, (-1), 0), (.ireturn, 0, 0, 0, 0)]
def rp_5_r8 : List mm_Row := [(.istore 5, 0, 0, 0, 0), (.iload 5, 0, 0, 0, 0), (.iconst 3, 0, 0, 3, 0), (.if_icmp .le 5, 9, 0, 0, 0), (.iconst (-1), 0, 0, (-1), 0), (.ireturn, 0, 0, 0, 0)]
def rp_5_r9 : List mm_Row := [(.aload_n 0, 0, 0, 0, 0), (.dup, 0, 0, 0, 0), (.getfield 7, 6, 0, 0, 0), (.iconst 1, 0, 0, 1, 0), (.iadd, 0, 0, 0, 0), (.putfield 7, 6, 0, 0, 0), (.aload_n 0, 0, 0, 0, 0), (.getfield 13, 6, 1, 0, 0), (.aload_n 0, 0, 0, 0, 0), (.getfield 7, 6, 0, 0, 0), (.iload_n 3, 0, 0, 0, 0), (.bastore, 0, 0, 0, 0), (.aload_n 0, 0, 0, 0, 0), (.getfield 17, 6, 2, 0, 0), (.aload_n 0, 0, 0, 0, 0), (.getfield 7, 6, 0, 0, 0), (.iload 4, 0, 0, 0, 0), (.bastore, 0, 0, 0, 0), (.aload_n 0, 0, 0, 0, 0), (.getfield 20, 6, 3, 0, 0), (.aload_n 0, 0, 0, 0, 0), (.getfield 7, 6, 0, 0, 0), (.iload 5, 0, 0, 0, 0), (.iastore, 0, 0, 0, 0), (.aload_n 0, 0, 0, 0, 0), (.getfield 24, 6, 4, 0, 0), (.iconst 2, 0, 0, 2, 0), (.aload_n 0, 0, 0, 0, 0), (.getfield 7, 6, 0, 0, 0), (.imul, 0, 0, 0, 0), (.iload_n 1, 0, 0, 0, 0), (.iastore, 0, 0, 0, 0), (.aload_n 0, 0, 0, 0, 0), (.getfield 24, 6, 4, 0, 0), (.iconst 2, 0, 0, 2, 0), (.aload_n 0, 0, 0, 0, 0), (.getfield 7, 6, 0, 0, 0), (.imul, 0, 0, 0, 0), (.iconst 1, 0, 0, 1, 0), (.iadd, 0, 0, 0, 0), (.iload_n 2, 0, 0, 0, 0), (.iastore, 0, 0, 0, 0), (.aload_n 0, 0, 0, 0, 0), (.getfield 7, 6, 0, 0, 0), (.ireturn, 0, 0, 0, 0)]
def rp_5_l : List (Nat × List mm_Row) := [(0, rp_5_r0), (10, rp_5_r1), (22, rp_5_r2), (40, rp_5_r3), (42, rp_5_r4), (79, rp_5_r5), (81, rp_5_r6), (117, rp_5_r7), (119, rp_5_r8), (129, rp_5_r9)]
def rp_5 : mm_M := (6, ⟨"WiringContainerModel", "declare", "(IIZZ)I"⟩, prog_8_method_7_code, 6, (some .int), rp_5_l)
-- 6: WiringContainerModel.enter(IIIII)I
def rp_6_r0 : List mm_Row := [(.aload_n 0, 0, 0, 0, 0), (.getfield 131, 6, 5, 0, 0), (.istore 6, 0, 0, 0, 0), (.aload_n 0, 0, 0, 0, 0), (.getfield 27, 6, 6, 0, 0), (.iload 6, 0, 0, 0, 0), (.iload_n 1, 0, 0, 0, 0), (.iastore, 0, 0, 0, 0), (.aload_n 0, 0, 0, 0, 0), (.getfield 30, 6, 7, 0, 0), (.iload 6, 0, 0, 0, 0), (.iload_n 2, 0, 0, 0, 0), (.iconst 3, 0, 0, 3, 0), (.ishr, 0, 0, 0, 0), (.ifCond .ne 10, 1, 0, 0, 0), (.iload_n 2, 0, 0, 0, 0), (.bipush 8, 0, 0, 8, 0), (.iadd, 0, 0, 0, 0), (.goto 4, 2, 0, 0, 0)]
def rp_6_r1 : List mm_Row := [(.iload_n 2, 0, 0, 0, 0), (.iastore, 0, 0, 0, 0), (.aload_n 0, 0, 0, 0, 0), (.getfield 33, 6, 8, 0, 0), (.iload 6, 0, 0, 0, 0), (.iload_n 3, 0, 0, 0, 0), (.iastore, 0, 0, 0, 0), (.aload_n 0, 0, 0, 0, 0), (.getfield 36, 6, 9, 0, 0), (.iload 6, 0, 0, 0, 0), (.iload 4, 0, 0, 0, 0), (.iastore, 0, 0, 0, 0), (.aload_n 0, 0, 0, 0, 0), (.getfield 39, 6, 10, 0, 0), (.iload 6, 0, 0, 0, 0), (.iload 5, 0, 0, 0, 0), (.iastore, 0, 0, 0, 0), (.aload_n 0, 0, 0, 0, 0), (.getfield 45, 6, 12, 0, 0), (.iload 6, 0, 0, 0, 0), (.iconst 0, 0, 0, 0, 0), (.iastore, 0, 0, 0, 0), (.aload_n 0, 0, 0, 0, 0), (.dup, 0, 0, 0, 0), (.getfield 131, 6, 5, 0, 0), (.iconst 1, 0, 0, 1, 0), (.iadd, 0, 0, 0, 0), (.putfield 131, 6, 5, 0, 0), (.iload 6, 0, 0, 0, 0), (.ireturn, 0, 0, 0, 0)]
def rp_6_r2 : List mm_Row := [(.iastore, 0, 0, 0, 0), (.aload_n 0, 0, 0, 0, 0), (.getfield 33, 6, 8, 0, 0), (.iload 6, 0, 0, 0, 0), (.iload_n 3, 0, 0, 0, 0), (.iastore, 0, 0, 0, 0), (.aload_n 0, 0, 0, 0, 0), (.getfield 36, 6, 9, 0, 0), (.iload 6, 0, 0, 0, 0), (.iload 4, 0, 0, 0, 0), (.iastore, 0, 0, 0, 0), (.aload_n 0, 0, 0, 0, 0), (.getfield 39, 6, 10, 0, 0), (.iload 6, 0, 0, 0, 0), (.iload 5, 0, 0, 0, 0), (.iastore, 0, 0, 0, 0), (.aload_n 0, 0, 0, 0, 0), (.getfield 45, 6, 12, 0, 0), (.iload 6, 0, 0, 0, 0), (.iconst 0, 0, 0, 0, 0), (.iastore, 0, 0, 0, 0), (.aload_n 0, 0, 0, 0, 0), (.dup, 0, 0, 0, 0), (.getfield 131, 6, 5, 0, 0), (.iconst 1, 0, 0, 1, 0), (.iadd, 0, 0, 0, 0), (.putfield 131, 6, 5, 0, 0), (.iload 6, 0, 0, 0, 0), (.ireturn, 0, 0, 0, 0)]
def rp_6_l : List (Nat × List mm_Row) := [(0, rp_6_r0), (33, rp_6_r1), (34, rp_6_r2)]
def rp_6 : mm_M := (6, ⟨"WiringContainerModel", "enter", "(IIIII)I"⟩, prog_8_method_8_code, 7, (some .int), rp_6_l)
-- 7: WiringContainerModel.manage(IIII)I
def rp_7_r0 : List mm_Row := [(.aload_n 0, 0, 0, 0, 0), (.getfield 123, 6, 15, 0, 0), (.ifCond .eq 6, 1, 0, 0, 0), (.bipush (-3), 0, 0, (-3), 0), (.ireturn, 0, 0, 0, 0)]
def rp_7_r1 : List mm_Row := [(.aload_n 0, 0, 0, 0, 0), (.getfield 131, 6, 5, 0, 0), (.bipush 16, 0, 0, 16, 0), (.if_icmp .lt 6, 2, 0, 0, 0), (.bipush (-2), 0, 0, (-2), 0), (.ireturn, 0, 0, 0, 0)]
def rp_7_r2 : List mm_Row := [(.iload_n 1, 0, 0, 0, 0), (.iconst 1, 0, 0, 1, 0), (.if_icmp .lt 40, 3, 0, 0, 0), (.iload_n 1, 0, 0, 0, 0), (.aload_n 0, 0, 0, 0, 0), (.getfield 7, 6, 0, 0, 0), (.if_icmp .gt 32, 3, 0, 0, 0), (.iload_n 2, 0, 0, 0, 0), (.invokestatic 119, 2, 49, 0, 0), (.ifCond .eq 25, 3, 0, 0, 0), (.iload_n 3, 0, 0, 0, 0), (.ifCond .lt 21, 3, 0, 0, 0), (.iload_n 3, 0, 0, 0, 0), (.iconst 2, 0, 0, 2, 0), (.if_icmp .gt 16, 3, 0, 0, 0), (.iload 4, 0, 0, 0, 0), (.iconst (-1), 0, 0, (-1), 0), (.if_icmp .lt 10, 3, 0, 0, 0), (.iload 4, 0, 0, 0, 0), (.bipush 100, 0, 0, 100, 0), (.if_icmp .le 5, 4, 0, 0, 0), (.iconst (-1), 0, 0, (-1), 0), (.ireturn, 0, 0, 0, 0)]
def rp_7_r3 : List mm_Row := [(.iconst (-1), 0, 0, (-1), 0), (.ireturn, 0, 0, 0, 0)]
def rp_7_r4 : List mm_Row := [(.aload_n 0, 0, 0, 0, 0), (.getfield 42, 6, 11, 0, 0), (.aload_n 0, 0, 0, 0, 0), (.getfield 131, 6, 5, 0, 0), (.iconst 1, 0, 0, 1, 0), (.bastore, 0, 0, 0, 0), (.aload_n 0, 0, 0, 0, 0), (.aload_n 0, 0, 0, 0, 0), (.getfield 13, 6, 1, 0, 0), (.iload_n 1, 0, 0, 0, 0), (.baload, 0, 0, 0, 0), (.ifCond .eq 11, 5, 0, 0, 0), (.iload_n 1, 0, 0, 0, 0), (.sipush 992, 0, 0, 992, 0), (.iadd, 0, 0, 0, 0), (.goto 4, 6, 0, 0, 0)]
def rp_7_r5 : List mm_Row := [(.iload_n 1, 0, 0, 0, 0), (.iload_n 2, 0, 0, 0, 0), (.iload_n 3, 0, 0, 0, 0), (.iload 4, 0, 0, 0, 0), (.iconst (-1), 0, 0, (-1), 0), (.invokevirtual 134, 6, 406, 0, 0), (.ireturn, 0, 0, 0, 0)]
def rp_7_r6 : List mm_Row := [(.iload_n 2, 0, 0, 0, 0), (.iload_n 3, 0, 0, 0, 0), (.iload 4, 0, 0, 0, 0), (.iconst (-1), 0, 0, (-1), 0), (.invokevirtual 134, 6, 406, 0, 0), (.ireturn, 0, 0, 0, 0)]
def rp_7_l : List (Nat × List mm_Row) := [(0, rp_7_r0), (10, rp_7_r1), (22, rp_7_r2), (64, rp_7_r3), (66, rp_7_r4), (94, rp_7_r5), (95, rp_7_r6)]
def rp_7 : mm_M := (6, ⟨"WiringContainerModel", "manage", "(IIII)I"⟩, prog_8_method_9_code, 5, (some .int), rp_7_l)
-- 8: WiringContainerModel.produce(IIIII)I
def rp_8_r0 : List mm_Row := [(.aload_n 0, 0, 0, 0, 0), (.getfield 123, 6, 15, 0, 0), (.ifCond .eq 6, 1, 0, 0, 0), (.bipush (-3), 0, 0, (-3), 0), (.ireturn, 0, 0, 0, 0)]
def rp_8_r1 : List mm_Row := [(.aload_n 0, 0, 0, 0, 0), (.getfield 131, 6, 5, 0, 0), (.bipush 16, 0, 0, 16, 0), (.if_icmp .lt 6, 2, 0, 0, 0), (.bipush (-2), 0, 0, (-2), 0), (.ireturn, 0, 0, 0, 0)]
def rp_8_r2 : List mm_Row := [(.iload_n 1, 0, 0, 0, 0), (.iconst (-1), 0, 0, (-1), 0), (.if_icmp .lt 53, 3, 0, 0, 0), (.iload_n 1, 0, 0, 0, 0), (.aload_n 0, 0, 0, 0, 0), (.getfield 131, 6, 5, 0, 0), (.if_icmp .ge 45, 3, 0, 0, 0), (.aload_n 0, 0, 0, 0, 0), (.iload_n 2, 0, 0, 0, 0), (.iconst 4, 0, 0, 4, 0), (.iconst 0, 0, 0, 0, 0), (.iconst 1, 0, 0, 1, 0), (.invokevirtual 115, 0, 437, 0, 0), (.ifCond .eq 34, 3, 0, 0, 0), (.iload_n 3, 0, 0, 0, 0), (.invokestatic 119, 2, 49, 0, 0), (.ifCond .eq 27, 3, 0, 0, 0), (.iload 4, 0, 0, 0, 0), (.ifCond .lt 22, 3, 0, 0, 0), (.iload 4, 0, 0, 0, 0), (.iconst 2, 0, 0, 2, 0), (.if_icmp .gt 16, 3, 0, 0, 0), (.iload 5, 0, 0, 0, 0), (.iconst (-1), 0, 0, (-1), 0), (.if_icmp .lt 10, 3, 0, 0, 0), (.iload 5, 0, 0, 0, 0), (.bipush 100, 0, 0, 100, 0), (.if_icmp .le 5, 4, 0, 0, 0), (.iconst (-1), 0, 0, (-1), 0), (.ireturn, 0, 0, 0, 0)]
def rp_8_r3 : List mm_Row := [(.iconst (-1), 0, 0, (-1), 0), (.ireturn, 0, 0, 0, 0)]
def rp_8_r4 : List mm_Row := [(.iload_n 1, 0, 0, 0, 0), (.ifCond .lt 23, 6, 0, 0, 0), (.aload_n 0, 0, 0, 0, 0), (.getfield 42, 6, 11, 0, 0), (.iload_n 1, 0, 0, 0, 0), (.baload, 0, 0, 0, 0), (.ifCond .eq 12, 5, 0, 0, 0), (.aload_n 0, 0, 0, 0, 0), (.getfield 33, 6, 8, 0, 0), (.iload_n 1, 0, 0, 0, 0), (.iaload, 0, 0, 0, 0), (.ifCond .eq 5, 6, 0, 0, 0), (.iconst (-1), 0, 0, (-1), 0), (.ireturn, 0, 0, 0, 0)]
def rp_8_r5 : List mm_Row := [(.iconst (-1), 0, 0, (-1), 0), (.ireturn, 0, 0, 0, 0)]
def rp_8_r6 : List mm_Row := [(.aload_n 0, 0, 0, 0, 0), (.getfield 42, 6, 11, 0, 0), (.aload_n 0, 0, 0, 0, 0), (.getfield 131, 6, 5, 0, 0), (.iconst 0, 0, 0, 0, 0), (.bastore, 0, 0, 0, 0), (.aload_n 0, 0, 0, 0, 0), (.iload_n 2, 0, 0, 0, 0), (.iload_n 3, 0, 0, 0, 0), (.iload 4, 0, 0, 0, 0), (.iload 5, 0, 0, 0, 0), (.iload_n 1, 0, 0, 0, 0), (.invokevirtual 134, 6, 406, 0, 0), (.ireturn, 0, 0, 0, 0)]
def rp_8_l : List (Nat × List mm_Row) := [(0, rp_8_r0), (10, rp_8_r1), (22, rp_8_r2), (77, rp_8_r3), (79, rp_8_r4), (101, rp_8_r5), (103, rp_8_r6)]
def rp_8 : mm_M := (6, ⟨"WiringContainerModel", "produce", "(IIIII)I"⟩, prog_8_method_10_code, 6, (some .int), rp_8_l)
-- 9: WiringContainerModel.isBean(I)Z
def rp_9_r0 : List mm_Row := [(.iload_n 1, 0, 0, 0, 0), (.ifCond .lt 15, 1, 0, 0, 0), (.iload_n 1, 0, 0, 0, 0), (.aload_n 0, 0, 0, 0, 0), (.getfield 131, 6, 5, 0, 0), (.if_icmp .ge 7, 1, 0, 0, 0), (.iconst 1, 0, 0, 1, 0), (.goto 4, 2, 0, 0, 0)]
def rp_9_r1 : List mm_Row := [(.iconst 0, 0, 0, 0, 0), (.ireturn, 0, 0, 0, 0)]
def rp_9_r2 : List mm_Row := [(.ireturn, 0, 0, 0, 0)]
def rp_9_l : List (Nat × List mm_Row) := [(0, rp_9_r0), (16, rp_9_r1), (17, rp_9_r2)]
def rp_9 : mm_M := (6, ⟨"WiringContainerModel", "isBean", "(I)Z"⟩, prog_8_method_11_code, 2, (some .boolean), rp_9_l)
-- 10: WiringContainerModel.inject(III)I
def rp_10_r0 : List mm_Row := [(.aload_n 0, 0, 0, 0, 0), (.getfield 123, 6, 15, 0, 0), (.ifCond .eq 6, 1, 0, 0, 0), (.bipush (-3), 0, 0, (-3), 0), (.ireturn, 0, 0, 0, 0)]
def rp_10_r1 : List mm_Row := [(.aload_n 0, 0, 0, 0, 0), (.iload_n 1, 0, 0, 0, 0), (.invokevirtual 138, 9, 434, 0, 0), (.ifCond .eq 18, 2, 0, 0, 0), (.aload_n 0, 0, 0, 0, 0), (.iload_n 2, 0, 0, 0, 0), (.invokevirtual 141, 1, 434, 0, 0), (.ifCond .eq 10, 2, 0, 0, 0), (.iload_n 3, 0, 0, 0, 0), (.invokestatic 144, 3, 49, 0, 0), (.ifCond .ne 5, 3, 0, 0, 0), (.iconst (-1), 0, 0, (-1), 0), (.ireturn, 0, 0, 0, 0)]
def rp_10_r2 : List mm_Row := [(.iconst (-1), 0, 0, (-1), 0), (.ireturn, 0, 0, 0, 0)]
def rp_10_r3 : List mm_Row := [(.aload_n 0, 0, 0, 0, 0), (.getfield 45, 6, 12, 0, 0), (.iload_n 1, 0, 0, 0, 0), (.iaload, 0, 0, 0, 0), (.iconst 3, 0, 0, 3, 0), (.if_icmp .lt 6, 4, 0, 0, 0), (.bipush (-2), 0, 0, (-2), 0), (.ireturn, 0, 0, 0, 0)]
def rp_10_r4 : List mm_Row := [(.aload_n 0, 0, 0, 0, 0), (.getfield 45, 6, 12, 0, 0), (.iload_n 1, 0, 0, 0, 0), (.iaload, 0, 0, 0, 0), (.istore 4, 0, 0, 0, 0), (.aload_n 0, 0, 0, 0, 0), (.getfield 48, 6, 13, 0, 0), (.iconst 3, 0, 0, 3, 0), (.iload_n 1, 0, 0, 0, 0), (.imul, 0, 0, 0, 0), (.iload 4, 0, 0, 0, 0), (.iadd, 0, 0, 0, 0), (.iload_n 2, 0, 0, 0, 0), (.iastore, 0, 0, 0, 0), (.aload_n 0, 0, 0, 0, 0), (.getfield 51, 6, 14, 0, 0), (.iconst 3, 0, 0, 3, 0), (.iload_n 1, 0, 0, 0, 0), (.imul, 0, 0, 0, 0), (.iload 4, 0, 0, 0, 0), (.iadd, 0, 0, 0, 0), (.iload_n 3, 0, 0, 0, 0), (.iastore, 0, 0, 0, 0), (.aload_n 0, 0, 0, 0, 0), (.getfield 45, 6, 12, 0, 0), (.iload_n 1, 0, 0, 0, 0), (.dup2, 0, 0, 0, 0), (.iaload, 0, 0, 0, 0), (.iconst 1, 0, 0, 1, 0), (.iadd, 0, 0, 0, 0), (.iastore, 0, 0, 0, 0), (.iload 4, 0, 0, 0, 0), (.ireturn, 0, 0, 0, 0)]
def rp_10_l : List (Nat × List mm_Row) := [(0, rp_10_r0), (10, rp_10_r1), (33, rp_10_r2), (35, rp_10_r3), (48, rp_10_r4)]
def rp_10 : mm_M := (6, ⟨"WiringContainerModel", "inject", "(III)I"⟩, prog_8_method_12_code, 5, (some .int), rp_10_l)
-- 11: WiringContainerModel.enabled(I)Z
def rp_11_r0 : List mm_Row := [(.aload_n 0, 0, 0, 0, 0), (.getfield 36, 6, 9, 0, 0), (.iload_n 1, 0, 0, 0, 0), (.iaload, 0, 0, 0, 0), (.iconst (-1), 0, 0, (-1), 0), (.if_icmp .eq 31, 2, 0, 0, 0), (.aload_n 0, 0, 0, 0, 0), (.getfield 39, 6, 10, 0, 0), (.iload_n 1, 0, 0, 0, 0), (.iaload, 0, 0, 0, 0), (.ifCond .lt 18, 1, 0, 0, 0), (.aload_n 0, 0, 0, 0, 0), (.getfield 36, 6, 9, 0, 0), (.aload_n 0, 0, 0, 0, 0), (.getfield 39, 6, 10, 0, 0), (.iload_n 1, 0, 0, 0, 0), (.iaload, 0, 0, 0, 0), (.iaload, 0, 0, 0, 0), (.iconst (-1), 0, 0, (-1), 0), (.if_icmp .eq 7, 2, 0, 0, 0), (.iconst 1, 0, 0, 1, 0), (.goto 4, 3, 0, 0, 0)]
def rp_11_r1 : List mm_Row := [(.iconst 1, 0, 0, 1, 0), (.goto 4, 3, 0, 0, 0)]
def rp_11_r2 : List mm_Row := [(.iconst 0, 0, 0, 0, 0), (.ireturn, 0, 0, 0, 0)]
def rp_11_r3 : List mm_Row := [(.ireturn, 0, 0, 0, 0)]
def rp_11_l : List (Nat × List mm_Row) := [(0, rp_11_r0), (34, rp_11_r1), (38, rp_11_r2), (39, rp_11_r3)]
def rp_11 : mm_M := (6, ⟨"WiringContainerModel", "enabled", "(I)Z"⟩, prog_8_method_13_code, 2, (some .boolean), rp_11_l)
-- 12: WiringContainerModel.rank(I)I
def rp_12_r0 : List mm_Row := [(.aload_n 0, 0, 0, 0, 0), (.getfield 36, 6, 9, 0, 0), (.iload_n 1, 0, 0, 0, 0), (.iaload, 0, 0, 0, 0), (.ifCond .le 10, 1, 0, 0, 0), (.aload_n 0, 0, 0, 0, 0), (.getfield 36, 6, 9, 0, 0), (.iload_n 1, 0, 0, 0, 0), (.iaload, 0, 0, 0, 0), (.ireturn, 0, 0, 0, 0)]
def rp_12_r1 : List mm_Row := [(.aload_n 0, 0, 0, 0, 0), (.getfield 39, 6, 10, 0, 0), (.iload_n 1, 0, 0, 0, 0), (.iaload, 0, 0, 0, 0), (.ifCond .lt 31, 2, 0, 0, 0), (.aload_n 0, 0, 0, 0, 0), (.getfield 36, 6, 9, 0, 0), (.aload_n 0, 0, 0, 0, 0), (.getfield 39, 6, 10, 0, 0), (.iload_n 1, 0, 0, 0, 0), (.iaload, 0, 0, 0, 0), (.iaload, 0, 0, 0, 0), (.ifCond .le 17, 2, 0, 0, 0), (.aload_n 0, 0, 0, 0, 0), (.getfield 36, 6, 9, 0, 0), (.aload_n 0, 0, 0, 0, 0), (.getfield 39, 6, 10, 0, 0), (.iload_n 1, 0, 0, 0, 0), (.iaload, 0, 0, 0, 0), (.iaload, 0, 0, 0, 0), (.goto 4, 3, 0, 0, 0)]
def rp_12_r2 : List mm_Row := [(.iconst 0, 0, 0, 0, 0), (.ireturn, 0, 0, 0, 0)]
def rp_12_r3 : List mm_Row := [(.ireturn, 0, 0, 0, 0)]
def rp_12_l : List (Nat × List mm_Row) := [(0, rp_12_r0), (16, rp_12_r1), (53, rp_12_r2), (54, rp_12_r3)]
def rp_12 : mm_M := (6, ⟨"WiringContainerModel", "rank", "(I)I"⟩, prog_8_method_14_code, 2, (some .int), rp_12_l)
-- 13: WiringContainerModel.note(J)V
def rp_13_r0 : List mm_Row := [(.iconst 0, 0, 0, 0, 0), (.istore_n 3, 0, 0, 0, 0), (.iload_n 3, 0, 0, 0, 0), (.aload_n 0, 0, 0, 0, 0), (.getfield 147, 6, 20, 0, 0), (.if_icmp .ge 21, 3, 0, 0, 0), (.aload_n 0, 0, 0, 0, 0), (.getfield 63, 6, 19, 0, 0), (.iload_n 3, 0, 0, 0, 0), (.laload, 0, 0, 0, 0), (.lload_n 1, 0, 0, 0, 0), (.lcmp, 0, 0, 0, 0), (.ifCond .ne 4, 2, 0, 0, 0), (.return_, 0, 0, 0, 0)]
def rp_13_r1 : List mm_Row := [(.iload_n 3, 0, 0, 0, 0), (.aload_n 0, 0, 0, 0, 0), (.getfield 147, 6, 20, 0, 0), (.if_icmp .ge 21, 3, 0, 0, 0), (.aload_n 0, 0, 0, 0, 0), (.getfield 63, 6, 19, 0, 0), (.iload_n 3, 0, 0, 0, 0), (.laload, 0, 0, 0, 0), (.lload_n 1, 0, 0, 0, 0), (.lcmp, 0, 0, 0, 0), (.ifCond .ne 4, 2, 0, 0, 0), (.return_, 0, 0, 0, 0)]
def rp_13_r2 : List mm_Row := [(.iinc 3 1, 0, 0, 1, 0), (.goto (-23), 1, 0, 0, 0)]
def rp_13_r3 : List mm_Row := [(.aload_n 0, 0, 0, 0, 0), (.getfield 63, 6, 19, 0, 0), (.aload_n 0, 0, 0, 0, 0), (.getfield 147, 6, 20, 0, 0), (.lload_n 1, 0, 0, 0, 0), (.lastore, 0, 0, 0, 0), (.aload_n 0, 0, 0, 0, 0), (.dup, 0, 0, 0, 0), (.getfield 147, 6, 20, 0, 0), (.iconst 1, 0, 0, 1, 0), (.iadd, 0, 0, 0, 0), (.putfield 147, 6, 20, 0, 0), (.return_, 0, 0, 0, 0)]
def rp_13_l : List (Nat × List mm_Row) := [(0, rp_13_r0), (2, rp_13_r1), (22, rp_13_r2), (28, rp_13_r3)]
def rp_13 : mm_M := (6, ⟨"WiringContainerModel", "note", "(J)V"⟩, prog_8_method_15_code, 4, none, rp_13_l)
-- 14: WiringContainerModel.becomes(JJ)J
def rp_14_r0 : List mm_Row := [(.lload_n 3, 0, 0, 0, 0), (.iconst 5, 0, 0, 5, 0), (.lshr, 0, 0, 0, 0), (.lstore 5, 0, 0, 0, 0), (.lload 5, 0, 0, 0, 0), (.lconst 0, 0, 0, 0, 0), (.lcmp, 0, 0, 0, 0), (.ifCond .ne 23, 1, 0, 0, 0), (.aload_n 0, 0, 0, 0, 0), (.getfield 13, 6, 1, 0, 0), (.lload_n 3, 0, 0, 0, 0), (.ldc2_w 150, 0, 0, 0, 31), (.land, 0, 0, 0, 0), (.l2i, 0, 0, 0, 0), (.baload, 0, 0, 0, 0), (.ifCond .eq 9, 1, 0, 0, 0), (.lload_n 1, 0, 0, 0, 0), (.ldc2_w 150, 0, 0, 0, 31), (.land, 0, 0, 0, 0), (.lreturn, 0, 0, 0, 0)]
def rp_14_r1 : List mm_Row := [(.lconst 0, 0, 0, 0, 0), (.lstore 7, 0, 0, 0, 0), (.iconst 0, 0, 0, 0, 0), (.istore 9, 0, 0, 0, 0), (.iload 9, 0, 0, 0, 0), (.iconst 3, 0, 0, 3, 0), (.if_icmp .ge 47, 5, 0, 0, 0), (.lload_n 1, 0, 0, 0, 0), (.iconst 5, 0, 0, 5, 0), (.iload 9, 0, 0, 0, 0), (.imul, 0, 0, 0, 0), (.lshr, 0, 0, 0, 0), (.ldc2_w 150, 0, 0, 0, 31), (.land, 0, 0, 0, 0), (.lstore 10, 0, 0, 0, 0), (.lload 7, 0, 0, 0, 0), (.lload 10, 0, 0, 0, 0), (.ldc2_w 150, 0, 0, 0, 31), (.lcmp, 0, 0, 0, 0), (.ifCond .ne 8, 3, 0, 0, 0), (.lload 5, 0, 0, 0, 0), (.goto 5, 4, 0, 0, 0)]
def rp_14_r2 : List mm_Row := [(.iload 9, 0, 0, 0, 0), (.iconst 3, 0, 0, 3, 0), (.if_icmp .ge 47, 5, 0, 0, 0), (.lload_n 1, 0, 0, 0, 0), (.iconst 5, 0, 0, 5, 0), (.iload 9, 0, 0, 0, 0), (.imul, 0, 0, 0, 0), (.lshr, 0, 0, 0, 0), (.ldc2_w 150, 0, 0, 0, 31), (.land, 0, 0, 0, 0), (.lstore 10, 0, 0, 0, 0), (.lload 7, 0, 0, 0, 0), (.lload 10, 0, 0, 0, 0), (.ldc2_w 150, 0, 0, 0, 31), (.lcmp, 0, 0, 0, 0), (.ifCond .ne 8, 3, 0, 0, 0), (.lload 5, 0, 0, 0, 0), (.goto 5, 4, 0, 0, 0)]
def rp_14_r3 : List mm_Row := [(.lload 10, 0, 0, 0, 0), (.iconst 5, 0, 0, 5, 0), (.iload 9, 0, 0, 0, 0), (.imul, 0, 0, 0, 0), (.lshl, 0, 0, 0, 0), (.ladd, 0, 0, 0, 0), (.lstore 7, 0, 0, 0, 0), (.iinc 9 1, 0, 0, 1, 0), (.goto (-47), 2, 0, 0, 0)]
def rp_14_r4 : List mm_Row := [(.iconst 5, 0, 0, 5, 0), (.iload 9, 0, 0, 0, 0), (.imul, 0, 0, 0, 0), (.lshl, 0, 0, 0, 0), (.ladd, 0, 0, 0, 0), (.lstore 7, 0, 0, 0, 0), (.iinc 9 1, 0, 0, 1, 0), (.goto (-47), 2, 0, 0, 0)]
def rp_14_r5 : List mm_Row := [(.lload 7, 0, 0, 0, 0), (.lreturn, 0, 0, 0, 0)]
def rp_14_l : List (Nat × List mm_Row) := [(0, rp_14_r0), (32, rp_14_r1), (38, rp_14_r2), (72, rp_14_r3), (74, rp_14_r4), (88, rp_14_r5)]
def rp_14 : mm_M := (6, ⟨"WiringContainerModel", "becomes", "(JJ)J"⟩, prog_8_method_16_code, 12, (some .long), rp_14_l)
-- 15: WiringContainerModel.climb(J)V
def rp_15_r0 : List mm_Row := [(.aload_n 0, 0, 0, 0, 0), (.iconst 0, 0, 0, 0, 0), (.putfield 147, 6, 20, 0, 0), (.aload_n 0, 0, 0, 0, 0), (.lload_n 1, 0, 0, 0, 0), (.invokevirtual 152, 13, 386, 0, 0), (.aload_n 0, 0, 0, 0, 0), (.lconst 1, 0, 0, 0, 1), (.invokevirtual 152, 13, 386, 0, 0), (.iconst 0, 0, 0, 0, 0), (.istore_n 3, 0, 0, 0, 0), (.iload_n 3, 0, 0, 0, 0), (.aload_n 0, 0, 0, 0, 0), (.getfield 147, 6, 20, 0, 0), (.if_icmp .ge 77, 5, 0, 0, 0), (.aload_n 0, 0, 0, 0, 0), (.getfield 63, 6, 19, 0, 0), (.iload_n 3, 0, 0, 0, 0), (.laload, 0, 0, 0, 0), (.ldc2_w 150, 0, 0, 0, 31), (.land, 0, 0, 0, 0), (.l2i, 0, 0, 0, 0), (.istore 4, 0, 0, 0, 0), (.iconst 0, 0, 0, 0, 0), (.istore 5, 0, 0, 0, 0), (.iload 5, 0, 0, 0, 0), (.iconst 2, 0, 0, 2, 0), (.if_icmp .ge 49, 4, 0, 0, 0), (.aload_n 0, 0, 0, 0, 0), (.getfield 24, 6, 4, 0, 0), (.iconst 2, 0, 0, 2, 0), (.iload 4, 0, 0, 0, 0), (.imul, 0, 0, 0, 0), (.iload 5, 0, 0, 0, 0), (.iadd, 0, 0, 0, 0), (.iaload, 0, 0, 0, 0), (.istore 6, 0, 0, 0, 0), (.iload 6, 0, 0, 0, 0), (.ifCond .eq 24, 3, 0, 0, 0), (.aload_n 0, 0, 0, 0, 0), (.iload 6, 0, 0, 0, 0), (.i2l, 0, 0, 0, 0), (.aload_n 0, 0, 0, 0, 0), (.getfield 63, 6, 19, 0, 0), (.iload_n 3, 0, 0, 0, 0), (.laload, 0, 0, 0, 0), (.invokevirtual 156, 14, 419, 0, 0), (.lstore 7, 0, 0, 0, 0), (.aload_n 0, 0, 0, 0, 0), (.lload 7, 0, 0, 0, 0), (.invokevirtual 152, 13, 386, 0, 0), (.iinc 5 1, 0, 0, 1, 0), (.goto (-49), 2, 0, 0, 0)]
def rp_15_r1 : List mm_Row := [(.iload_n 3, 0, 0, 0, 0), (.aload_n 0, 0, 0, 0, 0), (.getfield 147, 6, 20, 0, 0), (.if_icmp .ge 77, 5, 0, 0, 0), (.aload_n 0, 0, 0, 0, 0), (.getfield 63, 6, 19, 0, 0), (.iload_n 3, 0, 0, 0, 0), (.laload, 0, 0, 0, 0), (.ldc2_w 150, 0, 0, 0, 31), (.land, 0, 0, 0, 0), (.l2i, 0, 0, 0, 0), (.istore 4, 0, 0, 0, 0), (.iconst 0, 0, 0, 0, 0), (.istore 5, 0, 0, 0, 0), (.iload 5, 0, 0, 0, 0), (.iconst 2, 0, 0, 2, 0), (.if_icmp .ge 49, 4, 0, 0, 0), (.aload_n 0, 0, 0, 0, 0), (.getfield 24, 6, 4, 0, 0), (.iconst 2, 0, 0, 2, 0), (.iload 4, 0, 0, 0, 0), (.imul, 0, 0, 0, 0), (.iload 5, 0, 0, 0, 0), (.iadd, 0, 0, 0, 0), (.iaload, 0, 0, 0, 0), (.istore 6, 0, 0, 0, 0), (.iload 6, 0, 0, 0, 0), (.ifCond .eq 24, 3, 0, 0, 0), (.aload_n 0, 0, 0, 0, 0), (.iload 6, 0, 0, 0, 0), (.i2l, 0, 0, 0, 0), (.aload_n 0, 0, 0, 0, 0), (.getfield 63, 6, 19, 0, 0), (.iload_n 3, 0, 0, 0, 0), (.laload, 0, 0, 0, 0), (.invokevirtual 156, 14, 419, 0, 0), (.lstore 7, 0, 0, 0, 0), (.aload_n 0, 0, 0, 0, 0), (.lload 7, 0, 0, 0, 0), (.invokevirtual 152, 13, 386, 0, 0), (.iinc 5 1, 0, 0, 1, 0), (.goto (-49), 2, 0, 0, 0)]
def rp_15_r2 : List mm_Row := [(.iload 5, 0, 0, 0, 0), (.iconst 2, 0, 0, 2, 0), (.if_icmp .ge 49, 4, 0, 0, 0), (.aload_n 0, 0, 0, 0, 0), (.getfield 24, 6, 4, 0, 0), (.iconst 2, 0, 0, 2, 0), (.iload 4, 0, 0, 0, 0), (.imul, 0, 0, 0, 0), (.iload 5, 0, 0, 0, 0), (.iadd, 0, 0, 0, 0), (.iaload, 0, 0, 0, 0), (.istore 6, 0, 0, 0, 0), (.iload 6, 0, 0, 0, 0), (.ifCond .eq 24, 3, 0, 0, 0), (.aload_n 0, 0, 0, 0, 0), (.iload 6, 0, 0, 0, 0), (.i2l, 0, 0, 0, 0), (.aload_n 0, 0, 0, 0, 0), (.getfield 63, 6, 19, 0, 0), (.iload_n 3, 0, 0, 0, 0), (.laload, 0, 0, 0, 0), (.invokevirtual 156, 14, 419, 0, 0), (.lstore 7, 0, 0, 0, 0), (.aload_n 0, 0, 0, 0, 0), (.lload 7, 0, 0, 0, 0), (.invokevirtual 152, 13, 386, 0, 0), (.iinc 5 1, 0, 0, 1, 0), (.goto (-49), 2, 0, 0, 0)]
def rp_15_r3 : List mm_Row := [(.iinc 5 1, 0, 0, 1, 0), (.goto (-49), 2, 0, 0, 0)]
def rp_15_r4 : List mm_Row := [(.iinc 3 1, 0, 0, 1, 0), (.goto (-79), 1, 0, 0, 0)]
def rp_15_r5 : List mm_Row := [(.return_, 0, 0, 0, 0)]
def rp_15_l : List (Nat × List mm_Row) := [(0, rp_15_r0), (17, rp_15_r1), (41, rp_15_r2), (87, rp_15_r3), (93, rp_15_r4), (99, rp_15_r5)]
def rp_15 : mm_M := (6, ⟨"WiringContainerModel", "climb", "(J)V"⟩, prog_8_method_17_code, 9, none, rp_15_l)
-- 16: WiringContainerModel.ask(JJ)V
def rp_16_r0 : List mm_Row := [(.aload_n 0, 0, 0, 0, 0), (.getfield 67, 6, 21, 0, 0), (.aload_n 0, 0, 0, 0, 0), (.getfield 160, 6, 23, 0, 0), (.lload_n 1, 0, 0, 0, 0), (.lastore, 0, 0, 0, 0), (.aload_n 0, 0, 0, 0, 0), (.getfield 70, 6, 22, 0, 0), (.aload_n 0, 0, 0, 0, 0), (.getfield 160, 6, 23, 0, 0), (.lload_n 3, 0, 0, 0, 0), (.lastore, 0, 0, 0, 0), (.aload_n 0, 0, 0, 0, 0), (.dup, 0, 0, 0, 0), (.getfield 160, 6, 23, 0, 0), (.iconst 1, 0, 0, 1, 0), (.iadd, 0, 0, 0, 0), (.putfield 160, 6, 23, 0, 0), (.return_, 0, 0, 0, 0)]
def rp_16_l : List (Nat × List mm_Row) := [(0, rp_16_r0)]
def rp_16 : mm_M := (6, ⟨"WiringContainerModel", "ask", "(JJ)V"⟩, prog_8_method_18_code, 5, none, rp_16_l)
-- 17: WiringContainerModel.met(JJ)Z
def rp_17_r0 : List mm_Row := [(.aload_n 0, 0, 0, 0, 0), (.iconst 0, 0, 0, 0, 0), (.putfield 160, 6, 23, 0, 0), (.aload_n 0, 0, 0, 0, 0), (.lload_n 3, 0, 0, 0, 0), (.invokevirtual 163, 15, 386, 0, 0), (.iconst 0, 0, 0, 0, 0), (.istore 5, 0, 0, 0, 0), (.iload 5, 0, 0, 0, 0), (.aload_n 0, 0, 0, 0, 0), (.getfield 147, 6, 20, 0, 0), (.if_icmp .ge 21, 2, 0, 0, 0), (.aload_n 0, 0, 0, 0, 0), (.lload_n 1, 0, 0, 0, 0), (.aload_n 0, 0, 0, 0, 0), (.getfield 63, 6, 19, 0, 0), (.iload 5, 0, 0, 0, 0), (.laload, 0, 0, 0, 0), (.invokevirtual 166, 16, 387, 0, 0), (.iinc 5 1, 0, 0, 1, 0), (.goto (-24), 1, 0, 0, 0)]
def rp_17_r1 : List mm_Row := [(.iload 5, 0, 0, 0, 0), (.aload_n 0, 0, 0, 0, 0), (.getfield 147, 6, 20, 0, 0), (.if_icmp .ge 21, 2, 0, 0, 0), (.aload_n 0, 0, 0, 0, 0), (.lload_n 1, 0, 0, 0, 0), (.aload_n 0, 0, 0, 0, 0), (.getfield 63, 6, 19, 0, 0), (.iload 5, 0, 0, 0, 0), (.laload, 0, 0, 0, 0), (.invokevirtual 166, 16, 387, 0, 0), (.iinc 5 1, 0, 0, 1, 0), (.goto (-24), 1, 0, 0, 0)]
def rp_17_r2 : List mm_Row := [(.iconst 0, 0, 0, 0, 0), (.istore 5, 0, 0, 0, 0), (.iload 5, 0, 0, 0, 0), (.ldc 170, 0, 0, 1000000, 0), (.if_icmp .ge 269, 18, 0, 0, 0), (.aload_n 0, 0, 0, 0, 0), (.getfield 160, 6, 23, 0, 0), (.ifCond .le 262, 18, 0, 0, 0), (.aload_n 0, 0, 0, 0, 0), (.dup, 0, 0, 0, 0), (.getfield 160, 6, 23, 0, 0), (.iconst 1, 0, 0, 1, 0), (.isub, 0, 0, 0, 0), (.putfield 160, 6, 23, 0, 0), (.aload_n 0, 0, 0, 0, 0), (.getfield 67, 6, 21, 0, 0), (.aload_n 0, 0, 0, 0, 0), (.getfield 160, 6, 23, 0, 0), (.laload, 0, 0, 0, 0), (.iconst 5, 0, 0, 5, 0), (.lshr, 0, 0, 0, 0), (.lstore 6, 0, 0, 0, 0), (.aload_n 0, 0, 0, 0, 0), (.getfield 70, 6, 22, 0, 0), (.aload_n 0, 0, 0, 0, 0), (.getfield 160, 6, 23, 0, 0), (.laload, 0, 0, 0, 0), (.iconst 5, 0, 0, 5, 0), (.lshr, 0, 0, 0, 0), (.lstore 8, 0, 0, 0, 0), (.aload_n 0, 0, 0, 0, 0), (.getfield 67, 6, 21, 0, 0), (.aload_n 0, 0, 0, 0, 0), (.getfield 160, 6, 23, 0, 0), (.laload, 0, 0, 0, 0), (.ldc2_w 150, 0, 0, 0, 31), (.land, 0, 0, 0, 0), (.aload_n 0, 0, 0, 0, 0), (.getfield 70, 6, 22, 0, 0), (.aload_n 0, 0, 0, 0, 0), (.getfield 160, 6, 23, 0, 0), (.laload, 0, 0, 0, 0), (.ldc2_w 150, 0, 0, 0, 31), (.land, 0, 0, 0, 0), (.lcmp, 0, 0, 0, 0), (.ifCond .ne 7, 4, 0, 0, 0), (.iconst 1, 0, 0, 1, 0), (.goto 4, 5, 0, 0, 0)]
def rp_17_r3 : List mm_Row := [(.iload 5, 0, 0, 0, 0), (.ldc 170, 0, 0, 1000000, 0), (.if_icmp .ge 269, 18, 0, 0, 0), (.aload_n 0, 0, 0, 0, 0), (.getfield 160, 6, 23, 0, 0), (.ifCond .le 262, 18, 0, 0, 0), (.aload_n 0, 0, 0, 0, 0), (.dup, 0, 0, 0, 0), (.getfield 160, 6, 23, 0, 0), (.iconst 1, 0, 0, 1, 0), (.isub, 0, 0, 0, 0), (.putfield 160, 6, 23, 0, 0), (.aload_n 0, 0, 0, 0, 0), (.getfield 67, 6, 21, 0, 0), (.aload_n 0, 0, 0, 0, 0), (.getfield 160, 6, 23, 0, 0), (.laload, 0, 0, 0, 0), (.iconst 5, 0, 0, 5, 0), (.lshr, 0, 0, 0, 0), (.lstore 6, 0, 0, 0, 0), (.aload_n 0, 0, 0, 0, 0), (.getfield 70, 6, 22, 0, 0), (.aload_n 0, 0, 0, 0, 0), (.getfield 160, 6, 23, 0, 0), (.laload, 0, 0, 0, 0), (.iconst 5, 0, 0, 5, 0), (.lshr, 0, 0, 0, 0), (.lstore 8, 0, 0, 0, 0), (.aload_n 0, 0, 0, 0, 0), (.getfield 67, 6, 21, 0, 0), (.aload_n 0, 0, 0, 0, 0), (.getfield 160, 6, 23, 0, 0), (.laload, 0, 0, 0, 0), (.ldc2_w 150, 0, 0, 0, 31), (.land, 0, 0, 0, 0), (.aload_n 0, 0, 0, 0, 0), (.getfield 70, 6, 22, 0, 0), (.aload_n 0, 0, 0, 0, 0), (.getfield 160, 6, 23, 0, 0), (.laload, 0, 0, 0, 0), (.ldc2_w 150, 0, 0, 0, 31), (.land, 0, 0, 0, 0), (.lcmp, 0, 0, 0, 0), (.ifCond .ne 7, 4, 0, 0, 0), (.iconst 1, 0, 0, 1, 0), (.goto 4, 5, 0, 0, 0)]
def rp_17_r4 : List mm_Row := [(.iconst 0, 0, 0, 0, 0), (.istore 10, 0, 0, 0, 0), (.lload 6, 0, 0, 0, 0), (.lconst 0, 0, 0, 0, 0), (.lcmp, 0, 0, 0, 0), (.ifCond .ne 26, 6, 0, 0, 0), (.lload 8, 0, 0, 0, 0), (.lconst 0, 0, 0, 0, 0), (.lcmp, 0, 0, 0, 0), (.ifCond .eq 33, 7, 0, 0, 0), (.lload 8, 0, 0, 0, 0), (.lconst 1, 0, 0, 0, 1), (.lcmp, 0, 0, 0, 0), (.ifCond .eq 26, 7, 0, 0, 0), (.lload 8, 0, 0, 0, 0), (.ldc2_w 150, 0, 0, 0, 31), (.lcmp, 0, 0, 0, 0), (.ifCond .eq 17, 7, 0, 0, 0), (.lload 8, 0, 0, 0, 0), (.lconst 0, 0, 0, 0, 0), (.lcmp, 0, 0, 0, 0), (.ifCond .ne 14, 8, 0, 0, 0), (.lload 6, 0, 0, 0, 0), (.lconst 1, 0, 0, 0, 1), (.lcmp, 0, 0, 0, 0), (.ifCond .ne 7, 8, 0, 0, 0), (.iconst 1, 0, 0, 1, 0), (.goto 4, 9, 0, 0, 0)]
def rp_17_r5 : List mm_Row := [(.istore 10, 0, 0, 0, 0), (.lload 6, 0, 0, 0, 0), (.lconst 0, 0, 0, 0, 0), (.lcmp, 0, 0, 0, 0), (.ifCond .ne 26, 6, 0, 0, 0), (.lload 8, 0, 0, 0, 0), (.lconst 0, 0, 0, 0, 0), (.lcmp, 0, 0, 0, 0), (.ifCond .eq 33, 7, 0, 0, 0), (.lload 8, 0, 0, 0, 0), (.lconst 1, 0, 0, 0, 1), (.lcmp, 0, 0, 0, 0), (.ifCond .eq 26, 7, 0, 0, 0), (.lload 8, 0, 0, 0, 0), (.ldc2_w 150, 0, 0, 0, 31), (.lcmp, 0, 0, 0, 0), (.ifCond .eq 17, 7, 0, 0, 0), (.lload 8, 0, 0, 0, 0), (.lconst 0, 0, 0, 0, 0), (.lcmp, 0, 0, 0, 0), (.ifCond .ne 14, 8, 0, 0, 0), (.lload 6, 0, 0, 0, 0), (.lconst 1, 0, 0, 0, 1), (.lcmp, 0, 0, 0, 0), (.ifCond .ne 7, 8, 0, 0, 0), (.iconst 1, 0, 0, 1, 0), (.goto 4, 9, 0, 0, 0)]
def rp_17_r6 : List mm_Row := [(.lload 8, 0, 0, 0, 0), (.lconst 0, 0, 0, 0, 0), (.lcmp, 0, 0, 0, 0), (.ifCond .ne 14, 8, 0, 0, 0), (.lload 6, 0, 0, 0, 0), (.lconst 1, 0, 0, 0, 1), (.lcmp, 0, 0, 0, 0), (.ifCond .ne 7, 8, 0, 0, 0), (.iconst 1, 0, 0, 1, 0), (.goto 4, 9, 0, 0, 0)]
def rp_17_r7 : List mm_Row := [(.iconst 1, 0, 0, 1, 0), (.goto 4, 9, 0, 0, 0)]
def rp_17_r8 : List mm_Row := [(.iconst 0, 0, 0, 0, 0), (.istore 11, 0, 0, 0, 0), (.lload 6, 0, 0, 0, 0), (.lconst 0, 0, 0, 0, 0), (.lcmp, 0, 0, 0, 0), (.ifCond .eq 14, 10, 0, 0, 0), (.lload 8, 0, 0, 0, 0), (.lconst 0, 0, 0, 0, 0), (.lcmp, 0, 0, 0, 0), (.ifCond .eq 7, 10, 0, 0, 0), (.iconst 1, 0, 0, 1, 0), (.goto 4, 11, 0, 0, 0)]
def rp_17_r9 : List mm_Row := [(.istore 11, 0, 0, 0, 0), (.lload 6, 0, 0, 0, 0), (.lconst 0, 0, 0, 0, 0), (.lcmp, 0, 0, 0, 0), (.ifCond .eq 14, 10, 0, 0, 0), (.lload 8, 0, 0, 0, 0), (.lconst 0, 0, 0, 0, 0), (.lcmp, 0, 0, 0, 0), (.ifCond .eq 7, 10, 0, 0, 0), (.iconst 1, 0, 0, 1, 0), (.goto 4, 11, 0, 0, 0)]
def rp_17_r10 : List mm_Row := [(.iconst 0, 0, 0, 0, 0), (.istore 12, 0, 0, 0, 0), (.iload 10, 0, 0, 0, 0), (.ifCond .eq 33, 13, 0, 0, 0), (.iload 11, 0, 0, 0, 0), (.ifCond .ne 26, 12, 0, 0, 0), (.iload 12, 0, 0, 0, 0), (.ifCond .eq 23, 13, 0, 0, 0), (.lload 8, 0, 0, 0, 0), (.ldc2_w 150, 0, 0, 0, 31), (.lcmp, 0, 0, 0, 0), (.ifCond .eq 12, 12, 0, 0, 0), (.lload 6, 0, 0, 0, 0), (.ldc2_w 171, 0, 0, 0, 30), (.lcmp, 0, 0, 0, 0), (.ifCond .ne 5, 13, 0, 0, 0), (.iconst 1, 0, 0, 1, 0), (.ireturn, 0, 0, 0, 0)]
def rp_17_r11 : List mm_Row := [(.istore 12, 0, 0, 0, 0), (.iload 10, 0, 0, 0, 0), (.ifCond .eq 33, 13, 0, 0, 0), (.iload 11, 0, 0, 0, 0), (.ifCond .ne 26, 12, 0, 0, 0), (.iload 12, 0, 0, 0, 0), (.ifCond .eq 23, 13, 0, 0, 0), (.lload 8, 0, 0, 0, 0), (.ldc2_w 150, 0, 0, 0, 31), (.lcmp, 0, 0, 0, 0), (.ifCond .eq 12, 12, 0, 0, 0), (.lload 6, 0, 0, 0, 0), (.ldc2_w 171, 0, 0, 0, 30), (.lcmp, 0, 0, 0, 0), (.ifCond .ne 5, 13, 0, 0, 0), (.iconst 1, 0, 0, 1, 0), (.ireturn, 0, 0, 0, 0)]
def rp_17_r12 : List mm_Row := [(.iconst 1, 0, 0, 1, 0), (.ireturn, 0, 0, 0, 0)]
def rp_17_r13 : List mm_Row := [(.iload 10, 0, 0, 0, 0), (.ifCond .eq 71, 17, 0, 0, 0), (.iload 12, 0, 0, 0, 0), (.ifCond .eq 66, 17, 0, 0, 0), (.lload 6, 0, 0, 0, 0), (.ldc2_w 150, 0, 0, 0, 31), (.land, 0, 0, 0, 0), (.ldc2_w 173, 0, 0, 0, 29), (.lcmp, 0, 0, 0, 0), (.ifCond .ne 45, 16, 0, 0, 0), (.aload_n 0, 0, 0, 0, 0), (.lload 8, 0, 0, 0, 0), (.invokevirtual 163, 15, 386, 0, 0), (.iconst 0, 0, 0, 0, 0), (.istore 13, 0, 0, 0, 0), (.iload 13, 0, 0, 0, 0), (.aload_n 0, 0, 0, 0, 0), (.getfield 147, 6, 20, 0, 0), (.if_icmp .ge 24, 15, 0, 0, 0), (.aload_n 0, 0, 0, 0, 0), (.lload 6, 0, 0, 0, 0), (.iconst 5, 0, 0, 5, 0), (.lshr, 0, 0, 0, 0), (.aload_n 0, 0, 0, 0, 0), (.getfield 63, 6, 19, 0, 0), (.iload 13, 0, 0, 0, 0), (.laload, 0, 0, 0, 0), (.invokevirtual 166, 16, 387, 0, 0), (.iinc 13 1, 0, 0, 1, 0), (.goto (-27), 14, 0, 0, 0)]
def rp_17_r14 : List mm_Row := [(.iload 13, 0, 0, 0, 0), (.aload_n 0, 0, 0, 0, 0), (.getfield 147, 6, 20, 0, 0), (.if_icmp .ge 24, 15, 0, 0, 0), (.aload_n 0, 0, 0, 0, 0), (.lload 6, 0, 0, 0, 0), (.iconst 5, 0, 0, 5, 0), (.lshr, 0, 0, 0, 0), (.aload_n 0, 0, 0, 0, 0), (.getfield 63, 6, 19, 0, 0), (.iload 13, 0, 0, 0, 0), (.laload, 0, 0, 0, 0), (.invokevirtual 166, 16, 387, 0, 0), (.iinc 13 1, 0, 0, 1, 0), (.goto (-27), 14, 0, 0, 0)]
def rp_17_r15 : List mm_Row := [(.goto 11, 17, 0, 0, 0)]
def rp_17_r16 : List mm_Row := [(.aload_n 0, 0, 0, 0, 0), (.lload 6, 0, 0, 0, 0), (.lload 8, 0, 0, 0, 0), (.invokevirtual 166, 16, 387, 0, 0), (.iinc 5 1, 0, 0, 1, 0), (.goto (-270), 3, 0, 0, 0)]
def rp_17_r17 : List mm_Row := [(.iinc 5 1, 0, 0, 1, 0), (.goto (-270), 3, 0, 0, 0)]
def rp_17_r18 : List mm_Row := [(.iconst 0, 0, 0, 0, 0), (.ireturn, 0, 0, 0, 0)]
def rp_17_l : List (Nat × List mm_Row) := [(0, rp_17_r0), (13, rp_17_r1), (40, rp_17_r2), (43, rp_17_r3), (127, rp_17_r4), (128, rp_17_r5), (160, rp_17_r6), (174, rp_17_r7), (178, rp_17_r8), (179, rp_17_r9), (199, rp_17_r10), (200, rp_17_r11), (235, rp_17_r12), (237, rp_17_r13), (269, rp_17_r14), (299, rp_17_r15), (302, rp_17_r16), (310, rp_17_r17), (316, rp_17_r18)]
def rp_17 : mm_M := (6, ⟨"WiringContainerModel", "met", "(JJ)Z"⟩, prog_8_method_19_code, 14, (some .boolean), rp_17_l)
-- 18: WiringContainerModel.carries(II)Z
def rp_18_r0 : List mm_Row := [(.iload_n 2, 0, 0, 0, 0), (.ifCond .ne 8, 1, 0, 0, 0), (.bipush 8, 0, 0, 8, 0), (.goto 4, 2, 0, 0, 0)]
def rp_18_r1 : List mm_Row := [(.iload_n 2, 0, 0, 0, 0), (.istore_n 3, 0, 0, 0, 0), (.iload_n 3, 0, 0, 0, 0), (.iconst (-1), 0, 0, (-1), 0), (.if_icmp .ne 5, 3, 0, 0, 0), (.iconst 1, 0, 0, 1, 0), (.ireturn, 0, 0, 0, 0)]
def rp_18_r2 : List mm_Row := [(.istore_n 3, 0, 0, 0, 0), (.iload_n 3, 0, 0, 0, 0), (.iconst (-1), 0, 0, (-1), 0), (.if_icmp .ne 5, 3, 0, 0, 0), (.iconst 1, 0, 0, 1, 0), (.ireturn, 0, 0, 0, 0)]
def rp_18_r3 : List mm_Row := [(.iconst 0, 0, 0, 0, 0), (.istore 4, 0, 0, 0, 0), (.iload 4, 0, 0, 0, 0), (.iconst 5, 0, 0, 5, 0), (.if_icmp .ge 61, 7, 0, 0, 0), (.iload_n 3, 0, 0, 0, 0), (.iconst 3, 0, 0, 3, 0), (.iload 4, 0, 0, 0, 0), (.imul, 0, 0, 0, 0), (.ishr, 0, 0, 0, 0), (.bipush 7, 0, 0, 7, 0), (.iand, 0, 0, 0, 0), (.istore 5, 0, 0, 0, 0), (.aload_n 0, 0, 0, 0, 0), (.getfield 30, 6, 7, 0, 0), (.iload_n 1, 0, 0, 0, 0), (.iaload, 0, 0, 0, 0), (.iconst 3, 0, 0, 3, 0), (.iload 4, 0, 0, 0, 0), (.imul, 0, 0, 0, 0), (.ishr, 0, 0, 0, 0), (.bipush 7, 0, 0, 7, 0), (.iand, 0, 0, 0, 0), (.istore 6, 0, 0, 0, 0), (.iload 5, 0, 0, 0, 0), (.ifCond .eq 23, 6, 0, 0, 0), (.iload 6, 0, 0, 0, 0), (.ifCond .eq 16, 5, 0, 0, 0), (.iload 4, 0, 0, 0, 0), (.iconst 4, 0, 0, 4, 0), (.if_icmp .eq 12, 6, 0, 0, 0), (.iload 6, 0, 0, 0, 0), (.iload 5, 0, 0, 0, 0), (.if_icmp .eq 5, 6, 0, 0, 0), (.iconst 0, 0, 0, 0, 0), (.ireturn, 0, 0, 0, 0)]
def rp_18_r4 : List mm_Row := [(.iload 4, 0, 0, 0, 0), (.iconst 5, 0, 0, 5, 0), (.if_icmp .ge 61, 7, 0, 0, 0), (.iload_n 3, 0, 0, 0, 0), (.iconst 3, 0, 0, 3, 0), (.iload 4, 0, 0, 0, 0), (.imul, 0, 0, 0, 0), (.ishr, 0, 0, 0, 0), (.bipush 7, 0, 0, 7, 0), (.iand, 0, 0, 0, 0), (.istore 5, 0, 0, 0, 0), (.aload_n 0, 0, 0, 0, 0), (.getfield 30, 6, 7, 0, 0), (.iload_n 1, 0, 0, 0, 0), (.iaload, 0, 0, 0, 0), (.iconst 3, 0, 0, 3, 0), (.iload 4, 0, 0, 0, 0), (.imul, 0, 0, 0, 0), (.ishr, 0, 0, 0, 0), (.bipush 7, 0, 0, 7, 0), (.iand, 0, 0, 0, 0), (.istore 6, 0, 0, 0, 0), (.iload 5, 0, 0, 0, 0), (.ifCond .eq 23, 6, 0, 0, 0), (.iload 6, 0, 0, 0, 0), (.ifCond .eq 16, 5, 0, 0, 0), (.iload 4, 0, 0, 0, 0), (.iconst 4, 0, 0, 4, 0), (.if_icmp .eq 12, 6, 0, 0, 0), (.iload 6, 0, 0, 0, 0), (.iload 5, 0, 0, 0, 0), (.if_icmp .eq 5, 6, 0, 0, 0), (.iconst 0, 0, 0, 0, 0), (.ireturn, 0, 0, 0, 0)]
def rp_18_r5 : List mm_Row := [(.iconst 0, 0, 0, 0, 0), (.ireturn, 0, 0, 0, 0)]
def rp_18_r6 : List mm_Row := [(.iinc 4 1, 0, 0, 1, 0), (.goto (-61), 4, 0, 0, 0)]
def rp_18_r7 : List mm_Row := [(.iconst 1, 0, 0, 1, 0), (.ireturn, 0, 0, 0, 0)]
def rp_18_l : List (Nat × List mm_Row) := [(0, rp_18_r0), (9, rp_18_r1), (10, rp_18_r2), (18, rp_18_r3), (21, rp_18_r4), (77, rp_18_r5), (79, rp_18_r6), (85, rp_18_r7)]
def rp_18 : mm_M := (6, ⟨"WiringContainerModel", "carries", "(II)Z"⟩, prog_8_method_20_code, 7, (some .boolean), rp_18_l)
-- 19: WiringContainerModel.seek(II)I
def rp_19_r0 : List mm_Row := [(.iconst 0, 0, 0, 0, 0), (.istore_n 3, 0, 0, 0, 0), (.iconst 0, 0, 0, 0, 0), (.istore 4, 0, 0, 0, 0), (.iload 4, 0, 0, 0, 0), (.aload_n 0, 0, 0, 0, 0), (.getfield 131, 6, 5, 0, 0), (.if_icmp .ge 52, 3, 0, 0, 0), (.aload_n 0, 0, 0, 0, 0), (.iload 4, 0, 0, 0, 0), (.invokevirtual 175, 11, 434, 0, 0), (.ifCond .eq 37, 2, 0, 0, 0), (.aload_n 0, 0, 0, 0, 0), (.iload 4, 0, 0, 0, 0), (.iload_n 2, 0, 0, 0, 0), (.invokevirtual 178, 18, 435, 0, 0), (.ifCond .eq 27, 2, 0, 0, 0), (.aload_n 0, 0, 0, 0, 0), (.iload_n 1, 0, 0, 0, 0), (.i2l, 0, 0, 0, 0), (.aload_n 0, 0, 0, 0, 0), (.getfield 27, 6, 6, 0, 0), (.iload 4, 0, 0, 0, 0), (.iaload, 0, 0, 0, 0), (.i2l, 0, 0, 0, 0), (.invokevirtual 182, 17, 435, 0, 0), (.ifCond .eq 10, 2, 0, 0, 0), (.iload_n 3, 0, 0, 0, 0), (.iconst 1, 0, 0, 1, 0), (.iload 4, 0, 0, 0, 0), (.ishl, 0, 0, 0, 0), (.ior, 0, 0, 0, 0), (.istore_n 3, 0, 0, 0, 0), (.iinc 4 1, 0, 0, 1, 0), (.goto (-55), 1, 0, 0, 0)]
def rp_19_r1 : List mm_Row := [(.iload 4, 0, 0, 0, 0), (.aload_n 0, 0, 0, 0, 0), (.getfield 131, 6, 5, 0, 0), (.if_icmp .ge 52, 3, 0, 0, 0), (.aload_n 0, 0, 0, 0, 0), (.iload 4, 0, 0, 0, 0), (.invokevirtual 175, 11, 434, 0, 0), (.ifCond .eq 37, 2, 0, 0, 0), (.aload_n 0, 0, 0, 0, 0), (.iload 4, 0, 0, 0, 0), (.iload_n 2, 0, 0, 0, 0), (.invokevirtual 178, 18, 435, 0, 0), (.ifCond .eq 27, 2, 0, 0, 0), (.aload_n 0, 0, 0, 0, 0), (.iload_n 1, 0, 0, 0, 0), (.i2l, 0, 0, 0, 0), (.aload_n 0, 0, 0, 0, 0), (.getfield 27, 6, 6, 0, 0), (.iload 4, 0, 0, 0, 0), (.iaload, 0, 0, 0, 0), (.i2l, 0, 0, 0, 0), (.invokevirtual 182, 17, 435, 0, 0), (.ifCond .eq 10, 2, 0, 0, 0), (.iload_n 3, 0, 0, 0, 0), (.iconst 1, 0, 0, 1, 0), (.iload 4, 0, 0, 0, 0), (.ishl, 0, 0, 0, 0), (.ior, 0, 0, 0, 0), (.istore_n 3, 0, 0, 0, 0), (.iinc 4 1, 0, 0, 1, 0), (.goto (-55), 1, 0, 0, 0)]
def rp_19_r2 : List mm_Row := [(.iinc 4 1, 0, 0, 1, 0), (.goto (-55), 1, 0, 0, 0)]
def rp_19_r3 : List mm_Row := [(.iload_n 3, 0, 0, 0, 0), (.ireturn, 0, 0, 0, 0)]
def rp_19_l : List (Nat × List mm_Row) := [(0, rp_19_r0), (5, rp_19_r1), (57, rp_19_r2), (63, rp_19_r3)]
def rp_19 : mm_M := (6, ⟨"WiringContainerModel", "seek", "(II)I"⟩, prog_8_method_21_code, 5, (some .int), rp_19_l)
-- 20: WiringContainerModel.count(I)I
def rp_20_r0 : List mm_Row := [(.iconst 0, 0, 0, 0, 0), (.istore_n 1, 0, 0, 0, 0), (.iconst 0, 0, 0, 0, 0), (.istore_n 2, 0, 0, 0, 0), (.iload_n 2, 0, 0, 0, 0), (.bipush 16, 0, 0, 16, 0), (.if_icmp .ge 17, 2, 0, 0, 0), (.iload_n 1, 0, 0, 0, 0), (.iload_n 0, 0, 0, 0, 0), (.iload_n 2, 0, 0, 0, 0), (.ishr, 0, 0, 0, 0), (.iconst 1, 0, 0, 1, 0), (.iand, 0, 0, 0, 0), (.iadd, 0, 0, 0, 0), (.istore_n 1, 0, 0, 0, 0), (.iinc 2 1, 0, 0, 1, 0), (.goto (-17), 1, 0, 0, 0)]
def rp_20_r1 : List mm_Row := [(.iload_n 2, 0, 0, 0, 0), (.bipush 16, 0, 0, 16, 0), (.if_icmp .ge 17, 2, 0, 0, 0), (.iload_n 1, 0, 0, 0, 0), (.iload_n 0, 0, 0, 0, 0), (.iload_n 2, 0, 0, 0, 0), (.ishr, 0, 0, 0, 0), (.iconst 1, 0, 0, 1, 0), (.iand, 0, 0, 0, 0), (.iadd, 0, 0, 0, 0), (.istore_n 1, 0, 0, 0, 0), (.iinc 2 1, 0, 0, 1, 0), (.goto (-17), 1, 0, 0, 0)]
def rp_20_r2 : List mm_Row := [(.iload_n 1, 0, 0, 0, 0), (.ireturn, 0, 0, 0, 0)]
def rp_20_l : List (Nat × List mm_Row) := [(0, rp_20_r0), (4, rp_20_r1), (24, rp_20_r2)]
def rp_20 : mm_M := (6, ⟨"WiringContainerModel", "count", "(I)I"⟩, prog_8_method_22_code, 3, (some .int), rp_20_l)
-- 21: WiringContainerModel.narrow(I)I
def rp_21_r0 : List mm_Row := [(.iconst 0, 0, 0, 0, 0), (.istore_n 2, 0, 0, 0, 0), (.iconst 0, 0, 0, 0, 0), (.istore_n 3, 0, 0, 0, 0), (.iload_n 3, 0, 0, 0, 0), (.aload_n 0, 0, 0, 0, 0), (.getfield 131, 6, 5, 0, 0), (.if_icmp .ge 33, 3, 0, 0, 0), (.iload_n 1, 0, 0, 0, 0), (.iload_n 3, 0, 0, 0, 0), (.ishr, 0, 0, 0, 0), (.iconst 1, 0, 0, 1, 0), (.iand, 0, 0, 0, 0), (.iconst 1, 0, 0, 1, 0), (.if_icmp .ne 18, 2, 0, 0, 0), (.aload_n 0, 0, 0, 0, 0), (.iload_n 3, 0, 0, 0, 0), (.invokevirtual 186, 12, 402, 0, 0), (.iload_n 2, 0, 0, 0, 0), (.if_icmp .le 9, 2, 0, 0, 0), (.aload_n 0, 0, 0, 0, 0), (.iload_n 3, 0, 0, 0, 0), (.invokevirtual 186, 12, 402, 0, 0), (.istore_n 2, 0, 0, 0, 0), (.iinc 3 1, 0, 0, 1, 0), (.goto (-35), 1, 0, 0, 0)]
def rp_21_r1 : List mm_Row := [(.iload_n 3, 0, 0, 0, 0), (.aload_n 0, 0, 0, 0, 0), (.getfield 131, 6, 5, 0, 0), (.if_icmp .ge 33, 3, 0, 0, 0), (.iload_n 1, 0, 0, 0, 0), (.iload_n 3, 0, 0, 0, 0), (.ishr, 0, 0, 0, 0), (.iconst 1, 0, 0, 1, 0), (.iand, 0, 0, 0, 0), (.iconst 1, 0, 0, 1, 0), (.if_icmp .ne 18, 2, 0, 0, 0), (.aload_n 0, 0, 0, 0, 0), (.iload_n 3, 0, 0, 0, 0), (.invokevirtual 186, 12, 402, 0, 0), (.iload_n 2, 0, 0, 0, 0), (.if_icmp .le 9, 2, 0, 0, 0), (.aload_n 0, 0, 0, 0, 0), (.iload_n 3, 0, 0, 0, 0), (.invokevirtual 186, 12, 402, 0, 0), (.istore_n 2, 0, 0, 0, 0), (.iinc 3 1, 0, 0, 1, 0), (.goto (-35), 1, 0, 0, 0)]
def rp_21_r2 : List mm_Row := [(.iinc 3 1, 0, 0, 1, 0), (.goto (-35), 1, 0, 0, 0)]
def rp_21_r3 : List mm_Row := [(.iload_n 1, 0, 0, 0, 0), (.istore_n 3, 0, 0, 0, 0), (.iconst 0, 0, 0, 0, 0), (.istore 4, 0, 0, 0, 0), (.iload 4, 0, 0, 0, 0), (.aload_n 0, 0, 0, 0, 0), (.getfield 131, 6, 5, 0, 0), (.if_icmp .ge 28, 6, 0, 0, 0), (.aload_n 0, 0, 0, 0, 0), (.iload 4, 0, 0, 0, 0), (.invokevirtual 186, 12, 402, 0, 0), (.iload_n 2, 0, 0, 0, 0), (.if_icmp .ge 12, 5, 0, 0, 0), (.iload_n 3, 0, 0, 0, 0), (.iconst 1, 0, 0, 1, 0), (.iload 4, 0, 0, 0, 0), (.ishl, 0, 0, 0, 0), (.iconst (-1), 0, 0, (-1), 0), (.ixor, 0, 0, 0, 0), (.iand, 0, 0, 0, 0), (.istore_n 3, 0, 0, 0, 0), (.iinc 4 1, 0, 0, 1, 0), (.goto (-31), 4, 0, 0, 0)]
def rp_21_r4 : List mm_Row := [(.iload 4, 0, 0, 0, 0), (.aload_n 0, 0, 0, 0, 0), (.getfield 131, 6, 5, 0, 0), (.if_icmp .ge 28, 6, 0, 0, 0), (.aload_n 0, 0, 0, 0, 0), (.iload 4, 0, 0, 0, 0), (.invokevirtual 186, 12, 402, 0, 0), (.iload_n 2, 0, 0, 0, 0), (.if_icmp .ge 12, 5, 0, 0, 0), (.iload_n 3, 0, 0, 0, 0), (.iconst 1, 0, 0, 1, 0), (.iload 4, 0, 0, 0, 0), (.ishl, 0, 0, 0, 0), (.iconst (-1), 0, 0, (-1), 0), (.ixor, 0, 0, 0, 0), (.iand, 0, 0, 0, 0), (.istore_n 3, 0, 0, 0, 0), (.iinc 4 1, 0, 0, 1, 0), (.goto (-31), 4, 0, 0, 0)]
def rp_21_r5 : List mm_Row := [(.iinc 4 1, 0, 0, 1, 0), (.goto (-31), 4, 0, 0, 0)]
def rp_21_r6 : List mm_Row := [(.iload_n 3, 0, 0, 0, 0), (.ireturn, 0, 0, 0, 0)]
def rp_21_l : List (Nat × List mm_Row) := [(0, rp_21_r0), (4, rp_21_r1), (36, rp_21_r2), (42, rp_21_r3), (47, rp_21_r4), (75, rp_21_r5), (81, rp_21_r6)]
def rp_21 : mm_M := (6, ⟨"WiringContainerModel", "narrow", "(I)I"⟩, prog_8_method_23_code, 5, (some .int), rp_21_l)
-- 22: WiringContainerModel.pick(II)I
def rp_22_r0 : List mm_Row := [(.aload_n 0, 0, 0, 0, 0), (.iload_n 1, 0, 0, 0, 0), (.iload_n 2, 0, 0, 0, 0), (.invokevirtual 190, 19, 403, 0, 0), (.istore_n 3, 0, 0, 0, 0), (.aload_n 0, 0, 0, 0, 0), (.iload_n 3, 0, 0, 0, 0), (.invokevirtual 194, 21, 402, 0, 0), (.istore 4, 0, 0, 0, 0), (.iload_n 3, 0, 0, 0, 0), (.ifCond .ne 6, 1, 0, 0, 0), (.bipush (-4), 0, 0, (-4), 0), (.ireturn, 0, 0, 0, 0)]
def rp_22_r1 : List mm_Row := [(.iconst 0, 0, 0, 0, 0), (.istore 5, 0, 0, 0, 0), (.iload 5, 0, 0, 0, 0), (.aload_n 0, 0, 0, 0, 0), (.getfield 131, 6, 5, 0, 0), (.if_icmp .ge 21, 4, 0, 0, 0), (.iload 4, 0, 0, 0, 0), (.iconst 1, 0, 0, 1, 0), (.iload 5, 0, 0, 0, 0), (.ishl, 0, 0, 0, 0), (.if_icmp .ne 6, 3, 0, 0, 0), (.iload 5, 0, 0, 0, 0), (.ireturn, 0, 0, 0, 0)]
def rp_22_r2 : List mm_Row := [(.iload 5, 0, 0, 0, 0), (.aload_n 0, 0, 0, 0, 0), (.getfield 131, 6, 5, 0, 0), (.if_icmp .ge 21, 4, 0, 0, 0), (.iload 4, 0, 0, 0, 0), (.iconst 1, 0, 0, 1, 0), (.iload 5, 0, 0, 0, 0), (.ishl, 0, 0, 0, 0), (.if_icmp .ne 6, 3, 0, 0, 0), (.iload 5, 0, 0, 0, 0), (.ireturn, 0, 0, 0, 0)]
def rp_22_r3 : List mm_Row := [(.iinc 5 1, 0, 0, 1, 0), (.goto (-24), 2, 0, 0, 0)]
def rp_22_r4 : List mm_Row := [(.bipush (-5), 0, 0, (-5), 0), (.ireturn, 0, 0, 0, 0)]
def rp_22_l : List (Nat × List mm_Row) := [(0, rp_22_r0), (21, rp_22_r1), (24, rp_22_r2), (45, rp_22_r3), (51, rp_22_r4)]
def rp_22 : mm_M := (6, ⟨"WiringContainerModel", "pick", "(II)I"⟩, prog_8_method_24_code, 6, (some .int), rp_22_l)
-- 23: WiringContainerModel.types(I)I
def rp_23_r0 : List mm_Row := [(.aload_n 0, 0, 0, 0, 0), (.iload_n 1, 0, 0, 0, 0), (.invokevirtual 138, 9, 434, 0, 0), (.ifCond .ne 5, 1, 0, 0, 0), (.iconst (-1), 0, 0, (-1), 0), (.ireturn, 0, 0, 0, 0)]
def rp_23_r1 : List mm_Row := [(.aload_n 0, 0, 0, 0, 0), (.aload_n 0, 0, 0, 0, 0), (.getfield 27, 6, 6, 0, 0), (.iload_n 1, 0, 0, 0, 0), (.iaload, 0, 0, 0, 0), (.i2l, 0, 0, 0, 0), (.invokevirtual 163, 15, 386, 0, 0), (.aload_n 0, 0, 0, 0, 0), (.getfield 147, 6, 20, 0, 0), (.ireturn, 0, 0, 0, 0)]
def rp_23_l : List (Nat × List mm_Row) := [(0, rp_23_r0), (10, rp_23_r1)]
def rp_23 : mm_M := (6, ⟨"WiringContainerModel", "types", "(I)I"⟩, prog_8_method_25_code, 2, (some .int), rp_23_l)
-- 24: WiringContainerModel.fits(II)I
def rp_24_r0 : List mm_Row := [(.aload_n 0, 0, 0, 0, 0), (.iload_n 2, 0, 0, 0, 0), (.invokevirtual 138, 9, 434, 0, 0), (.ifCond .eq 11, 1, 0, 0, 0), (.aload_n 0, 0, 0, 0, 0), (.iload_n 1, 0, 0, 0, 0), (.invokevirtual 141, 1, 434, 0, 0), (.ifCond .ne 5, 2, 0, 0, 0), (.iconst (-1), 0, 0, (-1), 0), (.ireturn, 0, 0, 0, 0)]
def rp_24_r1 : List mm_Row := [(.iconst (-1), 0, 0, (-1), 0), (.ireturn, 0, 0, 0, 0)]
def rp_24_r2 : List mm_Row := [(.aload_n 0, 0, 0, 0, 0), (.iload_n 1, 0, 0, 0, 0), (.i2l, 0, 0, 0, 0), (.aload_n 0, 0, 0, 0, 0), (.getfield 27, 6, 6, 0, 0), (.iload_n 2, 0, 0, 0, 0), (.iaload, 0, 0, 0, 0), (.i2l, 0, 0, 0, 0), (.invokevirtual 182, 17, 435, 0, 0), (.ifCond .eq 7, 3, 0, 0, 0), (.iconst 1, 0, 0, 1, 0), (.goto 4, 4, 0, 0, 0)]
def rp_24_r3 : List mm_Row := [(.iconst 0, 0, 0, 0, 0), (.ireturn, 0, 0, 0, 0)]
def rp_24_r4 : List mm_Row := [(.ireturn, 0, 0, 0, 0)]
def rp_24_l : List (Nat × List mm_Row) := [(0, rp_24_r0), (16, rp_24_r1), (18, rp_24_r2), (38, rp_24_r3), (39, rp_24_r4)]
def rp_24 : mm_M := (6, ⟨"WiringContainerModel", "fits", "(II)I"⟩, prog_8_method_26_code, 3, (some .int), rp_24_l)
-- 25: WiringContainerModel.candidates(II)I
def rp_25_r0 : List mm_Row := [(.aload_n 0, 0, 0, 0, 0), (.iload_n 1, 0, 0, 0, 0), (.invokevirtual 141, 1, 434, 0, 0), (.ifCond .eq 10, 1, 0, 0, 0), (.iload_n 2, 0, 0, 0, 0), (.invokestatic 144, 3, 49, 0, 0), (.ifCond .ne 5, 2, 0, 0, 0), (.iconst (-1), 0, 0, (-1), 0), (.ireturn, 0, 0, 0, 0)]
def rp_25_r1 : List mm_Row := [(.iconst (-1), 0, 0, (-1), 0), (.ireturn, 0, 0, 0, 0)]
def rp_25_r2 : List mm_Row := [(.aload_n 0, 0, 0, 0, 0), (.iload_n 1, 0, 0, 0, 0), (.iload_n 2, 0, 0, 0, 0), (.invokevirtual 190, 19, 403, 0, 0), (.istore_n 3, 0, 0, 0, 0), (.iload_n 3, 0, 0, 0, 0), (.invokestatic 197, 20, 17, 0, 0), (.ireturn, 0, 0, 0, 0)]
def rp_25_l : List (Nat × List mm_Row) := [(0, rp_25_r0), (15, rp_25_r1), (17, rp_25_r2)]
def rp_25 : mm_M := (6, ⟨"WiringContainerModel", "candidates", "(II)I"⟩, prog_8_method_27_code, 4, (some .int), rp_25_l)
-- 26: WiringContainerModel.resolve(II)I
def rp_26_r0 : List mm_Row := [(.aload_n 0, 0, 0, 0, 0), (.iload_n 1, 0, 0, 0, 0), (.invokevirtual 141, 1, 434, 0, 0), (.ifCond .eq 10, 1, 0, 0, 0), (.iload_n 2, 0, 0, 0, 0), (.invokestatic 144, 3, 49, 0, 0), (.ifCond .ne 5, 2, 0, 0, 0), (.iconst (-1), 0, 0, (-1), 0), (.ireturn, 0, 0, 0, 0)]
def rp_26_r1 : List mm_Row := [(.iconst (-1), 0, 0, (-1), 0), (.ireturn, 0, 0, 0, 0)]
def rp_26_r2 : List mm_Row := [(.aload_n 0, 0, 0, 0, 0), (.iload_n 1, 0, 0, 0, 0), (.iload_n 2, 0, 0, 0, 0), (.invokevirtual 200, 22, 403, 0, 0), (.ireturn, 0, 0, 0, 0)]
def rp_26_l : List (Nat × List mm_Row) := [(0, rp_26_r0), (15, rp_26_r1), (17, rp_26_r2)]
def rp_26 : mm_M := (6, ⟨"WiringContainerModel", "resolve", "(II)I"⟩, prog_8_method_28_code, 3, (some .int), rp_26_l)
-- 27: WiringContainerModel.hasVariable(I)Z
def rp_27_r0 : List mm_Row := [(.iconst 0, 0, 0, 0, 0), (.istore_n 2, 0, 0, 0, 0), (.iload_n 2, 0, 0, 0, 0), (.iconst 4, 0, 0, 4, 0), (.if_icmp .ge 29, 3, 0, 0, 0), (.aload_n 0, 0, 0, 0, 0), (.getfield 27, 6, 6, 0, 0), (.iload_n 1, 0, 0, 0, 0), (.iaload, 0, 0, 0, 0), (.iconst 5, 0, 0, 5, 0), (.iload_n 2, 0, 0, 0, 0), (.imul, 0, 0, 0, 0), (.ishr, 0, 0, 0, 0), (.bipush 31, 0, 0, 31, 0), (.iand, 0, 0, 0, 0), (.bipush 31, 0, 0, 31, 0), (.if_icmp .ne 5, 2, 0, 0, 0), (.iconst 1, 0, 0, 1, 0), (.ireturn, 0, 0, 0, 0)]
def rp_27_r1 : List mm_Row := [(.iload_n 2, 0, 0, 0, 0), (.iconst 4, 0, 0, 4, 0), (.if_icmp .ge 29, 3, 0, 0, 0), (.aload_n 0, 0, 0, 0, 0), (.getfield 27, 6, 6, 0, 0), (.iload_n 1, 0, 0, 0, 0), (.iaload, 0, 0, 0, 0), (.iconst 5, 0, 0, 5, 0), (.iload_n 2, 0, 0, 0, 0), (.imul, 0, 0, 0, 0), (.ishr, 0, 0, 0, 0), (.bipush 31, 0, 0, 31, 0), (.iand, 0, 0, 0, 0), (.bipush 31, 0, 0, 31, 0), (.if_icmp .ne 5, 2, 0, 0, 0), (.iconst 1, 0, 0, 1, 0), (.ireturn, 0, 0, 0, 0)]
def rp_27_r2 : List mm_Row := [(.iinc 2 1, 0, 0, 1, 0), (.goto (-28), 1, 0, 0, 0)]
def rp_27_r3 : List mm_Row := [(.iconst 0, 0, 0, 0, 0), (.ireturn, 0, 0, 0, 0)]
def rp_27_l : List (Nat × List mm_Row) := [(0, rp_27_r0), (2, rp_27_r1), (27, rp_27_r2), (33, rp_27_r3)]
def rp_27 : mm_M := (6, ⟨"WiringContainerModel", "hasVariable", "(I)Z"⟩, prog_8_method_29_code, 3, (some .boolean), rp_27_l)
-- 28: WiringContainerModel.judge(I)I
def rp_28_r0 : List mm_Row := [(.aload_n 0, 0, 0, 0, 0), (.getfield 33, 6, 8, 0, 0), (.iload_n 1, 0, 0, 0, 0), (.iaload, 0, 0, 0, 0), (.ifCond .eq 15, 1, 0, 0, 0), (.aload_n 0, 0, 0, 0, 0), (.iload_n 1, 0, 0, 0, 0), (.invokevirtual 203, 27, 434, 0, 0), (.ifCond .eq 7, 1, 0, 0, 0), (.iconst 1, 0, 0, 1, 0), (.goto 4, 2, 0, 0, 0)]
def rp_28_r1 : List mm_Row := [(.iconst 0, 0, 0, 0, 0), (.istore_n 2, 0, 0, 0, 0), (.aload_n 0, 0, 0, 0, 0), (.getfield 57, 6, 17, 0, 0), (.iload_n 1, 0, 0, 0, 0), (.aload_n 0, 0, 0, 0, 0), (.getfield 39, 6, 10, 0, 0), (.iload_n 1, 0, 0, 0, 0), (.iaload, 0, 0, 0, 0), (.ifCond .lt 14, 3, 0, 0, 0), (.iconst 1, 0, 0, 1, 0), (.aload_n 0, 0, 0, 0, 0), (.getfield 39, 6, 10, 0, 0), (.iload_n 1, 0, 0, 0, 0), (.iaload, 0, 0, 0, 0), (.ishl, 0, 0, 0, 0), (.goto 4, 4, 0, 0, 0)]
def rp_28_r2 : List mm_Row := [(.istore_n 2, 0, 0, 0, 0), (.aload_n 0, 0, 0, 0, 0), (.getfield 57, 6, 17, 0, 0), (.iload_n 1, 0, 0, 0, 0), (.aload_n 0, 0, 0, 0, 0), (.getfield 39, 6, 10, 0, 0), (.iload_n 1, 0, 0, 0, 0), (.iaload, 0, 0, 0, 0), (.ifCond .lt 14, 3, 0, 0, 0), (.iconst 1, 0, 0, 1, 0), (.aload_n 0, 0, 0, 0, 0), (.getfield 39, 6, 10, 0, 0), (.iload_n 1, 0, 0, 0, 0), (.iaload, 0, 0, 0, 0), (.ishl, 0, 0, 0, 0), (.goto 4, 4, 0, 0, 0)]
def rp_28_r3 : List mm_Row := [(.iconst 0, 0, 0, 0, 0), (.iastore, 0, 0, 0, 0), (.iconst 3, 0, 0, 3, 0), (.iload_n 1, 0, 0, 0, 0), (.imul, 0, 0, 0, 0), (.istore_n 3, 0, 0, 0, 0), (.iload_n 3, 0, 0, 0, 0), (.iconst 3, 0, 0, 3, 0), (.iload_n 1, 0, 0, 0, 0), (.imul, 0, 0, 0, 0), (.aload_n 0, 0, 0, 0, 0), (.getfield 45, 6, 12, 0, 0), (.iload_n 1, 0, 0, 0, 0), (.iaload, 0, 0, 0, 0), (.iadd, 0, 0, 0, 0), (.if_icmp .ge 130, 11, 0, 0, 0), (.aload_n 0, 0, 0, 0, 0), (.aload_n 0, 0, 0, 0, 0), (.getfield 48, 6, 13, 0, 0), (.iload_n 3, 0, 0, 0, 0), (.iaload, 0, 0, 0, 0), (.aload_n 0, 0, 0, 0, 0), (.getfield 51, 6, 14, 0, 0), (.iload_n 3, 0, 0, 0, 0), (.iaload, 0, 0, 0, 0), (.invokevirtual 200, 22, 403, 0, 0), (.istore 4, 0, 0, 0, 0), (.aload_n 0, 0, 0, 0, 0), (.getfield 54, 6, 16, 0, 0), (.iload_n 3, 0, 0, 0, 0), (.iload 4, 0, 0, 0, 0), (.iastore, 0, 0, 0, 0), (.iload_n 2, 0, 0, 0, 0), (.iload 4, 0, 0, 0, 0), (.bipush (-4), 0, 0, (-4), 0), (.if_icmp .ne 7, 6, 0, 0, 0), (.iconst 2, 0, 0, 2, 0), (.goto 15, 8, 0, 0, 0)]
def rp_28_r4 : List mm_Row := [(.iastore, 0, 0, 0, 0), (.iconst 3, 0, 0, 3, 0), (.iload_n 1, 0, 0, 0, 0), (.imul, 0, 0, 0, 0), (.istore_n 3, 0, 0, 0, 0), (.iload_n 3, 0, 0, 0, 0), (.iconst 3, 0, 0, 3, 0), (.iload_n 1, 0, 0, 0, 0), (.imul, 0, 0, 0, 0), (.aload_n 0, 0, 0, 0, 0), (.getfield 45, 6, 12, 0, 0), (.iload_n 1, 0, 0, 0, 0), (.iaload, 0, 0, 0, 0), (.iadd, 0, 0, 0, 0), (.if_icmp .ge 130, 11, 0, 0, 0), (.aload_n 0, 0, 0, 0, 0), (.aload_n 0, 0, 0, 0, 0), (.getfield 48, 6, 13, 0, 0), (.iload_n 3, 0, 0, 0, 0), (.iaload, 0, 0, 0, 0), (.aload_n 0, 0, 0, 0, 0), (.getfield 51, 6, 14, 0, 0), (.iload_n 3, 0, 0, 0, 0), (.iaload, 0, 0, 0, 0), (.invokevirtual 200, 22, 403, 0, 0), (.istore 4, 0, 0, 0, 0), (.aload_n 0, 0, 0, 0, 0), (.getfield 54, 6, 16, 0, 0), (.iload_n 3, 0, 0, 0, 0), (.iload 4, 0, 0, 0, 0), (.iastore, 0, 0, 0, 0), (.iload_n 2, 0, 0, 0, 0), (.iload 4, 0, 0, 0, 0), (.bipush (-4), 0, 0, (-4), 0), (.if_icmp .ne 7, 6, 0, 0, 0), (.iconst 2, 0, 0, 2, 0), (.goto 15, 8, 0, 0, 0)]
def rp_28_r5 : List mm_Row := [(.iload_n 3, 0, 0, 0, 0), (.iconst 3, 0, 0, 3, 0), (.iload_n 1, 0, 0, 0, 0), (.imul, 0, 0, 0, 0), (.aload_n 0, 0, 0, 0, 0), (.getfield 45, 6, 12, 0, 0), (.iload_n 1, 0, 0, 0, 0), (.iaload, 0, 0, 0, 0), (.iadd, 0, 0, 0, 0), (.if_icmp .ge 130, 11, 0, 0, 0), (.aload_n 0, 0, 0, 0, 0), (.aload_n 0, 0, 0, 0, 0), (.getfield 48, 6, 13, 0, 0), (.iload_n 3, 0, 0, 0, 0), (.iaload, 0, 0, 0, 0), (.aload_n 0, 0, 0, 0, 0), (.getfield 51, 6, 14, 0, 0), (.iload_n 3, 0, 0, 0, 0), (.iaload, 0, 0, 0, 0), (.invokevirtual 200, 22, 403, 0, 0), (.istore 4, 0, 0, 0, 0), (.aload_n 0, 0, 0, 0, 0), (.getfield 54, 6, 16, 0, 0), (.iload_n 3, 0, 0, 0, 0), (.iload 4, 0, 0, 0, 0), (.iastore, 0, 0, 0, 0), (.iload_n 2, 0, 0, 0, 0), (.iload 4, 0, 0, 0, 0), (.bipush (-4), 0, 0, (-4), 0), (.if_icmp .ne 7, 6, 0, 0, 0), (.iconst 2, 0, 0, 2, 0), (.goto 15, 8, 0, 0, 0)]
def rp_28_r6 : List mm_Row := [(.iload 4, 0, 0, 0, 0), (.bipush (-5), 0, 0, (-5), 0), (.if_icmp .ne 7, 7, 0, 0, 0), (.iconst 4, 0, 0, 4, 0), (.goto 4, 8, 0, 0, 0)]
def rp_28_r7 : List mm_Row := [(.iconst 0, 0, 0, 0, 0), (.ior, 0, 0, 0, 0), (.istore_n 2, 0, 0, 0, 0), (.iload 4, 0, 0, 0, 0), (.ifCond .lt 35, 9, 0, 0, 0), (.aload_n 0, 0, 0, 0, 0), (.getfield 33, 6, 8, 0, 0), (.iload 4, 0, 0, 0, 0), (.iaload, 0, 0, 0, 0), (.ifCond .eq 25, 9, 0, 0, 0), (.aload_n 0, 0, 0, 0, 0), (.getfield 17, 6, 2, 0, 0), (.aload_n 0, 0, 0, 0, 0), (.getfield 48, 6, 13, 0, 0), (.iload_n 3, 0, 0, 0, 0), (.iaload, 0, 0, 0, 0), (.bipush 31, 0, 0, 31, 0), (.iand, 0, 0, 0, 0), (.baload, 0, 0, 0, 0), (.ifCond .eq 8, 9, 0, 0, 0), (.iload_n 2, 0, 0, 0, 0), (.bipush 8, 0, 0, 8, 0), (.ior, 0, 0, 0, 0), (.istore_n 2, 0, 0, 0, 0), (.iload 4, 0, 0, 0, 0), (.ifCond .lt 30, 10, 0, 0, 0), (.aload_n 0, 0, 0, 0, 0), (.getfield 33, 6, 8, 0, 0), (.iload 4, 0, 0, 0, 0), (.iaload, 0, 0, 0, 0), (.ifCond .ne 20, 10, 0, 0, 0), (.aload_n 0, 0, 0, 0, 0), (.getfield 57, 6, 17, 0, 0), (.iload_n 1, 0, 0, 0, 0), (.aload_n 0, 0, 0, 0, 0), (.getfield 57, 6, 17, 0, 0), (.iload_n 1, 0, 0, 0, 0), (.iaload, 0, 0, 0, 0), (.iconst 1, 0, 0, 1, 0), (.iload 4, 0, 0, 0, 0), (.ishl, 0, 0, 0, 0), (.ior, 0, 0, 0, 0), (.iastore, 0, 0, 0, 0), (.iinc 3 1, 0, 0, 1, 0), (.goto (-138), 5, 0, 0, 0)]
def rp_28_r8 : List mm_Row := [(.ior, 0, 0, 0, 0), (.istore_n 2, 0, 0, 0, 0), (.iload 4, 0, 0, 0, 0), (.ifCond .lt 35, 9, 0, 0, 0), (.aload_n 0, 0, 0, 0, 0), (.getfield 33, 6, 8, 0, 0), (.iload 4, 0, 0, 0, 0), (.iaload, 0, 0, 0, 0), (.ifCond .eq 25, 9, 0, 0, 0), (.aload_n 0, 0, 0, 0, 0), (.getfield 17, 6, 2, 0, 0), (.aload_n 0, 0, 0, 0, 0), (.getfield 48, 6, 13, 0, 0), (.iload_n 3, 0, 0, 0, 0), (.iaload, 0, 0, 0, 0), (.bipush 31, 0, 0, 31, 0), (.iand, 0, 0, 0, 0), (.baload, 0, 0, 0, 0), (.ifCond .eq 8, 9, 0, 0, 0), (.iload_n 2, 0, 0, 0, 0), (.bipush 8, 0, 0, 8, 0), (.ior, 0, 0, 0, 0), (.istore_n 2, 0, 0, 0, 0), (.iload 4, 0, 0, 0, 0), (.ifCond .lt 30, 10, 0, 0, 0), (.aload_n 0, 0, 0, 0, 0), (.getfield 33, 6, 8, 0, 0), (.iload 4, 0, 0, 0, 0), (.iaload, 0, 0, 0, 0), (.ifCond .ne 20, 10, 0, 0, 0), (.aload_n 0, 0, 0, 0, 0), (.getfield 57, 6, 17, 0, 0), (.iload_n 1, 0, 0, 0, 0), (.aload_n 0, 0, 0, 0, 0), (.getfield 57, 6, 17, 0, 0), (.iload_n 1, 0, 0, 0, 0), (.iaload, 0, 0, 0, 0), (.iconst 1, 0, 0, 1, 0), (.iload 4, 0, 0, 0, 0), (.ishl, 0, 0, 0, 0), (.ior, 0, 0, 0, 0), (.iastore, 0, 0, 0, 0), (.iinc 3 1, 0, 0, 1, 0), (.goto (-138), 5, 0, 0, 0)]
def rp_28_r9 : List mm_Row := [(.iload 4, 0, 0, 0, 0), (.ifCond .lt 30, 10, 0, 0, 0), (.aload_n 0, 0, 0, 0, 0), (.getfield 33, 6, 8, 0, 0), (.iload 4, 0, 0, 0, 0), (.iaload, 0, 0, 0, 0), (.ifCond .ne 20, 10, 0, 0, 0), (.aload_n 0, 0, 0, 0, 0), (.getfield 57, 6, 17, 0, 0), (.iload_n 1, 0, 0, 0, 0), (.aload_n 0, 0, 0, 0, 0), (.getfield 57, 6, 17, 0, 0), (.iload_n 1, 0, 0, 0, 0), (.iaload, 0, 0, 0, 0), (.iconst 1, 0, 0, 1, 0), (.iload 4, 0, 0, 0, 0), (.ishl, 0, 0, 0, 0), (.ior, 0, 0, 0, 0), (.iastore, 0, 0, 0, 0), (.iinc 3 1, 0, 0, 1, 0), (.goto (-138), 5, 0, 0, 0)]
def rp_28_r10 : List mm_Row := [(.iinc 3 1, 0, 0, 1, 0), (.goto (-138), 5, 0, 0, 0)]
def rp_28_r11 : List mm_Row := [(.iload_n 2, 0, 0, 0, 0), (.ireturn, 0, 0, 0, 0)]
def rp_28_l : List (Nat × List mm_Row) := [(0, rp_28_r0), (21, rp_28_r1), (22, rp_28_r2), (48, rp_28_r3), (49, rp_28_r4), (54, rp_28_r5), (106, rp_28_r6), (117, rp_28_r7), (118, rp_28_r8), (157, rp_28_r9), (189, rp_28_r10), (195, rp_28_r11)]
def rp_28 : mm_M := (6, ⟨"WiringContainerModel", "judge", "(I)I"⟩, prog_8_method_30_code, 5, (some .int), rp_28_l)
-- 29: WiringContainerModel.rings()Z
def rp_29_r0 : List mm_Row := [(.iconst 0, 0, 0, 0, 0), (.istore_n 1, 0, 0, 0, 0), (.iload_n 1, 0, 0, 0, 0), (.aload_n 0, 0, 0, 0, 0), (.getfield 131, 6, 5, 0, 0), (.if_icmp .ge 58, 5, 0, 0, 0), (.iconst 0, 0, 0, 0, 0), (.istore_n 2, 0, 0, 0, 0), (.iload_n 2, 0, 0, 0, 0), (.aload_n 0, 0, 0, 0, 0), (.getfield 131, 6, 5, 0, 0), (.if_icmp .ge 42, 4, 0, 0, 0), (.aload_n 0, 0, 0, 0, 0), (.getfield 57, 6, 17, 0, 0), (.iload_n 2, 0, 0, 0, 0), (.iaload, 0, 0, 0, 0), (.iload_n 1, 0, 0, 0, 0), (.ishr, 0, 0, 0, 0), (.iconst 1, 0, 0, 1, 0), (.iand, 0, 0, 0, 0), (.iconst 1, 0, 0, 1, 0), (.if_icmp .ne 22, 3, 0, 0, 0), (.aload_n 0, 0, 0, 0, 0), (.getfield 57, 6, 17, 0, 0), (.iload_n 2, 0, 0, 0, 0), (.aload_n 0, 0, 0, 0, 0), (.getfield 57, 6, 17, 0, 0), (.iload_n 2, 0, 0, 0, 0), (.iaload, 0, 0, 0, 0), (.aload_n 0, 0, 0, 0, 0), (.getfield 57, 6, 17, 0, 0), (.iload_n 1, 0, 0, 0, 0), (.iaload, 0, 0, 0, 0), (.ior, 0, 0, 0, 0), (.iastore, 0, 0, 0, 0), (.iinc 2 1, 0, 0, 1, 0), (.goto (-44), 2, 0, 0, 0)]
def rp_29_r1 : List mm_Row := [(.iload_n 1, 0, 0, 0, 0), (.aload_n 0, 0, 0, 0, 0), (.getfield 131, 6, 5, 0, 0), (.if_icmp .ge 58, 5, 0, 0, 0), (.iconst 0, 0, 0, 0, 0), (.istore_n 2, 0, 0, 0, 0), (.iload_n 2, 0, 0, 0, 0), (.aload_n 0, 0, 0, 0, 0), (.getfield 131, 6, 5, 0, 0), (.if_icmp .ge 42, 4, 0, 0, 0), (.aload_n 0, 0, 0, 0, 0), (.getfield 57, 6, 17, 0, 0), (.iload_n 2, 0, 0, 0, 0), (.iaload, 0, 0, 0, 0), (.iload_n 1, 0, 0, 0, 0), (.ishr, 0, 0, 0, 0), (.iconst 1, 0, 0, 1, 0), (.iand, 0, 0, 0, 0), (.iconst 1, 0, 0, 1, 0), (.if_icmp .ne 22, 3, 0, 0, 0), (.aload_n 0, 0, 0, 0, 0), (.getfield 57, 6, 17, 0, 0), (.iload_n 2, 0, 0, 0, 0), (.aload_n 0, 0, 0, 0, 0), (.getfield 57, 6, 17, 0, 0), (.iload_n 2, 0, 0, 0, 0), (.iaload, 0, 0, 0, 0), (.aload_n 0, 0, 0, 0, 0), (.getfield 57, 6, 17, 0, 0), (.iload_n 1, 0, 0, 0, 0), (.iaload, 0, 0, 0, 0), (.ior, 0, 0, 0, 0), (.iastore, 0, 0, 0, 0), (.iinc 2 1, 0, 0, 1, 0), (.goto (-44), 2, 0, 0, 0)]
def rp_29_r2 : List mm_Row := [(.iload_n 2, 0, 0, 0, 0), (.aload_n 0, 0, 0, 0, 0), (.getfield 131, 6, 5, 0, 0), (.if_icmp .ge 42, 4, 0, 0, 0), (.aload_n 0, 0, 0, 0, 0), (.getfield 57, 6, 17, 0, 0), (.iload_n 2, 0, 0, 0, 0), (.iaload, 0, 0, 0, 0), (.iload_n 1, 0, 0, 0, 0), (.ishr, 0, 0, 0, 0), (.iconst 1, 0, 0, 1, 0), (.iand, 0, 0, 0, 0), (.iconst 1, 0, 0, 1, 0), (.if_icmp .ne 22, 3, 0, 0, 0), (.aload_n 0, 0, 0, 0, 0), (.getfield 57, 6, 17, 0, 0), (.iload_n 2, 0, 0, 0, 0), (.aload_n 0, 0, 0, 0, 0), (.getfield 57, 6, 17, 0, 0), (.iload_n 2, 0, 0, 0, 0), (.iaload, 0, 0, 0, 0), (.aload_n 0, 0, 0, 0, 0), (.getfield 57, 6, 17, 0, 0), (.iload_n 1, 0, 0, 0, 0), (.iaload, 0, 0, 0, 0), (.ior, 0, 0, 0, 0), (.iastore, 0, 0, 0, 0), (.iinc 2 1, 0, 0, 1, 0), (.goto (-44), 2, 0, 0, 0)]
def rp_29_r3 : List mm_Row := [(.iinc 2 1, 0, 0, 1, 0), (.goto (-44), 2, 0, 0, 0)]
def rp_29_r4 : List mm_Row := [(.iinc 1 1, 0, 0, 1, 0), (.goto (-60), 1, 0, 0, 0)]
def rp_29_r5 : List mm_Row := [(.iconst 0, 0, 0, 0, 0), (.istore_n 1, 0, 0, 0, 0), (.iload_n 1, 0, 0, 0, 0), (.aload_n 0, 0, 0, 0, 0), (.getfield 131, 6, 5, 0, 0), (.if_icmp .ge 25, 8, 0, 0, 0), (.aload_n 0, 0, 0, 0, 0), (.getfield 57, 6, 17, 0, 0), (.iload_n 1, 0, 0, 0, 0), (.iaload, 0, 0, 0, 0), (.iload_n 1, 0, 0, 0, 0), (.ishr, 0, 0, 0, 0), (.iconst 1, 0, 0, 1, 0), (.iand, 0, 0, 0, 0), (.iconst 1, 0, 0, 1, 0), (.if_icmp .ne 5, 7, 0, 0, 0), (.iconst 1, 0, 0, 1, 0), (.ireturn, 0, 0, 0, 0)]
def rp_29_r6 : List mm_Row := [(.iload_n 1, 0, 0, 0, 0), (.aload_n 0, 0, 0, 0, 0), (.getfield 131, 6, 5, 0, 0), (.if_icmp .ge 25, 8, 0, 0, 0), (.aload_n 0, 0, 0, 0, 0), (.getfield 57, 6, 17, 0, 0), (.iload_n 1, 0, 0, 0, 0), (.iaload, 0, 0, 0, 0), (.iload_n 1, 0, 0, 0, 0), (.ishr, 0, 0, 0, 0), (.iconst 1, 0, 0, 1, 0), (.iand, 0, 0, 0, 0), (.iconst 1, 0, 0, 1, 0), (.if_icmp .ne 5, 7, 0, 0, 0), (.iconst 1, 0, 0, 1, 0), (.ireturn, 0, 0, 0, 0)]
def rp_29_r7 : List mm_Row := [(.iinc 1 1, 0, 0, 1, 0), (.goto (-27), 6, 0, 0, 0)]
def rp_29_r8 : List mm_Row := [(.iconst 0, 0, 0, 0, 0), (.ireturn, 0, 0, 0, 0)]
def rp_29_l : List (Nat × List mm_Row) := [(0, rp_29_r0), (2, rp_29_r1), (12, rp_29_r2), (53, rp_29_r3), (59, rp_29_r4), (65, rp_29_r5), (67, rp_29_r6), (91, rp_29_r7), (97, rp_29_r8)]
def rp_29 : mm_M := (6, ⟨"WiringContainerModel", "rings", "()Z"⟩, prog_8_method_31_code, 3, (some .boolean), rp_29_l)
-- 30: WiringContainerModel.sameNames()Z
def rp_30_r0 : List mm_Row := [(.iconst 1, 0, 0, 1, 0), (.istore_n 1, 0, 0, 0, 0), (.iload_n 1, 0, 0, 0, 0), (.bipush 7, 0, 0, 7, 0), (.if_icmp .gt 70, 6, 0, 0, 0), (.iconst 0, 0, 0, 0, 0), (.istore_n 2, 0, 0, 0, 0), (.iconst 0, 0, 0, 0, 0), (.istore_n 3, 0, 0, 0, 0), (.iload_n 3, 0, 0, 0, 0), (.aload_n 0, 0, 0, 0, 0), (.getfield 131, 6, 5, 0, 0), (.if_icmp .ge 36, 4, 0, 0, 0), (.aload_n 0, 0, 0, 0, 0), (.iload_n 3, 0, 0, 0, 0), (.invokevirtual 175, 11, 434, 0, 0), (.ifCond .eq 22, 3, 0, 0, 0), (.aload_n 0, 0, 0, 0, 0), (.getfield 30, 6, 7, 0, 0), (.iload_n 3, 0, 0, 0, 0), (.iaload, 0, 0, 0, 0), (.bipush 7, 0, 0, 7, 0), (.iand, 0, 0, 0, 0), (.iload_n 1, 0, 0, 0, 0), (.if_icmp .ne 9, 3, 0, 0, 0), (.iload_n 2, 0, 0, 0, 0), (.iconst 1, 0, 0, 1, 0), (.iload_n 3, 0, 0, 0, 0), (.ishl, 0, 0, 0, 0), (.ior, 0, 0, 0, 0), (.istore_n 2, 0, 0, 0, 0), (.iinc 3 1, 0, 0, 1, 0), (.goto (-38), 2, 0, 0, 0)]
def rp_30_r1 : List mm_Row := [(.iload_n 1, 0, 0, 0, 0), (.bipush 7, 0, 0, 7, 0), (.if_icmp .gt 70, 6, 0, 0, 0), (.iconst 0, 0, 0, 0, 0), (.istore_n 2, 0, 0, 0, 0), (.iconst 0, 0, 0, 0, 0), (.istore_n 3, 0, 0, 0, 0), (.iload_n 3, 0, 0, 0, 0), (.aload_n 0, 0, 0, 0, 0), (.getfield 131, 6, 5, 0, 0), (.if_icmp .ge 36, 4, 0, 0, 0), (.aload_n 0, 0, 0, 0, 0), (.iload_n 3, 0, 0, 0, 0), (.invokevirtual 175, 11, 434, 0, 0), (.ifCond .eq 22, 3, 0, 0, 0), (.aload_n 0, 0, 0, 0, 0), (.getfield 30, 6, 7, 0, 0), (.iload_n 3, 0, 0, 0, 0), (.iaload, 0, 0, 0, 0), (.bipush 7, 0, 0, 7, 0), (.iand, 0, 0, 0, 0), (.iload_n 1, 0, 0, 0, 0), (.if_icmp .ne 9, 3, 0, 0, 0), (.iload_n 2, 0, 0, 0, 0), (.iconst 1, 0, 0, 1, 0), (.iload_n 3, 0, 0, 0, 0), (.ishl, 0, 0, 0, 0), (.ior, 0, 0, 0, 0), (.istore_n 2, 0, 0, 0, 0), (.iinc 3 1, 0, 0, 1, 0), (.goto (-38), 2, 0, 0, 0)]
def rp_30_r2 : List mm_Row := [(.iload_n 3, 0, 0, 0, 0), (.aload_n 0, 0, 0, 0, 0), (.getfield 131, 6, 5, 0, 0), (.if_icmp .ge 36, 4, 0, 0, 0), (.aload_n 0, 0, 0, 0, 0), (.iload_n 3, 0, 0, 0, 0), (.invokevirtual 175, 11, 434, 0, 0), (.ifCond .eq 22, 3, 0, 0, 0), (.aload_n 0, 0, 0, 0, 0), (.getfield 30, 6, 7, 0, 0), (.iload_n 3, 0, 0, 0, 0), (.iaload, 0, 0, 0, 0), (.bipush 7, 0, 0, 7, 0), (.iand, 0, 0, 0, 0), (.iload_n 1, 0, 0, 0, 0), (.if_icmp .ne 9, 3, 0, 0, 0), (.iload_n 2, 0, 0, 0, 0), (.iconst 1, 0, 0, 1, 0), (.iload_n 3, 0, 0, 0, 0), (.ishl, 0, 0, 0, 0), (.ior, 0, 0, 0, 0), (.istore_n 2, 0, 0, 0, 0), (.iinc 3 1, 0, 0, 1, 0), (.goto (-38), 2, 0, 0, 0)]
def rp_30_r3 : List mm_Row := [(.iinc 3 1, 0, 0, 1, 0), (.goto (-38), 2, 0, 0, 0)]
def rp_30_r4 : List mm_Row := [(.aload_n 0, 0, 0, 0, 0), (.iload_n 2, 0, 0, 0, 0), (.invokevirtual 194, 21, 402, 0, 0), (.istore_n 3, 0, 0, 0, 0), (.iload_n 3, 0, 0, 0, 0), (.invokestatic 197, 20, 17, 0, 0), (.iconst 1, 0, 0, 1, 0), (.if_icmp .le 5, 5, 0, 0, 0), (.iconst 1, 0, 0, 1, 0), (.ireturn, 0, 0, 0, 0)]
def rp_30_r5 : List mm_Row := [(.iinc 1 1, 0, 0, 1, 0), (.goto (-70), 1, 0, 0, 0)]
def rp_30_r6 : List mm_Row := [(.iconst 0, 0, 0, 0, 0), (.ireturn, 0, 0, 0, 0)]
def rp_30_l : List (Nat × List mm_Row) := [(0, rp_30_r0), (2, rp_30_r1), (12, rp_30_r2), (47, rp_30_r3), (53, rp_30_r4), (69, rp_30_r5), (75, rp_30_r6)]
def rp_30 : mm_M := (6, ⟨"WiringContainerModel", "sameNames", "()Z"⟩, prog_8_method_32_code, 4, (some .boolean), rp_30_l)
-- 31: WiringContainerModel.price(I)I
def rp_31_r0 : List mm_Row := [(.iconst 1, 0, 0, 1, 0), (.istore_n 2, 0, 0, 0, 0), (.iconst 3, 0, 0, 3, 0), (.iload_n 1, 0, 0, 0, 0), (.imul, 0, 0, 0, 0), (.istore_n 3, 0, 0, 0, 0), (.iload_n 3, 0, 0, 0, 0), (.iconst 3, 0, 0, 3, 0), (.iload_n 1, 0, 0, 0, 0), (.imul, 0, 0, 0, 0), (.aload_n 0, 0, 0, 0, 0), (.getfield 45, 6, 12, 0, 0), (.iload_n 1, 0, 0, 0, 0), (.iaload, 0, 0, 0, 0), (.iadd, 0, 0, 0, 0), (.if_icmp .ge 49, 4, 0, 0, 0), (.aload_n 0, 0, 0, 0, 0), (.getfield 54, 6, 16, 0, 0), (.iload_n 3, 0, 0, 0, 0), (.iaload, 0, 0, 0, 0), (.istore 4, 0, 0, 0, 0), (.aload_n 0, 0, 0, 0, 0), (.getfield 33, 6, 8, 0, 0), (.iload 4, 0, 0, 0, 0), (.iaload, 0, 0, 0, 0), (.ifCond .ne 25, 3, 0, 0, 0), (.aload_n 0, 0, 0, 0, 0), (.getfield 60, 6, 18, 0, 0), (.iload 4, 0, 0, 0, 0), (.iaload, 0, 0, 0, 0), (.ifCond .ne 5, 2, 0, 0, 0), (.iconst 0, 0, 0, 0, 0), (.ireturn, 0, 0, 0, 0)]
def rp_31_r1 : List mm_Row := [(.iload_n 3, 0, 0, 0, 0), (.iconst 3, 0, 0, 3, 0), (.iload_n 1, 0, 0, 0, 0), (.imul, 0, 0, 0, 0), (.aload_n 0, 0, 0, 0, 0), (.getfield 45, 6, 12, 0, 0), (.iload_n 1, 0, 0, 0, 0), (.iaload, 0, 0, 0, 0), (.iadd, 0, 0, 0, 0), (.if_icmp .ge 49, 4, 0, 0, 0), (.aload_n 0, 0, 0, 0, 0), (.getfield 54, 6, 16, 0, 0), (.iload_n 3, 0, 0, 0, 0), (.iaload, 0, 0, 0, 0), (.istore 4, 0, 0, 0, 0), (.aload_n 0, 0, 0, 0, 0), (.getfield 33, 6, 8, 0, 0), (.iload 4, 0, 0, 0, 0), (.iaload, 0, 0, 0, 0), (.ifCond .ne 25, 3, 0, 0, 0), (.aload_n 0, 0, 0, 0, 0), (.getfield 60, 6, 18, 0, 0), (.iload 4, 0, 0, 0, 0), (.iaload, 0, 0, 0, 0), (.ifCond .ne 5, 2, 0, 0, 0), (.iconst 0, 0, 0, 0, 0), (.ireturn, 0, 0, 0, 0)]
def rp_31_r2 : List mm_Row := [(.iload_n 2, 0, 0, 0, 0), (.aload_n 0, 0, 0, 0, 0), (.getfield 60, 6, 18, 0, 0), (.iload 4, 0, 0, 0, 0), (.iaload, 0, 0, 0, 0), (.iadd, 0, 0, 0, 0), (.istore_n 2, 0, 0, 0, 0), (.iinc 3 1, 0, 0, 1, 0), (.goto (-57), 1, 0, 0, 0)]
def rp_31_r3 : List mm_Row := [(.iinc 3 1, 0, 0, 1, 0), (.goto (-57), 1, 0, 0, 0)]
def rp_31_r4 : List mm_Row := [(.aload_n 0, 0, 0, 0, 0), (.getfield 39, 6, 10, 0, 0), (.iload_n 1, 0, 0, 0, 0), (.iaload, 0, 0, 0, 0), (.ifCond .lt 33, 6, 0, 0, 0), (.aload_n 0, 0, 0, 0, 0), (.getfield 60, 6, 18, 0, 0), (.aload_n 0, 0, 0, 0, 0), (.getfield 39, 6, 10, 0, 0), (.iload_n 1, 0, 0, 0, 0), (.iaload, 0, 0, 0, 0), (.iaload, 0, 0, 0, 0), (.ifCond .ne 5, 5, 0, 0, 0), (.iconst 0, 0, 0, 0, 0), (.ireturn, 0, 0, 0, 0)]
def rp_31_r5 : List mm_Row := [(.iload_n 2, 0, 0, 0, 0), (.aload_n 0, 0, 0, 0, 0), (.getfield 60, 6, 18, 0, 0), (.aload_n 0, 0, 0, 0, 0), (.getfield 39, 6, 10, 0, 0), (.iload_n 1, 0, 0, 0, 0), (.iaload, 0, 0, 0, 0), (.iaload, 0, 0, 0, 0), (.iadd, 0, 0, 0, 0), (.istore_n 2, 0, 0, 0, 0), (.iload_n 2, 0, 0, 0, 0), (.bipush 101, 0, 0, 101, 0), (.if_icmp .le 8, 7, 0, 0, 0), (.bipush 101, 0, 0, 101, 0), (.goto 4, 8, 0, 0, 0)]
def rp_31_r6 : List mm_Row := [(.iload_n 2, 0, 0, 0, 0), (.bipush 101, 0, 0, 101, 0), (.if_icmp .le 8, 7, 0, 0, 0), (.bipush 101, 0, 0, 101, 0), (.goto 4, 8, 0, 0, 0)]
def rp_31_r7 : List mm_Row := [(.iload_n 2, 0, 0, 0, 0), (.ireturn, 0, 0, 0, 0)]
def rp_31_r8 : List mm_Row := [(.ireturn, 0, 0, 0, 0)]
def rp_31_l : List (Nat × List mm_Row) := [(0, rp_31_r0), (6, rp_31_r1), (50, rp_31_r2), (60, rp_31_r3), (66, rp_31_r4), (91, rp_31_r5), (105, rp_31_r6), (116, rp_31_r7), (117, rp_31_r8)]
def rp_31 : mm_M := (6, ⟨"WiringContainerModel", "price", "(I)I"⟩, prog_8_method_33_code, 5, (some .int), rp_31_l)
-- 32: WiringContainerModel.deploy()I
def rp_32_r0 : List mm_Row := [(.aload_n 0, 0, 0, 0, 0), (.getfield 123, 6, 15, 0, 0), (.ifCond .eq 6, 1, 0, 0, 0), (.bipush (-3), 0, 0, (-3), 0), (.ireturn, 0, 0, 0, 0)]
def rp_32_r1 : List mm_Row := [(.iconst 0, 0, 0, 0, 0), (.istore_n 1, 0, 0, 0, 0), (.iconst 0, 0, 0, 0, 0), (.istore_n 2, 0, 0, 0, 0), (.iload_n 2, 0, 0, 0, 0), (.aload_n 0, 0, 0, 0, 0), (.getfield 131, 6, 5, 0, 0), (.if_icmp .ge 39, 4, 0, 0, 0), (.aload_n 0, 0, 0, 0, 0), (.getfield 57, 6, 17, 0, 0), (.iload_n 2, 0, 0, 0, 0), (.iconst 0, 0, 0, 0, 0), (.iastore, 0, 0, 0, 0), (.aload_n 0, 0, 0, 0, 0), (.getfield 60, 6, 18, 0, 0), (.iload_n 2, 0, 0, 0, 0), (.iconst 0, 0, 0, 0, 0), (.iastore, 0, 0, 0, 0), (.aload_n 0, 0, 0, 0, 0), (.iload_n 2, 0, 0, 0, 0), (.invokevirtual 175, 11, 434, 0, 0), (.ifCond .eq 11, 3, 0, 0, 0), (.iload_n 1, 0, 0, 0, 0), (.aload_n 0, 0, 0, 0, 0), (.iload_n 2, 0, 0, 0, 0), (.invokevirtual 206, 28, 402, 0, 0), (.ior, 0, 0, 0, 0), (.istore_n 1, 0, 0, 0, 0), (.iinc 2 1, 0, 0, 1, 0), (.goto (-41), 2, 0, 0, 0)]
def rp_32_r2 : List mm_Row := [(.iload_n 2, 0, 0, 0, 0), (.aload_n 0, 0, 0, 0, 0), (.getfield 131, 6, 5, 0, 0), (.if_icmp .ge 39, 4, 0, 0, 0), (.aload_n 0, 0, 0, 0, 0), (.getfield 57, 6, 17, 0, 0), (.iload_n 2, 0, 0, 0, 0), (.iconst 0, 0, 0, 0, 0), (.iastore, 0, 0, 0, 0), (.aload_n 0, 0, 0, 0, 0), (.getfield 60, 6, 18, 0, 0), (.iload_n 2, 0, 0, 0, 0), (.iconst 0, 0, 0, 0, 0), (.iastore, 0, 0, 0, 0), (.aload_n 0, 0, 0, 0, 0), (.iload_n 2, 0, 0, 0, 0), (.invokevirtual 175, 11, 434, 0, 0), (.ifCond .eq 11, 3, 0, 0, 0), (.iload_n 1, 0, 0, 0, 0), (.aload_n 0, 0, 0, 0, 0), (.iload_n 2, 0, 0, 0, 0), (.invokevirtual 206, 28, 402, 0, 0), (.ior, 0, 0, 0, 0), (.istore_n 1, 0, 0, 0, 0), (.iinc 2 1, 0, 0, 1, 0), (.goto (-41), 2, 0, 0, 0)]
def rp_32_r3 : List mm_Row := [(.iinc 2 1, 0, 0, 1, 0), (.goto (-41), 2, 0, 0, 0)]
def rp_32_r4 : List mm_Row := [(.iload_n 1, 0, 0, 0, 0), (.aload_n 0, 0, 0, 0, 0), (.invokevirtual 209, 29, 433, 0, 0), (.ifCond .eq 8, 5, 0, 0, 0), (.bipush 16, 0, 0, 16, 0), (.goto 4, 6, 0, 0, 0)]
def rp_32_r5 : List mm_Row := [(.iconst 0, 0, 0, 0, 0), (.ior, 0, 0, 0, 0), (.aload_n 0, 0, 0, 0, 0), (.invokevirtual 213, 30, 433, 0, 0), (.ifCond .eq 8, 7, 0, 0, 0), (.bipush 32, 0, 0, 32, 0), (.goto 4, 8, 0, 0, 0)]
def rp_32_r6 : List mm_Row := [(.ior, 0, 0, 0, 0), (.aload_n 0, 0, 0, 0, 0), (.invokevirtual 213, 30, 433, 0, 0), (.ifCond .eq 8, 7, 0, 0, 0), (.bipush 32, 0, 0, 32, 0), (.goto 4, 8, 0, 0, 0)]
def rp_32_r7 : List mm_Row := [(.iconst 0, 0, 0, 0, 0), (.ior, 0, 0, 0, 0), (.istore_n 1, 0, 0, 0, 0), (.iload_n 1, 0, 0, 0, 0), (.ifCond .eq 5, 9, 0, 0, 0), (.iload_n 1, 0, 0, 0, 0), (.ireturn, 0, 0, 0, 0)]
def rp_32_r8 : List mm_Row := [(.ior, 0, 0, 0, 0), (.istore_n 1, 0, 0, 0, 0), (.iload_n 1, 0, 0, 0, 0), (.ifCond .eq 5, 9, 0, 0, 0), (.iload_n 1, 0, 0, 0, 0), (.ireturn, 0, 0, 0, 0)]
def rp_32_r9 : List mm_Row := [(.aload_n 0, 0, 0, 0, 0), (.iconst 1, 0, 0, 1, 0), (.putfield 123, 6, 15, 0, 0), (.aload_n 0, 0, 0, 0, 0), (.getfield 109, 6, 39, 0, 0), (.iconst 3, 0, 0, 3, 0), (.iconst 1, 0, 0, 1, 0), (.bastore, 0, 0, 0, 0), (.iconst 0, 0, 0, 0, 0), (.istore_n 2, 0, 0, 0, 0), (.iload_n 2, 0, 0, 0, 0), (.bipush 16, 0, 0, 16, 0), (.if_icmp .ge 53, 14, 0, 0, 0), (.iconst 0, 0, 0, 0, 0), (.istore_n 3, 0, 0, 0, 0), (.iload_n 3, 0, 0, 0, 0), (.aload_n 0, 0, 0, 0, 0), (.getfield 131, 6, 5, 0, 0), (.if_icmp .ge 37, 13, 0, 0, 0), (.aload_n 0, 0, 0, 0, 0), (.iload_n 3, 0, 0, 0, 0), (.invokevirtual 175, 11, 434, 0, 0), (.ifCond .eq 23, 12, 0, 0, 0), (.aload_n 0, 0, 0, 0, 0), (.getfield 60, 6, 18, 0, 0), (.iload_n 3, 0, 0, 0, 0), (.iaload, 0, 0, 0, 0), (.ifCond .ne 14, 12, 0, 0, 0), (.aload_n 0, 0, 0, 0, 0), (.getfield 60, 6, 18, 0, 0), (.iload_n 3, 0, 0, 0, 0), (.aload_n 0, 0, 0, 0, 0), (.iload_n 3, 0, 0, 0, 0), (.invokevirtual 216, 31, 402, 0, 0), (.iastore, 0, 0, 0, 0), (.iinc 3 1, 0, 0, 1, 0), (.goto (-39), 11, 0, 0, 0)]
def rp_32_r10 : List mm_Row := [(.iload_n 2, 0, 0, 0, 0), (.bipush 16, 0, 0, 16, 0), (.if_icmp .ge 53, 14, 0, 0, 0), (.iconst 0, 0, 0, 0, 0), (.istore_n 3, 0, 0, 0, 0), (.iload_n 3, 0, 0, 0, 0), (.aload_n 0, 0, 0, 0, 0), (.getfield 131, 6, 5, 0, 0), (.if_icmp .ge 37, 13, 0, 0, 0), (.aload_n 0, 0, 0, 0, 0), (.iload_n 3, 0, 0, 0, 0), (.invokevirtual 175, 11, 434, 0, 0), (.ifCond .eq 23, 12, 0, 0, 0), (.aload_n 0, 0, 0, 0, 0), (.getfield 60, 6, 18, 0, 0), (.iload_n 3, 0, 0, 0, 0), (.iaload, 0, 0, 0, 0), (.ifCond .ne 14, 12, 0, 0, 0), (.aload_n 0, 0, 0, 0, 0), (.getfield 60, 6, 18, 0, 0), (.iload_n 3, 0, 0, 0, 0), (.aload_n 0, 0, 0, 0, 0), (.iload_n 3, 0, 0, 0, 0), (.invokevirtual 216, 31, 402, 0, 0), (.iastore, 0, 0, 0, 0), (.iinc 3 1, 0, 0, 1, 0), (.goto (-39), 11, 0, 0, 0)]
def rp_32_r11 : List mm_Row := [(.iload_n 3, 0, 0, 0, 0), (.aload_n 0, 0, 0, 0, 0), (.getfield 131, 6, 5, 0, 0), (.if_icmp .ge 37, 13, 0, 0, 0), (.aload_n 0, 0, 0, 0, 0), (.iload_n 3, 0, 0, 0, 0), (.invokevirtual 175, 11, 434, 0, 0), (.ifCond .eq 23, 12, 0, 0, 0), (.aload_n 0, 0, 0, 0, 0), (.getfield 60, 6, 18, 0, 0), (.iload_n 3, 0, 0, 0, 0), (.iaload, 0, 0, 0, 0), (.ifCond .ne 14, 12, 0, 0, 0), (.aload_n 0, 0, 0, 0, 0), (.getfield 60, 6, 18, 0, 0), (.iload_n 3, 0, 0, 0, 0), (.aload_n 0, 0, 0, 0, 0), (.iload_n 3, 0, 0, 0, 0), (.invokevirtual 216, 31, 402, 0, 0), (.iastore, 0, 0, 0, 0), (.iinc 3 1, 0, 0, 1, 0), (.goto (-39), 11, 0, 0, 0)]
def rp_32_r12 : List mm_Row := [(.iinc 3 1, 0, 0, 1, 0), (.goto (-39), 11, 0, 0, 0)]
def rp_32_r13 : List mm_Row := [(.iinc 2 1, 0, 0, 1, 0), (.goto (-53), 10, 0, 0, 0)]
def rp_32_r14 : List mm_Row := [(.iconst 0, 0, 0, 0, 0), (.ireturn, 0, 0, 0, 0)]
def rp_32_l : List (Nat × List mm_Row) := [(0, rp_32_r0), (10, rp_32_r1), (14, rp_32_r2), (52, rp_32_r3), (58, rp_32_r4), (71, rp_32_r5), (72, rp_32_r6), (85, rp_32_r7), (86, rp_32_r8), (94, rp_32_r9), (108, rp_32_r10), (116, rp_32_r11), (152, rp_32_r12), (158, rp_32_r13), (164, rp_32_r14)]
def rp_32 : mm_M := (6, ⟨"WiringContainerModel", "deploy", "()I"⟩, prog_8_method_34_code, 4, (some .int), rp_32_l)
-- 33: WiringContainerModel.cost(I)I
def rp_33_r0 : List mm_Row := [(.aload_n 0, 0, 0, 0, 0), (.getfield 123, 6, 15, 0, 0), (.ifCond .ne 6, 1, 0, 0, 0), (.bipush (-3), 0, 0, (-3), 0), (.ireturn, 0, 0, 0, 0)]
def rp_33_r1 : List mm_Row := [(.aload_n 0, 0, 0, 0, 0), (.iload_n 1, 0, 0, 0, 0), (.invokevirtual 138, 9, 434, 0, 0), (.ifCond .eq 11, 2, 0, 0, 0), (.aload_n 0, 0, 0, 0, 0), (.iload_n 1, 0, 0, 0, 0), (.invokevirtual 175, 11, 434, 0, 0), (.ifCond .ne 5, 3, 0, 0, 0), (.iconst (-1), 0, 0, (-1), 0), (.ireturn, 0, 0, 0, 0)]
def rp_33_r2 : List mm_Row := [(.iconst (-1), 0, 0, (-1), 0), (.ireturn, 0, 0, 0, 0)]
def rp_33_r3 : List mm_Row := [(.aload_n 0, 0, 0, 0, 0), (.getfield 60, 6, 18, 0, 0), (.iload_n 1, 0, 0, 0, 0), (.iaload, 0, 0, 0, 0), (.bipush 100, 0, 0, 100, 0), (.if_icmp .le 8, 4, 0, 0, 0), (.bipush 100, 0, 0, 100, 0), (.goto 9, 5, 0, 0, 0)]
def rp_33_r4 : List mm_Row := [(.aload_n 0, 0, 0, 0, 0), (.getfield 60, 6, 18, 0, 0), (.iload_n 1, 0, 0, 0, 0), (.iaload, 0, 0, 0, 0), (.ireturn, 0, 0, 0, 0)]
def rp_33_r5 : List mm_Row := [(.ireturn, 0, 0, 0, 0)]
def rp_33_l : List (Nat × List mm_Row) := [(0, rp_33_r0), (10, rp_33_r1), (26, rp_33_r2), (28, rp_33_r3), (44, rp_33_r4), (50, rp_33_r5)]
def rp_33 : mm_M := (6, ⟨"WiringContainerModel", "cost", "(I)I"⟩, prog_8_method_35_code, 2, (some .int), rp_33_l)
-- 34: WiringContainerModel.part(IIII)V
def rp_34_r0 : List mm_Row := [(.aload_n 0, 0, 0, 0, 0), (.getfield 91, 6, 32, 0, 0), (.aload_n 0, 0, 0, 0, 0), (.getfield 219, 6, 37, 0, 0), (.iload_n 1, 0, 0, 0, 0), (.iastore, 0, 0, 0, 0), (.aload_n 0, 0, 0, 0, 0), (.getfield 94, 6, 33, 0, 0), (.aload_n 0, 0, 0, 0, 0), (.getfield 219, 6, 37, 0, 0), (.iload_n 2, 0, 0, 0, 0), (.iastore, 0, 0, 0, 0), (.aload_n 0, 0, 0, 0, 0), (.getfield 97, 6, 34, 0, 0), (.aload_n 0, 0, 0, 0, 0), (.getfield 219, 6, 37, 0, 0), (.iload_n 3, 0, 0, 0, 0), (.iastore, 0, 0, 0, 0), (.aload_n 0, 0, 0, 0, 0), (.getfield 100, 6, 35, 0, 0), (.aload_n 0, 0, 0, 0, 0), (.getfield 219, 6, 37, 0, 0), (.iload 4, 0, 0, 0, 0), (.iastore, 0, 0, 0, 0), (.aload_n 0, 0, 0, 0, 0), (.getfield 103, 6, 36, 0, 0), (.aload_n 0, 0, 0, 0, 0), (.getfield 219, 6, 37, 0, 0), (.aload_n 0, 0, 0, 0, 0), (.getfield 39, 6, 10, 0, 0), (.iload_n 1, 0, 0, 0, 0), (.iaload, 0, 0, 0, 0), (.ifCond .lt 7, 1, 0, 0, 0), (.iconst 1, 0, 0, 1, 0), (.goto 4, 2, 0, 0, 0)]
def rp_34_r1 : List mm_Row := [(.iconst 0, 0, 0, 0, 0), (.bastore, 0, 0, 0, 0), (.aload_n 0, 0, 0, 0, 0), (.dup, 0, 0, 0, 0), (.getfield 219, 6, 37, 0, 0), (.iconst 1, 0, 0, 1, 0), (.iadd, 0, 0, 0, 0), (.putfield 219, 6, 37, 0, 0), (.return_, 0, 0, 0, 0)]
def rp_34_r2 : List mm_Row := [(.bastore, 0, 0, 0, 0), (.aload_n 0, 0, 0, 0, 0), (.dup, 0, 0, 0, 0), (.getfield 219, 6, 37, 0, 0), (.iconst 1, 0, 0, 1, 0), (.iadd, 0, 0, 0, 0), (.putfield 219, 6, 37, 0, 0), (.return_, 0, 0, 0, 0)]
def rp_34_l : List (Nat × List mm_Row) := [(0, rp_34_r0), (62, rp_34_r1), (63, rp_34_r2)]
def rp_34 : mm_M := (6, ⟨"WiringContainerModel", "part", "(IIII)V"⟩, prog_8_method_36_code, 5, none, rp_34_l)
-- 35: WiringContainerModel.settle(I)I
def rp_35_r0 : List mm_Row := [(.aload_n 0, 0, 0, 0, 0), (.getfield 91, 6, 32, 0, 0), (.iload_n 1, 0, 0, 0, 0), (.iaload, 0, 0, 0, 0), (.istore_n 2, 0, 0, 0, 0), (.aload_n 0, 0, 0, 0, 0), (.getfield 94, 6, 33, 0, 0), (.iload_n 1, 0, 0, 0, 0), (.iaload, 0, 0, 0, 0), (.istore_n 3, 0, 0, 0, 0), (.aload_n 0, 0, 0, 0, 0), (.getfield 103, 6, 36, 0, 0), (.iload_n 1, 0, 0, 0, 0), (.baload, 0, 0, 0, 0), (.ifCond .eq 30, 1, 0, 0, 0), (.aload_n 0, 0, 0, 0, 0), (.aload_n 0, 0, 0, 0, 0), (.getfield 39, 6, 10, 0, 0), (.iload_n 2, 0, 0, 0, 0), (.iaload, 0, 0, 0, 0), (.iload_n 3, 0, 0, 0, 0), (.iconst 0, 0, 0, 0, 0), (.iconst (-1), 0, 0, (-1), 0), (.invokevirtual 222, 34, 389, 0, 0), (.iload_n 3, 0, 0, 0, 0), (.aload_n 0, 0, 0, 0, 0), (.getfield 60, 6, 18, 0, 0), (.aload_n 0, 0, 0, 0, 0), (.getfield 39, 6, 10, 0, 0), (.iload_n 2, 0, 0, 0, 0), (.iaload, 0, 0, 0, 0), (.iaload, 0, 0, 0, 0), (.iadd, 0, 0, 0, 0), (.istore_n 3, 0, 0, 0, 0), (.aload_n 0, 0, 0, 0, 0), (.getfield 73, 6, 25, 0, 0), (.iload_n 3, 0, 0, 0, 0), (.iload_n 2, 0, 0, 0, 0), (.iastore, 0, 0, 0, 0), (.aload_n 0, 0, 0, 0, 0), (.getfield 76, 6, 26, 0, 0), (.iload_n 3, 0, 0, 0, 0), (.aload_n 0, 0, 0, 0, 0), (.getfield 97, 6, 34, 0, 0), (.iload_n 1, 0, 0, 0, 0), (.iaload, 0, 0, 0, 0), (.iastore, 0, 0, 0, 0), (.aload_n 0, 0, 0, 0, 0), (.getfield 79, 6, 27, 0, 0), (.iload_n 3, 0, 0, 0, 0), (.aload_n 0, 0, 0, 0, 0), (.getfield 100, 6, 35, 0, 0), (.iload_n 1, 0, 0, 0, 0), (.iaload, 0, 0, 0, 0), (.iastore, 0, 0, 0, 0), (.aload_n 0, 0, 0, 0, 0), (.getfield 82, 6, 28, 0, 0), (.iload_n 3, 0, 0, 0, 0), (.iconst 1, 0, 0, 1, 0), (.bastore, 0, 0, 0, 0), (.iload_n 3, 0, 0, 0, 0), (.iconst 1, 0, 0, 1, 0), (.iadd, 0, 0, 0, 0), (.istore 4, 0, 0, 0, 0), (.iconst 0, 0, 0, 0, 0), (.istore 5, 0, 0, 0, 0), (.iload 5, 0, 0, 0, 0), (.aload_n 0, 0, 0, 0, 0), (.getfield 45, 6, 12, 0, 0), (.iload_n 2, 0, 0, 0, 0), (.iaload, 0, 0, 0, 0), (.if_icmp .ge 55, 4, 0, 0, 0), (.aload_n 0, 0, 0, 0, 0), (.getfield 54, 6, 16, 0, 0), (.iconst 3, 0, 0, 3, 0), (.iload_n 2, 0, 0, 0, 0), (.imul, 0, 0, 0, 0), (.iload 5, 0, 0, 0, 0), (.iadd, 0, 0, 0, 0), (.iaload, 0, 0, 0, 0), (.istore 6, 0, 0, 0, 0), (.aload_n 0, 0, 0, 0, 0), (.getfield 33, 6, 8, 0, 0), (.iload 6, 0, 0, 0, 0), (.iaload, 0, 0, 0, 0), (.ifCond .ne 26, 3, 0, 0, 0), (.aload_n 0, 0, 0, 0, 0), (.iload 6, 0, 0, 0, 0), (.iload 4, 0, 0, 0, 0), (.iload_n 3, 0, 0, 0, 0), (.iload 5, 0, 0, 0, 0), (.invokevirtual 222, 34, 389, 0, 0), (.iload 4, 0, 0, 0, 0), (.aload_n 0, 0, 0, 0, 0), (.getfield 60, 6, 18, 0, 0), (.iload 6, 0, 0, 0, 0), (.iaload, 0, 0, 0, 0), (.iadd, 0, 0, 0, 0), (.istore 4, 0, 0, 0, 0), (.iinc 5 1, 0, 0, 1, 0), (.goto (-60), 2, 0, 0, 0)]
def rp_35_r1 : List mm_Row := [(.aload_n 0, 0, 0, 0, 0), (.getfield 73, 6, 25, 0, 0), (.iload_n 3, 0, 0, 0, 0), (.iload_n 2, 0, 0, 0, 0), (.iastore, 0, 0, 0, 0), (.aload_n 0, 0, 0, 0, 0), (.getfield 76, 6, 26, 0, 0), (.iload_n 3, 0, 0, 0, 0), (.aload_n 0, 0, 0, 0, 0), (.getfield 97, 6, 34, 0, 0), (.iload_n 1, 0, 0, 0, 0), (.iaload, 0, 0, 0, 0), (.iastore, 0, 0, 0, 0), (.aload_n 0, 0, 0, 0, 0), (.getfield 79, 6, 27, 0, 0), (.iload_n 3, 0, 0, 0, 0), (.aload_n 0, 0, 0, 0, 0), (.getfield 100, 6, 35, 0, 0), (.iload_n 1, 0, 0, 0, 0), (.iaload, 0, 0, 0, 0), (.iastore, 0, 0, 0, 0), (.aload_n 0, 0, 0, 0, 0), (.getfield 82, 6, 28, 0, 0), (.iload_n 3, 0, 0, 0, 0), (.iconst 1, 0, 0, 1, 0), (.bastore, 0, 0, 0, 0), (.iload_n 3, 0, 0, 0, 0), (.iconst 1, 0, 0, 1, 0), (.iadd, 0, 0, 0, 0), (.istore 4, 0, 0, 0, 0), (.iconst 0, 0, 0, 0, 0), (.istore 5, 0, 0, 0, 0), (.iload 5, 0, 0, 0, 0), (.aload_n 0, 0, 0, 0, 0), (.getfield 45, 6, 12, 0, 0), (.iload_n 2, 0, 0, 0, 0), (.iaload, 0, 0, 0, 0), (.if_icmp .ge 55, 4, 0, 0, 0), (.aload_n 0, 0, 0, 0, 0), (.getfield 54, 6, 16, 0, 0), (.iconst 3, 0, 0, 3, 0), (.iload_n 2, 0, 0, 0, 0), (.imul, 0, 0, 0, 0), (.iload 5, 0, 0, 0, 0), (.iadd, 0, 0, 0, 0), (.iaload, 0, 0, 0, 0), (.istore 6, 0, 0, 0, 0), (.aload_n 0, 0, 0, 0, 0), (.getfield 33, 6, 8, 0, 0), (.iload 6, 0, 0, 0, 0), (.iaload, 0, 0, 0, 0), (.ifCond .ne 26, 3, 0, 0, 0), (.aload_n 0, 0, 0, 0, 0), (.iload 6, 0, 0, 0, 0), (.iload 4, 0, 0, 0, 0), (.iload_n 3, 0, 0, 0, 0), (.iload 5, 0, 0, 0, 0), (.invokevirtual 222, 34, 389, 0, 0), (.iload 4, 0, 0, 0, 0), (.aload_n 0, 0, 0, 0, 0), (.getfield 60, 6, 18, 0, 0), (.iload 6, 0, 0, 0, 0), (.iaload, 0, 0, 0, 0), (.iadd, 0, 0, 0, 0), (.istore 4, 0, 0, 0, 0), (.iinc 5 1, 0, 0, 1, 0), (.goto (-60), 2, 0, 0, 0)]
def rp_35_r2 : List mm_Row := [(.iload 5, 0, 0, 0, 0), (.aload_n 0, 0, 0, 0, 0), (.getfield 45, 6, 12, 0, 0), (.iload_n 2, 0, 0, 0, 0), (.iaload, 0, 0, 0, 0), (.if_icmp .ge 55, 4, 0, 0, 0), (.aload_n 0, 0, 0, 0, 0), (.getfield 54, 6, 16, 0, 0), (.iconst 3, 0, 0, 3, 0), (.iload_n 2, 0, 0, 0, 0), (.imul, 0, 0, 0, 0), (.iload 5, 0, 0, 0, 0), (.iadd, 0, 0, 0, 0), (.iaload, 0, 0, 0, 0), (.istore 6, 0, 0, 0, 0), (.aload_n 0, 0, 0, 0, 0), (.getfield 33, 6, 8, 0, 0), (.iload 6, 0, 0, 0, 0), (.iaload, 0, 0, 0, 0), (.ifCond .ne 26, 3, 0, 0, 0), (.aload_n 0, 0, 0, 0, 0), (.iload 6, 0, 0, 0, 0), (.iload 4, 0, 0, 0, 0), (.iload_n 3, 0, 0, 0, 0), (.iload 5, 0, 0, 0, 0), (.invokevirtual 222, 34, 389, 0, 0), (.iload 4, 0, 0, 0, 0), (.aload_n 0, 0, 0, 0, 0), (.getfield 60, 6, 18, 0, 0), (.iload 6, 0, 0, 0, 0), (.iaload, 0, 0, 0, 0), (.iadd, 0, 0, 0, 0), (.istore 4, 0, 0, 0, 0), (.iinc 5 1, 0, 0, 1, 0), (.goto (-60), 2, 0, 0, 0)]
def rp_35_r3 : List mm_Row := [(.iinc 5 1, 0, 0, 1, 0), (.goto (-60), 2, 0, 0, 0)]
def rp_35_r4 : List mm_Row := [(.iload_n 3, 0, 0, 0, 0), (.ireturn, 0, 0, 0, 0)]
def rp_35_l : List (Nat × List mm_Row) := [(0, rp_35_r0), (50, rp_35_r1), (96, rp_35_r2), (153, rp_35_r3), (159, rp_35_r4)]
def rp_35 : mm_M := (6, ⟨"WiringContainerModel", "settle", "(I)I"⟩, prog_8_method_37_code, 7, (some .int), rp_35_l)
-- 36: WiringContainerModel.make(I)I
def rp_36_r0 : List mm_Row := [(.aload_n 0, 0, 0, 0, 0), (.getfield 60, 6, 18, 0, 0), (.iload_n 1, 0, 0, 0, 0), (.iaload, 0, 0, 0, 0), (.bipush 10, 0, 0, 10, 0), (.if_icmp .gt 20, 1, 0, 0, 0), (.aload_n 0, 0, 0, 0, 0), (.getfield 226, 6, 24, 0, 0), (.aload_n 0, 0, 0, 0, 0), (.getfield 60, 6, 18, 0, 0), (.iload_n 1, 0, 0, 0, 0), (.iaload, 0, 0, 0, 0), (.iadd, 0, 0, 0, 0), (.sipush 200, 0, 0, 200, 0), (.if_icmp .le 6, 2, 0, 0, 0), (.bipush (-2), 0, 0, (-2), 0), (.ireturn, 0, 0, 0, 0)]
def rp_36_r1 : List mm_Row := [(.bipush (-2), 0, 0, (-2), 0), (.ireturn, 0, 0, 0, 0)]
def rp_36_r2 : List mm_Row := [(.aload_n 0, 0, 0, 0, 0), (.iconst 0, 0, 0, 0, 0), (.putfield 219, 6, 37, 0, 0), (.aload_n 0, 0, 0, 0, 0), (.iload_n 1, 0, 0, 0, 0), (.aload_n 0, 0, 0, 0, 0), (.getfield 226, 6, 24, 0, 0), (.iconst 1, 0, 0, 1, 0), (.iadd, 0, 0, 0, 0), (.iconst 0, 0, 0, 0, 0), (.iconst (-1), 0, 0, (-1), 0), (.invokevirtual 222, 34, 389, 0, 0), (.aload_n 0, 0, 0, 0, 0), (.aload_n 0, 0, 0, 0, 0), (.getfield 226, 6, 24, 0, 0), (.aload_n 0, 0, 0, 0, 0), (.getfield 60, 6, 18, 0, 0), (.iload_n 1, 0, 0, 0, 0), (.iaload, 0, 0, 0, 0), (.iadd, 0, 0, 0, 0), (.putfield 226, 6, 24, 0, 0), (.aload_n 0, 0, 0, 0, 0), (.iconst 0, 0, 0, 0, 0), (.invokevirtual 229, 35, 402, 0, 0), (.istore_n 2, 0, 0, 0, 0), (.iconst 1, 0, 0, 1, 0), (.istore_n 3, 0, 0, 0, 0), (.iload_n 3, 0, 0, 0, 0), (.aload_n 0, 0, 0, 0, 0), (.getfield 219, 6, 37, 0, 0), (.if_icmp .ge 15, 4, 0, 0, 0), (.aload_n 0, 0, 0, 0, 0), (.iload_n 3, 0, 0, 0, 0), (.invokevirtual 229, 35, 402, 0, 0), (.pop, 0, 0, 0, 0), (.iinc 3 1, 0, 0, 1, 0), (.goto (-17), 3, 0, 0, 0)]
def rp_36_r3 : List mm_Row := [(.iload_n 3, 0, 0, 0, 0), (.aload_n 0, 0, 0, 0, 0), (.getfield 219, 6, 37, 0, 0), (.if_icmp .ge 15, 4, 0, 0, 0), (.aload_n 0, 0, 0, 0, 0), (.iload_n 3, 0, 0, 0, 0), (.invokevirtual 229, 35, 402, 0, 0), (.pop, 0, 0, 0, 0), (.iinc 3 1, 0, 0, 1, 0), (.goto (-17), 3, 0, 0, 0)]
def rp_36_r4 : List mm_Row := [(.iconst 0, 0, 0, 0, 0), (.istore_n 3, 0, 0, 0, 0), (.iload_n 3, 0, 0, 0, 0), (.aload_n 0, 0, 0, 0, 0), (.getfield 219, 6, 37, 0, 0), (.if_icmp .ge 86, 11, 0, 0, 0), (.iconst (-1), 0, 0, (-1), 0), (.istore 4, 0, 0, 0, 0), (.iconst 0, 0, 0, 0, 0), (.istore 5, 0, 0, 0, 0), (.iload 5, 0, 0, 0, 0), (.aload_n 0, 0, 0, 0, 0), (.getfield 219, 6, 37, 0, 0), (.if_icmp .ge 39, 9, 0, 0, 0), (.aload_n 0, 0, 0, 0, 0), (.getfield 103, 6, 36, 0, 0), (.iload 5, 0, 0, 0, 0), (.baload, 0, 0, 0, 0), (.ifCond .eq 23, 8, 0, 0, 0), (.iload 4, 0, 0, 0, 0), (.ifCond .lt 14, 7, 0, 0, 0), (.aload_n 0, 0, 0, 0, 0), (.iload 5, 0, 0, 0, 0), (.iload 4, 0, 0, 0, 0), (.invokevirtual 232, 37, 435, 0, 0), (.ifCond .eq 7, 8, 0, 0, 0), (.iload 5, 0, 0, 0, 0), (.istore 4, 0, 0, 0, 0), (.iinc 5 1, 0, 0, 1, 0), (.goto (-42), 6, 0, 0, 0)]
def rp_36_r5 : List mm_Row := [(.iload_n 3, 0, 0, 0, 0), (.aload_n 0, 0, 0, 0, 0), (.getfield 219, 6, 37, 0, 0), (.if_icmp .ge 86, 11, 0, 0, 0), (.iconst (-1), 0, 0, (-1), 0), (.istore 4, 0, 0, 0, 0), (.iconst 0, 0, 0, 0, 0), (.istore 5, 0, 0, 0, 0), (.iload 5, 0, 0, 0, 0), (.aload_n 0, 0, 0, 0, 0), (.getfield 219, 6, 37, 0, 0), (.if_icmp .ge 39, 9, 0, 0, 0), (.aload_n 0, 0, 0, 0, 0), (.getfield 103, 6, 36, 0, 0), (.iload 5, 0, 0, 0, 0), (.baload, 0, 0, 0, 0), (.ifCond .eq 23, 8, 0, 0, 0), (.iload 4, 0, 0, 0, 0), (.ifCond .lt 14, 7, 0, 0, 0), (.aload_n 0, 0, 0, 0, 0), (.iload 5, 0, 0, 0, 0), (.iload 4, 0, 0, 0, 0), (.invokevirtual 232, 37, 435, 0, 0), (.ifCond .eq 7, 8, 0, 0, 0), (.iload 5, 0, 0, 0, 0), (.istore 4, 0, 0, 0, 0), (.iinc 5 1, 0, 0, 1, 0), (.goto (-42), 6, 0, 0, 0)]
def rp_36_r6 : List mm_Row := [(.iload 5, 0, 0, 0, 0), (.aload_n 0, 0, 0, 0, 0), (.getfield 219, 6, 37, 0, 0), (.if_icmp .ge 39, 9, 0, 0, 0), (.aload_n 0, 0, 0, 0, 0), (.getfield 103, 6, 36, 0, 0), (.iload 5, 0, 0, 0, 0), (.baload, 0, 0, 0, 0), (.ifCond .eq 23, 8, 0, 0, 0), (.iload 4, 0, 0, 0, 0), (.ifCond .lt 14, 7, 0, 0, 0), (.aload_n 0, 0, 0, 0, 0), (.iload 5, 0, 0, 0, 0), (.iload 4, 0, 0, 0, 0), (.invokevirtual 232, 37, 435, 0, 0), (.ifCond .eq 7, 8, 0, 0, 0), (.iload 5, 0, 0, 0, 0), (.istore 4, 0, 0, 0, 0), (.iinc 5 1, 0, 0, 1, 0), (.goto (-42), 6, 0, 0, 0)]
def rp_36_r7 : List mm_Row := [(.iload 5, 0, 0, 0, 0), (.istore 4, 0, 0, 0, 0), (.iinc 5 1, 0, 0, 1, 0), (.goto (-42), 6, 0, 0, 0)]
def rp_36_r8 : List mm_Row := [(.iinc 5 1, 0, 0, 1, 0), (.goto (-42), 6, 0, 0, 0)]
def rp_36_r9 : List mm_Row := [(.iload 4, 0, 0, 0, 0), (.ifCond .lt 24, 10, 0, 0, 0), (.aload_n 0, 0, 0, 0, 0), (.getfield 103, 6, 36, 0, 0), (.iload 4, 0, 0, 0, 0), (.iconst 0, 0, 0, 0, 0), (.bastore, 0, 0, 0, 0), (.aload_n 0, 0, 0, 0, 0), (.aload_n 0, 0, 0, 0, 0), (.getfield 94, 6, 33, 0, 0), (.iload 4, 0, 0, 0, 0), (.iaload, 0, 0, 0, 0), (.iconst 0, 0, 0, 0, 0), (.invokevirtual 235, 38, 403, 0, 0), (.pop, 0, 0, 0, 0), (.iinc 3 1, 0, 0, 1, 0), (.goto (-88), 5, 0, 0, 0)]
def rp_36_r10 : List mm_Row := [(.iinc 3 1, 0, 0, 1, 0), (.goto (-88), 5, 0, 0, 0)]
def rp_36_r11 : List mm_Row := [(.iload_n 2, 0, 0, 0, 0), (.ireturn, 0, 0, 0, 0)]
def rp_36_l : List (Nat × List mm_Row) := [(0, rp_36_r0), (28, rp_36_r1), (31, rp_36_r2), (72, rp_36_r3), (92, rp_36_r4), (94, rp_36_r5), (108, rp_36_r6), (143, rp_36_r7), (147, rp_36_r8), (153, rp_36_r9), (179, rp_36_r10), (185, rp_36_r11)]
def rp_36 : mm_M := (6, ⟨"WiringContainerModel", "make", "(I)I"⟩, prog_8_method_38_code, 6, (some .int), rp_36_l)
-- 37: WiringContainerModel.sooner(II)Z
def rp_37_r0 : List mm_Row := [(.aload_n 0, 0, 0, 0, 0), (.getfield 94, 6, 33, 0, 0), (.iload_n 1, 0, 0, 0, 0), (.iaload, 0, 0, 0, 0), (.aload_n 0, 0, 0, 0, 0), (.getfield 60, 6, 18, 0, 0), (.aload_n 0, 0, 0, 0, 0), (.getfield 91, 6, 32, 0, 0), (.iload_n 1, 0, 0, 0, 0), (.iaload, 0, 0, 0, 0), (.iaload, 0, 0, 0, 0), (.iadd, 0, 0, 0, 0), (.istore_n 3, 0, 0, 0, 0), (.aload_n 0, 0, 0, 0, 0), (.getfield 94, 6, 33, 0, 0), (.iload_n 2, 0, 0, 0, 0), (.iaload, 0, 0, 0, 0), (.aload_n 0, 0, 0, 0, 0), (.getfield 60, 6, 18, 0, 0), (.aload_n 0, 0, 0, 0, 0), (.getfield 91, 6, 32, 0, 0), (.iload_n 2, 0, 0, 0, 0), (.iaload, 0, 0, 0, 0), (.iaload, 0, 0, 0, 0), (.iadd, 0, 0, 0, 0), (.istore 4, 0, 0, 0, 0), (.iload_n 3, 0, 0, 0, 0), (.iload 4, 0, 0, 0, 0), (.if_icmp .lt 24, 1, 0, 0, 0), (.iload_n 3, 0, 0, 0, 0), (.iload 4, 0, 0, 0, 0), (.if_icmp .ne 22, 2, 0, 0, 0), (.aload_n 0, 0, 0, 0, 0), (.getfield 94, 6, 33, 0, 0), (.iload_n 1, 0, 0, 0, 0), (.iaload, 0, 0, 0, 0), (.aload_n 0, 0, 0, 0, 0), (.getfield 94, 6, 33, 0, 0), (.iload_n 2, 0, 0, 0, 0), (.iaload, 0, 0, 0, 0), (.if_icmp .le 7, 2, 0, 0, 0), (.iconst 1, 0, 0, 1, 0), (.goto 4, 3, 0, 0, 0)]
def rp_37_r1 : List mm_Row := [(.iconst 1, 0, 0, 1, 0), (.goto 4, 3, 0, 0, 0)]
def rp_37_r2 : List mm_Row := [(.iconst 0, 0, 0, 0, 0), (.ireturn, 0, 0, 0, 0)]
def rp_37_r3 : List mm_Row := [(.ireturn, 0, 0, 0, 0)]
def rp_37_l : List (Nat × List mm_Row) := [(0, rp_37_r0), (66, rp_37_r1), (70, rp_37_r2), (71, rp_37_r3)]
def rp_37 : mm_M := (6, ⟨"WiringContainerModel", "sooner", "(II)Z"⟩, prog_8_method_39_code, 5, (some .boolean), rp_37_l)
-- 38: WiringContainerModel.kill(II)I
def rp_38_r0 : List mm_Row := [(.iconst 1, 0, 0, 1, 0), (.istore_n 3, 0, 0, 0, 0), (.iload_n 2, 0, 0, 0, 0), (.istore 4, 0, 0, 0, 0), (.aload_n 0, 0, 0, 0, 0), (.getfield 106, 6, 38, 0, 0), (.iconst 0, 0, 0, 0, 0), (.iload_n 1, 0, 0, 0, 0), (.iastore, 0, 0, 0, 0), (.iload_n 3, 0, 0, 0, 0), (.ifCond .le 113, 5, 0, 0, 0), (.iinc 3 (-1), 0, 0, (-1), 0), (.aload_n 0, 0, 0, 0, 0), (.getfield 106, 6, 38, 0, 0), (.iload_n 3, 0, 0, 0, 0), (.iaload, 0, 0, 0, 0), (.istore 5, 0, 0, 0, 0), (.aload_n 0, 0, 0, 0, 0), (.getfield 82, 6, 28, 0, 0), (.iload 5, 0, 0, 0, 0), (.iconst 0, 0, 0, 0, 0), (.bastore, 0, 0, 0, 0), (.aload_n 0, 0, 0, 0, 0), (.getfield 88, 6, 30, 0, 0), (.aload_n 0, 0, 0, 0, 0), (.getfield 238, 6, 31, 0, 0), (.iload 5, 0, 0, 0, 0), (.iastore, 0, 0, 0, 0), (.aload_n 0, 0, 0, 0, 0), (.dup, 0, 0, 0, 0), (.getfield 238, 6, 31, 0, 0), (.iconst 1, 0, 0, 1, 0), (.iadd, 0, 0, 0, 0), (.putfield 238, 6, 31, 0, 0), (.iinc 4 1, 0, 0, 1, 0), (.iload 5, 0, 0, 0, 0), (.iconst 1, 0, 0, 1, 0), (.iadd, 0, 0, 0, 0), (.istore 6, 0, 0, 0, 0), (.iload 6, 0, 0, 0, 0), (.aload_n 0, 0, 0, 0, 0), (.getfield 226, 6, 24, 0, 0), (.if_icmp .gt 52, 4, 0, 0, 0), (.iload 6, 0, 0, 0, 0), (.iload 5, 0, 0, 0, 0), (.bipush 10, 0, 0, 10, 0), (.iadd, 0, 0, 0, 0), (.if_icmp .gt 42, 4, 0, 0, 0), (.aload_n 0, 0, 0, 0, 0), (.getfield 82, 6, 28, 0, 0), (.iload 6, 0, 0, 0, 0), (.baload, 0, 0, 0, 0), (.ifCond .eq 26, 3, 0, 0, 0), (.aload_n 0, 0, 0, 0, 0), (.getfield 76, 6, 26, 0, 0), (.iload 6, 0, 0, 0, 0), (.iaload, 0, 0, 0, 0), (.iload 5, 0, 0, 0, 0), (.if_icmp .ne 14, 3, 0, 0, 0), (.aload_n 0, 0, 0, 0, 0), (.getfield 106, 6, 38, 0, 0), (.iload_n 3, 0, 0, 0, 0), (.iload 6, 0, 0, 0, 0), (.iastore, 0, 0, 0, 0), (.iinc 3 1, 0, 0, 1, 0), (.iinc 6 1, 0, 0, 1, 0), (.goto (-55), 2, 0, 0, 0)]
def rp_38_r1 : List mm_Row := [(.iload_n 3, 0, 0, 0, 0), (.ifCond .le 113, 5, 0, 0, 0), (.iinc 3 (-1), 0, 0, (-1), 0), (.aload_n 0, 0, 0, 0, 0), (.getfield 106, 6, 38, 0, 0), (.iload_n 3, 0, 0, 0, 0), (.iaload, 0, 0, 0, 0), (.istore 5, 0, 0, 0, 0), (.aload_n 0, 0, 0, 0, 0), (.getfield 82, 6, 28, 0, 0), (.iload 5, 0, 0, 0, 0), (.iconst 0, 0, 0, 0, 0), (.bastore, 0, 0, 0, 0), (.aload_n 0, 0, 0, 0, 0), (.getfield 88, 6, 30, 0, 0), (.aload_n 0, 0, 0, 0, 0), (.getfield 238, 6, 31, 0, 0), (.iload 5, 0, 0, 0, 0), (.iastore, 0, 0, 0, 0), (.aload_n 0, 0, 0, 0, 0), (.dup, 0, 0, 0, 0), (.getfield 238, 6, 31, 0, 0), (.iconst 1, 0, 0, 1, 0), (.iadd, 0, 0, 0, 0), (.putfield 238, 6, 31, 0, 0), (.iinc 4 1, 0, 0, 1, 0), (.iload 5, 0, 0, 0, 0), (.iconst 1, 0, 0, 1, 0), (.iadd, 0, 0, 0, 0), (.istore 6, 0, 0, 0, 0), (.iload 6, 0, 0, 0, 0), (.aload_n 0, 0, 0, 0, 0), (.getfield 226, 6, 24, 0, 0), (.if_icmp .gt 52, 4, 0, 0, 0), (.iload 6, 0, 0, 0, 0), (.iload 5, 0, 0, 0, 0), (.bipush 10, 0, 0, 10, 0), (.iadd, 0, 0, 0, 0), (.if_icmp .gt 42, 4, 0, 0, 0), (.aload_n 0, 0, 0, 0, 0), (.getfield 82, 6, 28, 0, 0), (.iload 6, 0, 0, 0, 0), (.baload, 0, 0, 0, 0), (.ifCond .eq 26, 3, 0, 0, 0), (.aload_n 0, 0, 0, 0, 0), (.getfield 76, 6, 26, 0, 0), (.iload 6, 0, 0, 0, 0), (.iaload, 0, 0, 0, 0), (.iload 5, 0, 0, 0, 0), (.if_icmp .ne 14, 3, 0, 0, 0), (.aload_n 0, 0, 0, 0, 0), (.getfield 106, 6, 38, 0, 0), (.iload_n 3, 0, 0, 0, 0), (.iload 6, 0, 0, 0, 0), (.iastore, 0, 0, 0, 0), (.iinc 3 1, 0, 0, 1, 0), (.iinc 6 1, 0, 0, 1, 0), (.goto (-55), 2, 0, 0, 0)]
def rp_38_r2 : List mm_Row := [(.iload 6, 0, 0, 0, 0), (.aload_n 0, 0, 0, 0, 0), (.getfield 226, 6, 24, 0, 0), (.if_icmp .gt 52, 4, 0, 0, 0), (.iload 6, 0, 0, 0, 0), (.iload 5, 0, 0, 0, 0), (.bipush 10, 0, 0, 10, 0), (.iadd, 0, 0, 0, 0), (.if_icmp .gt 42, 4, 0, 0, 0), (.aload_n 0, 0, 0, 0, 0), (.getfield 82, 6, 28, 0, 0), (.iload 6, 0, 0, 0, 0), (.baload, 0, 0, 0, 0), (.ifCond .eq 26, 3, 0, 0, 0), (.aload_n 0, 0, 0, 0, 0), (.getfield 76, 6, 26, 0, 0), (.iload 6, 0, 0, 0, 0), (.iaload, 0, 0, 0, 0), (.iload 5, 0, 0, 0, 0), (.if_icmp .ne 14, 3, 0, 0, 0), (.aload_n 0, 0, 0, 0, 0), (.getfield 106, 6, 38, 0, 0), (.iload_n 3, 0, 0, 0, 0), (.iload 6, 0, 0, 0, 0), (.iastore, 0, 0, 0, 0), (.iinc 3 1, 0, 0, 1, 0), (.iinc 6 1, 0, 0, 1, 0), (.goto (-55), 2, 0, 0, 0)]
def rp_38_r3 : List mm_Row := [(.iinc 6 1, 0, 0, 1, 0), (.goto (-55), 2, 0, 0, 0)]
def rp_38_r4 : List mm_Row := [(.goto (-111), 1, 0, 0, 0)]
def rp_38_r5 : List mm_Row := [(.iload 4, 0, 0, 0, 0), (.ireturn, 0, 0, 0, 0)]
def rp_38_l : List (Nat × List mm_Row) := [(0, rp_38_r0), (12, rp_38_r1), (65, rp_38_r2), (117, rp_38_r3), (123, rp_38_r4), (126, rp_38_r5)]
def rp_38 : mm_M := (6, ⟨"WiringContainerModel", "kill", "(II)I"⟩, prog_8_method_40_code, 7, (some .int), rp_38_l)
-- 39: WiringContainerModel.over(I)I
def rp_39_r0 : List mm_Row := [(.iconst 0, 0, 0, 0, 0), (.istore_n 2, 0, 0, 0, 0), (.iconst 0, 0, 0, 0, 0), (.istore_n 3, 0, 0, 0, 0), (.iload_n 3, 0, 0, 0, 0), (.bipush 16, 0, 0, 16, 0), (.if_icmp .ge 117, 7, 0, 0, 0), (.iconst (-1), 0, 0, (-1), 0), (.istore 4, 0, 0, 0, 0), (.iconst 0, 0, 0, 0, 0), (.istore 5, 0, 0, 0, 0), (.iload 5, 0, 0, 0, 0), (.aload_n 0, 0, 0, 0, 0), (.getfield 131, 6, 5, 0, 0), (.if_icmp .ge 60, 5, 0, 0, 0), (.aload_n 0, 0, 0, 0, 0), (.getfield 112, 6, 40, 0, 0), (.bipush 16, 0, 0, 16, 0), (.iload_n 1, 0, 0, 0, 0), (.imul, 0, 0, 0, 0), (.iload 5, 0, 0, 0, 0), (.iadd, 0, 0, 0, 0), (.iaload, 0, 0, 0, 0), (.ifCond .le 39, 4, 0, 0, 0), (.iload 4, 0, 0, 0, 0), (.ifCond .lt 30, 3, 0, 0, 0), (.aload_n 0, 0, 0, 0, 0), (.getfield 112, 6, 40, 0, 0), (.bipush 16, 0, 0, 16, 0), (.iload_n 1, 0, 0, 0, 0), (.imul, 0, 0, 0, 0), (.iload 5, 0, 0, 0, 0), (.iadd, 0, 0, 0, 0), (.iaload, 0, 0, 0, 0), (.aload_n 0, 0, 0, 0, 0), (.getfield 112, 6, 40, 0, 0), (.bipush 16, 0, 0, 16, 0), (.iload_n 1, 0, 0, 0, 0), (.imul, 0, 0, 0, 0), (.iload 4, 0, 0, 0, 0), (.iadd, 0, 0, 0, 0), (.iaload, 0, 0, 0, 0), (.if_icmp .le 7, 4, 0, 0, 0), (.iload 5, 0, 0, 0, 0), (.istore 4, 0, 0, 0, 0), (.iinc 5 1, 0, 0, 1, 0), (.goto (-63), 2, 0, 0, 0)]
def rp_39_r1 : List mm_Row := [(.iload_n 3, 0, 0, 0, 0), (.bipush 16, 0, 0, 16, 0), (.if_icmp .ge 117, 7, 0, 0, 0), (.iconst (-1), 0, 0, (-1), 0), (.istore 4, 0, 0, 0, 0), (.iconst 0, 0, 0, 0, 0), (.istore 5, 0, 0, 0, 0), (.iload 5, 0, 0, 0, 0), (.aload_n 0, 0, 0, 0, 0), (.getfield 131, 6, 5, 0, 0), (.if_icmp .ge 60, 5, 0, 0, 0), (.aload_n 0, 0, 0, 0, 0), (.getfield 112, 6, 40, 0, 0), (.bipush 16, 0, 0, 16, 0), (.iload_n 1, 0, 0, 0, 0), (.imul, 0, 0, 0, 0), (.iload 5, 0, 0, 0, 0), (.iadd, 0, 0, 0, 0), (.iaload, 0, 0, 0, 0), (.ifCond .le 39, 4, 0, 0, 0), (.iload 4, 0, 0, 0, 0), (.ifCond .lt 30, 3, 0, 0, 0), (.aload_n 0, 0, 0, 0, 0), (.getfield 112, 6, 40, 0, 0), (.bipush 16, 0, 0, 16, 0), (.iload_n 1, 0, 0, 0, 0), (.imul, 0, 0, 0, 0), (.iload 5, 0, 0, 0, 0), (.iadd, 0, 0, 0, 0), (.iaload, 0, 0, 0, 0), (.aload_n 0, 0, 0, 0, 0), (.getfield 112, 6, 40, 0, 0), (.bipush 16, 0, 0, 16, 0), (.iload_n 1, 0, 0, 0, 0), (.imul, 0, 0, 0, 0), (.iload 4, 0, 0, 0, 0), (.iadd, 0, 0, 0, 0), (.iaload, 0, 0, 0, 0), (.if_icmp .le 7, 4, 0, 0, 0), (.iload 5, 0, 0, 0, 0), (.istore 4, 0, 0, 0, 0), (.iinc 5 1, 0, 0, 1, 0), (.goto (-63), 2, 0, 0, 0)]
def rp_39_r2 : List mm_Row := [(.iload 5, 0, 0, 0, 0), (.aload_n 0, 0, 0, 0, 0), (.getfield 131, 6, 5, 0, 0), (.if_icmp .ge 60, 5, 0, 0, 0), (.aload_n 0, 0, 0, 0, 0), (.getfield 112, 6, 40, 0, 0), (.bipush 16, 0, 0, 16, 0), (.iload_n 1, 0, 0, 0, 0), (.imul, 0, 0, 0, 0), (.iload 5, 0, 0, 0, 0), (.iadd, 0, 0, 0, 0), (.iaload, 0, 0, 0, 0), (.ifCond .le 39, 4, 0, 0, 0), (.iload 4, 0, 0, 0, 0), (.ifCond .lt 30, 3, 0, 0, 0), (.aload_n 0, 0, 0, 0, 0), (.getfield 112, 6, 40, 0, 0), (.bipush 16, 0, 0, 16, 0), (.iload_n 1, 0, 0, 0, 0), (.imul, 0, 0, 0, 0), (.iload 5, 0, 0, 0, 0), (.iadd, 0, 0, 0, 0), (.iaload, 0, 0, 0, 0), (.aload_n 0, 0, 0, 0, 0), (.getfield 112, 6, 40, 0, 0), (.bipush 16, 0, 0, 16, 0), (.iload_n 1, 0, 0, 0, 0), (.imul, 0, 0, 0, 0), (.iload 4, 0, 0, 0, 0), (.iadd, 0, 0, 0, 0), (.iaload, 0, 0, 0, 0), (.if_icmp .le 7, 4, 0, 0, 0), (.iload 5, 0, 0, 0, 0), (.istore 4, 0, 0, 0, 0), (.iinc 5 1, 0, 0, 1, 0), (.goto (-63), 2, 0, 0, 0)]
def rp_39_r3 : List mm_Row := [(.iload 5, 0, 0, 0, 0), (.istore 4, 0, 0, 0, 0), (.iinc 5 1, 0, 0, 1, 0), (.goto (-63), 2, 0, 0, 0)]
def rp_39_r4 : List mm_Row := [(.iinc 5 1, 0, 0, 1, 0), (.goto (-63), 2, 0, 0, 0)]
def rp_39_r5 : List mm_Row := [(.iload 4, 0, 0, 0, 0), (.ifCond .lt 34, 6, 0, 0, 0), (.aload_n 0, 0, 0, 0, 0), (.aload_n 0, 0, 0, 0, 0), (.getfield 112, 6, 40, 0, 0), (.bipush 16, 0, 0, 16, 0), (.iload_n 1, 0, 0, 0, 0), (.imul, 0, 0, 0, 0), (.iload 4, 0, 0, 0, 0), (.iadd, 0, 0, 0, 0), (.iaload, 0, 0, 0, 0), (.iload_n 2, 0, 0, 0, 0), (.invokevirtual 235, 38, 403, 0, 0), (.istore_n 2, 0, 0, 0, 0), (.aload_n 0, 0, 0, 0, 0), (.getfield 112, 6, 40, 0, 0), (.bipush 16, 0, 0, 16, 0), (.iload_n 1, 0, 0, 0, 0), (.imul, 0, 0, 0, 0), (.iload 4, 0, 0, 0, 0), (.iadd, 0, 0, 0, 0), (.iconst 0, 0, 0, 0, 0), (.iastore, 0, 0, 0, 0), (.iinc 3 1, 0, 0, 1, 0), (.goto (-117), 1, 0, 0, 0)]
def rp_39_r6 : List mm_Row := [(.iinc 3 1, 0, 0, 1, 0), (.goto (-117), 1, 0, 0, 0)]
def rp_39_r7 : List mm_Row := [(.iload_n 2, 0, 0, 0, 0), (.ireturn, 0, 0, 0, 0)]
def rp_39_l : List (Nat × List mm_Row) := [(0, rp_39_r0), (4, rp_39_r1), (16, rp_39_r2), (72, rp_39_r3), (76, rp_39_r4), (82, rp_39_r5), (118, rp_39_r6), (124, rp_39_r7)]
def rp_39 : mm_M := (6, ⟨"WiringContainerModel", "over", "(I)I"⟩, prog_8_method_41_code, 6, (some .int), rp_39_l)
-- 40: WiringContainerModel.reach(II)I
def rp_40_r0 : List mm_Row := [(.aload_n 0, 0, 0, 0, 0), (.getfield 33, 6, 8, 0, 0), (.iload_n 2, 0, 0, 0, 0), (.iaload, 0, 0, 0, 0), (.iconst 1, 0, 0, 1, 0), (.if_icmp .ne 7, 1, 0, 0, 0), (.iload_n 1, 0, 0, 0, 0), (.goto 4, 2, 0, 0, 0)]
def rp_40_r1 : List mm_Row := [(.iconst 3, 0, 0, 3, 0), (.istore_n 3, 0, 0, 0, 0), (.aload_n 0, 0, 0, 0, 0), (.getfield 109, 6, 39, 0, 0), (.iload_n 3, 0, 0, 0, 0), (.baload, 0, 0, 0, 0), (.ifCond .ne 6, 3, 0, 0, 0), (.bipush (-7), 0, 0, (-7), 0), (.ireturn, 0, 0, 0, 0)]
def rp_40_r2 : List mm_Row := [(.istore_n 3, 0, 0, 0, 0), (.aload_n 0, 0, 0, 0, 0), (.getfield 109, 6, 39, 0, 0), (.iload_n 3, 0, 0, 0, 0), (.baload, 0, 0, 0, 0), (.ifCond .ne 6, 3, 0, 0, 0), (.bipush (-7), 0, 0, (-7), 0), (.ireturn, 0, 0, 0, 0)]
def rp_40_r3 : List mm_Row := [(.aload_n 0, 0, 0, 0, 0), (.getfield 112, 6, 40, 0, 0), (.bipush 16, 0, 0, 16, 0), (.iload_n 3, 0, 0, 0, 0), (.imul, 0, 0, 0, 0), (.iload_n 2, 0, 0, 0, 0), (.iadd, 0, 0, 0, 0), (.iaload, 0, 0, 0, 0), (.ifCond .ne 31, 5, 0, 0, 0), (.aload_n 0, 0, 0, 0, 0), (.iload_n 2, 0, 0, 0, 0), (.invokevirtual 241, 36, 402, 0, 0), (.istore 4, 0, 0, 0, 0), (.iload 4, 0, 0, 0, 0), (.ifCond .ge 6, 4, 0, 0, 0), (.iload 4, 0, 0, 0, 0), (.ireturn, 0, 0, 0, 0)]
def rp_40_r4 : List mm_Row := [(.aload_n 0, 0, 0, 0, 0), (.getfield 112, 6, 40, 0, 0), (.bipush 16, 0, 0, 16, 0), (.iload_n 3, 0, 0, 0, 0), (.imul, 0, 0, 0, 0), (.iload_n 2, 0, 0, 0, 0), (.iadd, 0, 0, 0, 0), (.iload 4, 0, 0, 0, 0), (.iastore, 0, 0, 0, 0), (.aload_n 0, 0, 0, 0, 0), (.getfield 112, 6, 40, 0, 0), (.bipush 16, 0, 0, 16, 0), (.iload_n 3, 0, 0, 0, 0), (.imul, 0, 0, 0, 0), (.iload_n 2, 0, 0, 0, 0), (.iadd, 0, 0, 0, 0), (.iaload, 0, 0, 0, 0), (.ireturn, 0, 0, 0, 0)]
def rp_40_r5 : List mm_Row := [(.aload_n 0, 0, 0, 0, 0), (.getfield 112, 6, 40, 0, 0), (.bipush 16, 0, 0, 16, 0), (.iload_n 3, 0, 0, 0, 0), (.imul, 0, 0, 0, 0), (.iload_n 2, 0, 0, 0, 0), (.iadd, 0, 0, 0, 0), (.iaload, 0, 0, 0, 0), (.ireturn, 0, 0, 0, 0)]
def rp_40_l : List (Nat × List mm_Row) := [(0, rp_40_r0), (14, rp_40_r1), (15, rp_40_r2), (28, rp_40_r3), (57, rp_40_r4), (70, rp_40_r5)]
def rp_40 : mm_M := (6, ⟨"WiringContainerModel", "reach", "(II)I"⟩, prog_8_method_42_code, 5, (some .int), rp_40_l)
-- 41: WiringContainerModel.isThread(I)Z
def rp_41_r0 : List mm_Row := [(.iload_n 0, 0, 0, 0, 0), (.ifCond .lt 12, 1, 0, 0, 0), (.iload_n 0, 0, 0, 0, 0), (.iconst 2, 0, 0, 2, 0), (.if_icmp .gt 7, 1, 0, 0, 0), (.iconst 1, 0, 0, 1, 0), (.goto 4, 2, 0, 0, 0)]
def rp_41_r1 : List mm_Row := [(.iconst 0, 0, 0, 0, 0), (.ireturn, 0, 0, 0, 0)]
def rp_41_r2 : List mm_Row := [(.ireturn, 0, 0, 0, 0)]
def rp_41_l : List (Nat × List mm_Row) := [(0, rp_41_r0), (13, rp_41_r1), (14, rp_41_r2)]
def rp_41 : mm_M := (6, ⟨"WiringContainerModel", "isThread", "(I)Z"⟩, prog_8_method_43_code, 1, (some .boolean), rp_41_l)
-- 42: WiringContainerModel.living(I)Z
def rp_42_r0 : List mm_Row := [(.iload_n 1, 0, 0, 0, 0), (.iconst 1, 0, 0, 1, 0), (.if_icmp .lt 24, 1, 0, 0, 0), (.iload_n 1, 0, 0, 0, 0), (.aload_n 0, 0, 0, 0, 0), (.getfield 226, 6, 24, 0, 0), (.if_icmp .gt 16, 1, 0, 0, 0), (.aload_n 0, 0, 0, 0, 0), (.getfield 82, 6, 28, 0, 0), (.iload_n 1, 0, 0, 0, 0), (.baload, 0, 0, 0, 0), (.ifCond .eq 7, 1, 0, 0, 0), (.iconst 1, 0, 0, 1, 0), (.goto 4, 2, 0, 0, 0)]
def rp_42_r1 : List mm_Row := [(.iconst 0, 0, 0, 0, 0), (.ireturn, 0, 0, 0, 0)]
def rp_42_r2 : List mm_Row := [(.ireturn, 0, 0, 0, 0)]
def rp_42_l : List (Nat × List mm_Row) := [(0, rp_42_r0), (26, rp_42_r1), (27, rp_42_r2)]
def rp_42 : mm_M := (6, ⟨"WiringContainerModel", "living", "(I)Z"⟩, prog_8_method_44_code, 2, (some .boolean), rp_42_l)
-- 43: WiringContainerModel.begin(I)Z
def rp_43_r0 : List mm_Row := [(.aload_n 0, 0, 0, 0, 0), (.getfield 123, 6, 15, 0, 0), (.ifCond .eq 19, 1, 0, 0, 0), (.iload_n 1, 0, 0, 0, 0), (.invokestatic 244, 41, 49, 0, 0), (.ifCond .eq 12, 1, 0, 0, 0), (.aload_n 0, 0, 0, 0, 0), (.getfield 109, 6, 39, 0, 0), (.iload_n 1, 0, 0, 0, 0), (.baload, 0, 0, 0, 0), (.ifCond .eq 5, 2, 0, 0, 0), (.iconst 0, 0, 0, 0, 0), (.ireturn, 0, 0, 0, 0)]
def rp_43_r1 : List mm_Row := [(.iconst 0, 0, 0, 0, 0), (.ireturn, 0, 0, 0, 0)]
def rp_43_r2 : List mm_Row := [(.aload_n 0, 0, 0, 0, 0), (.getfield 109, 6, 39, 0, 0), (.iload_n 1, 0, 0, 0, 0), (.iconst 1, 0, 0, 1, 0), (.bastore, 0, 0, 0, 0), (.iconst 1, 0, 0, 1, 0), (.ireturn, 0, 0, 0, 0)]
def rp_43_l : List (Nat × List mm_Row) := [(0, rp_43_r0), (23, rp_43_r1), (25, rp_43_r2)]
def rp_43 : mm_M := (6, ⟨"WiringContainerModel", "begin", "(I)Z"⟩, prog_8_method_45_code, 2, (some .boolean), rp_43_l)
-- 44: WiringContainerModel.end(I)I
def rp_44_r0 : List mm_Row := [(.aload_n 0, 0, 0, 0, 0), (.getfield 123, 6, 15, 0, 0), (.ifCond .ne 6, 1, 0, 0, 0), (.bipush (-3), 0, 0, (-3), 0), (.ireturn, 0, 0, 0, 0)]
def rp_44_r1 : List mm_Row := [(.iload_n 1, 0, 0, 0, 0), (.invokestatic 244, 41, 49, 0, 0), (.ifCond .ne 5, 2, 0, 0, 0), (.iconst (-1), 0, 0, (-1), 0), (.ireturn, 0, 0, 0, 0)]
def rp_44_r2 : List mm_Row := [(.aload_n 0, 0, 0, 0, 0), (.getfield 109, 6, 39, 0, 0), (.iload_n 1, 0, 0, 0, 0), (.baload, 0, 0, 0, 0), (.ifCond .ne 6, 3, 0, 0, 0), (.bipush (-7), 0, 0, (-7), 0), (.ireturn, 0, 0, 0, 0)]
def rp_44_r3 : List mm_Row := [(.aload_n 0, 0, 0, 0, 0), (.getfield 109, 6, 39, 0, 0), (.iload_n 1, 0, 0, 0, 0), (.iconst 0, 0, 0, 0, 0), (.bastore, 0, 0, 0, 0), (.aload_n 0, 0, 0, 0, 0), (.iload_n 1, 0, 0, 0, 0), (.invokevirtual 247, 39, 402, 0, 0), (.ireturn, 0, 0, 0, 0)]
def rp_44_l : List (Nat × List mm_Row) := [(0, rp_44_r0), (10, rp_44_r1), (19, rp_44_r2), (31, rp_44_r3)]
def rp_44 : mm_M := (6, ⟨"WiringContainerModel", "end", "(I)I"⟩, prog_8_method_46_code, 2, (some .int), rp_44_l)
-- 45: WiringContainerModel.obtain(III)I
def rp_45_r0 : List mm_Row := [(.aload_n 0, 0, 0, 0, 0), (.getfield 123, 6, 15, 0, 0), (.ifCond .ne 6, 1, 0, 0, 0), (.bipush (-3), 0, 0, (-3), 0), (.ireturn, 0, 0, 0, 0)]
def rp_45_r1 : List mm_Row := [(.iload_n 1, 0, 0, 0, 0), (.invokestatic 244, 41, 49, 0, 0), (.ifCond .eq 18, 2, 0, 0, 0), (.aload_n 0, 0, 0, 0, 0), (.iload_n 2, 0, 0, 0, 0), (.invokevirtual 141, 1, 434, 0, 0), (.ifCond .eq 10, 2, 0, 0, 0), (.iload_n 3, 0, 0, 0, 0), (.invokestatic 144, 3, 49, 0, 0), (.ifCond .ne 5, 3, 0, 0, 0), (.iconst (-1), 0, 0, (-1), 0), (.ireturn, 0, 0, 0, 0)]
def rp_45_r2 : List mm_Row := [(.iconst (-1), 0, 0, (-1), 0), (.ireturn, 0, 0, 0, 0)]
def rp_45_r3 : List mm_Row := [(.aload_n 0, 0, 0, 0, 0), (.iload_n 2, 0, 0, 0, 0), (.iload_n 3, 0, 0, 0, 0), (.invokevirtual 200, 22, 403, 0, 0), (.istore 4, 0, 0, 0, 0), (.iload 4, 0, 0, 0, 0), (.ifCond .ge 6, 4, 0, 0, 0), (.iload 4, 0, 0, 0, 0), (.ireturn, 0, 0, 0, 0)]
def rp_45_r4 : List mm_Row := [(.aload_n 0, 0, 0, 0, 0), (.getfield 33, 6, 8, 0, 0), (.iload 4, 0, 0, 0, 0), (.iaload, 0, 0, 0, 0), (.ifCond .eq 28, 7, 0, 0, 0), (.aload_n 0, 0, 0, 0, 0), (.getfield 17, 6, 2, 0, 0), (.iload_n 2, 0, 0, 0, 0), (.bipush 31, 0, 0, 31, 0), (.iand, 0, 0, 0, 0), (.baload, 0, 0, 0, 0), (.ifCond .eq 8, 5, 0, 0, 0), (.bipush (-6), 0, 0, (-6), 0), (.goto 10, 6, 0, 0, 0)]
def rp_45_r5 : List mm_Row := [(.aload_n 0, 0, 0, 0, 0), (.iload_n 1, 0, 0, 0, 0), (.iload 4, 0, 0, 0, 0), (.invokevirtual 250, 40, 403, 0, 0), (.ireturn, 0, 0, 0, 0)]
def rp_45_r6 : List mm_Row := [(.ireturn, 0, 0, 0, 0)]
def rp_45_r7 : List mm_Row := [(.aload_n 0, 0, 0, 0, 0), (.iload 4, 0, 0, 0, 0), (.invokevirtual 241, 36, 402, 0, 0), (.istore 5, 0, 0, 0, 0), (.iload 5, 0, 0, 0, 0), (.ifCond .le 11, 8, 0, 0, 0), (.aload_n 0, 0, 0, 0, 0), (.getfield 85, 6, 29, 0, 0), (.iload 5, 0, 0, 0, 0), (.iconst 1, 0, 0, 1, 0), (.bastore, 0, 0, 0, 0), (.iload 5, 0, 0, 0, 0), (.ireturn, 0, 0, 0, 0)]
def rp_45_r8 : List mm_Row := [(.iload 5, 0, 0, 0, 0), (.ireturn, 0, 0, 0, 0)]
def rp_45_l : List (Nat × List mm_Row) := [(0, rp_45_r0), (10, rp_45_r1), (32, rp_45_r2), (34, rp_45_r3), (50, rp_45_r4), (77, rp_45_r5), (84, rp_45_r6), (85, rp_45_r7), (106, rp_45_r8)]
def rp_45 : mm_M := (6, ⟨"WiringContainerModel", "obtain", "(III)I"⟩, prog_8_method_47_code, 6, (some .int), rp_45_l)
-- 46: WiringContainerModel.call(III)I
def rp_46_r0 : List mm_Row := [(.aload_n 0, 0, 0, 0, 0), (.getfield 123, 6, 15, 0, 0), (.ifCond .ne 6, 1, 0, 0, 0), (.bipush (-3), 0, 0, (-3), 0), (.ireturn, 0, 0, 0, 0)]
def rp_46_r1 : List mm_Row := [(.iload_n 1, 0, 0, 0, 0), (.invokestatic 244, 41, 49, 0, 0), (.ifCond .ne 5, 2, 0, 0, 0), (.iconst (-1), 0, 0, (-1), 0), (.ireturn, 0, 0, 0, 0)]
def rp_46_r2 : List mm_Row := [(.aload_n 0, 0, 0, 0, 0), (.iload_n 2, 0, 0, 0, 0), (.invokevirtual 253, 42, 434, 0, 0), (.ifCond .ne 6, 3, 0, 0, 0), (.bipush (-8), 0, 0, (-8), 0), (.ireturn, 0, 0, 0, 0)]
def rp_46_r3 : List mm_Row := [(.aload_n 0, 0, 0, 0, 0), (.getfield 73, 6, 25, 0, 0), (.iload_n 2, 0, 0, 0, 0), (.iaload, 0, 0, 0, 0), (.istore 4, 0, 0, 0, 0), (.iload_n 3, 0, 0, 0, 0), (.ifCond .lt 14, 4, 0, 0, 0), (.iload_n 3, 0, 0, 0, 0), (.aload_n 0, 0, 0, 0, 0), (.getfield 45, 6, 12, 0, 0), (.iload 4, 0, 0, 0, 0), (.iaload, 0, 0, 0, 0), (.if_icmp .lt 5, 5, 0, 0, 0), (.iconst (-1), 0, 0, (-1), 0), (.ireturn, 0, 0, 0, 0)]
def rp_46_r4 : List mm_Row := [(.iconst (-1), 0, 0, (-1), 0), (.ireturn, 0, 0, 0, 0)]
def rp_46_r5 : List mm_Row := [(.aload_n 0, 0, 0, 0, 0), (.getfield 54, 6, 16, 0, 0), (.iconst 3, 0, 0, 3, 0), (.iload 4, 0, 0, 0, 0), (.imul, 0, 0, 0, 0), (.iload_n 3, 0, 0, 0, 0), (.iadd, 0, 0, 0, 0), (.iaload, 0, 0, 0, 0), (.istore 5, 0, 0, 0, 0), (.aload_n 0, 0, 0, 0, 0), (.getfield 33, 6, 8, 0, 0), (.iload 5, 0, 0, 0, 0), (.iaload, 0, 0, 0, 0), (.ifCond .eq 11, 6, 0, 0, 0), (.aload_n 0, 0, 0, 0, 0), (.iload_n 1, 0, 0, 0, 0), (.iload 5, 0, 0, 0, 0), (.invokevirtual 250, 40, 403, 0, 0), (.ireturn, 0, 0, 0, 0)]
def rp_46_r6 : List mm_Row := [(.iconst 0, 0, 0, 0, 0), (.istore 6, 0, 0, 0, 0), (.iload_n 2, 0, 0, 0, 0), (.iconst 1, 0, 0, 1, 0), (.iadd, 0, 0, 0, 0), (.istore 7, 0, 0, 0, 0), (.iload 7, 0, 0, 0, 0), (.aload_n 0, 0, 0, 0, 0), (.getfield 226, 6, 24, 0, 0), (.if_icmp .gt 35, 9, 0, 0, 0), (.aload_n 0, 0, 0, 0, 0), (.getfield 76, 6, 26, 0, 0), (.iload 7, 0, 0, 0, 0), (.iaload, 0, 0, 0, 0), (.iload_n 2, 0, 0, 0, 0), (.if_icmp .ne 18, 8, 0, 0, 0), (.aload_n 0, 0, 0, 0, 0), (.getfield 79, 6, 27, 0, 0), (.iload 7, 0, 0, 0, 0), (.iaload, 0, 0, 0, 0), (.iload_n 3, 0, 0, 0, 0), (.if_icmp .ne 7, 8, 0, 0, 0), (.iload 7, 0, 0, 0, 0), (.istore 6, 0, 0, 0, 0), (.iinc 7 1, 0, 0, 1, 0), (.goto (-38), 7, 0, 0, 0)]
def rp_46_r7 : List mm_Row := [(.iload 7, 0, 0, 0, 0), (.aload_n 0, 0, 0, 0, 0), (.getfield 226, 6, 24, 0, 0), (.if_icmp .gt 35, 9, 0, 0, 0), (.aload_n 0, 0, 0, 0, 0), (.getfield 76, 6, 26, 0, 0), (.iload 7, 0, 0, 0, 0), (.iaload, 0, 0, 0, 0), (.iload_n 2, 0, 0, 0, 0), (.if_icmp .ne 18, 8, 0, 0, 0), (.aload_n 0, 0, 0, 0, 0), (.getfield 79, 6, 27, 0, 0), (.iload 7, 0, 0, 0, 0), (.iaload, 0, 0, 0, 0), (.iload_n 3, 0, 0, 0, 0), (.if_icmp .ne 7, 8, 0, 0, 0), (.iload 7, 0, 0, 0, 0), (.istore 6, 0, 0, 0, 0), (.iinc 7 1, 0, 0, 1, 0), (.goto (-38), 7, 0, 0, 0)]
def rp_46_r8 : List mm_Row := [(.iinc 7 1, 0, 0, 1, 0), (.goto (-38), 7, 0, 0, 0)]
def rp_46_r9 : List mm_Row := [(.iload 6, 0, 0, 0, 0), (.ireturn, 0, 0, 0, 0)]
def rp_46_l : List (Nat × List mm_Row) := [(0, rp_46_r0), (10, rp_46_r1), (19, rp_46_r2), (30, rp_46_r3), (53, rp_46_r4), (55, rp_46_r5), (86, rp_46_r6), (94, rp_46_r7), (129, rp_46_r8), (135, rp_46_r9)]
def rp_46 : mm_M := (6, ⟨"WiringContainerModel", "call", "(III)I"⟩, prog_8_method_48_code, 8, (some .int), rp_46_l)
-- 47: WiringContainerModel.destroy(I)I
def rp_47_r0 : List mm_Row := [(.aload_n 0, 0, 0, 0, 0), (.getfield 123, 6, 15, 0, 0), (.ifCond .ne 6, 1, 0, 0, 0), (.bipush (-3), 0, 0, (-3), 0), (.ireturn, 0, 0, 0, 0)]
def rp_47_r1 : List mm_Row := [(.aload_n 0, 0, 0, 0, 0), (.iload_n 1, 0, 0, 0, 0), (.invokevirtual 253, 42, 434, 0, 0), (.ifCond .ne 6, 2, 0, 0, 0), (.bipush (-8), 0, 0, (-8), 0), (.ireturn, 0, 0, 0, 0)]
def rp_47_r2 : List mm_Row := [(.aload_n 0, 0, 0, 0, 0), (.getfield 76, 6, 26, 0, 0), (.iload_n 1, 0, 0, 0, 0), (.iaload, 0, 0, 0, 0), (.ifCond .eq 5, 3, 0, 0, 0), (.iconst (-1), 0, 0, (-1), 0), (.ireturn, 0, 0, 0, 0)]
def rp_47_r3 : List mm_Row := [(.iconst 0, 0, 0, 0, 0), (.istore_n 2, 0, 0, 0, 0), (.iload_n 2, 0, 0, 0, 0), (.bipush 64, 0, 0, 64, 0), (.if_icmp .ge 26, 6, 0, 0, 0), (.aload_n 0, 0, 0, 0, 0), (.getfield 112, 6, 40, 0, 0), (.iload_n 2, 0, 0, 0, 0), (.iaload, 0, 0, 0, 0), (.iload_n 1, 0, 0, 0, 0), (.if_icmp .ne 10, 5, 0, 0, 0), (.aload_n 0, 0, 0, 0, 0), (.getfield 112, 6, 40, 0, 0), (.iload_n 2, 0, 0, 0, 0), (.iconst 0, 0, 0, 0, 0), (.iastore, 0, 0, 0, 0), (.iinc 2 1, 0, 0, 1, 0), (.goto (-26), 4, 0, 0, 0)]
def rp_47_r4 : List mm_Row := [(.iload_n 2, 0, 0, 0, 0), (.bipush 64, 0, 0, 64, 0), (.if_icmp .ge 26, 6, 0, 0, 0), (.aload_n 0, 0, 0, 0, 0), (.getfield 112, 6, 40, 0, 0), (.iload_n 2, 0, 0, 0, 0), (.iaload, 0, 0, 0, 0), (.iload_n 1, 0, 0, 0, 0), (.if_icmp .ne 10, 5, 0, 0, 0), (.aload_n 0, 0, 0, 0, 0), (.getfield 112, 6, 40, 0, 0), (.iload_n 2, 0, 0, 0, 0), (.iconst 0, 0, 0, 0, 0), (.iastore, 0, 0, 0, 0), (.iinc 2 1, 0, 0, 1, 0), (.goto (-26), 4, 0, 0, 0)]
def rp_47_r5 : List mm_Row := [(.iinc 2 1, 0, 0, 1, 0), (.goto (-26), 4, 0, 0, 0)]
def rp_47_r6 : List mm_Row := [(.aload_n 0, 0, 0, 0, 0), (.iload_n 1, 0, 0, 0, 0), (.iconst 0, 0, 0, 0, 0), (.invokevirtual 235, 38, 403, 0, 0), (.ireturn, 0, 0, 0, 0)]
def rp_47_l : List (Nat × List mm_Row) := [(0, rp_47_r0), (10, rp_47_r1), (21, rp_47_r2), (32, rp_47_r3), (34, rp_47_r4), (57, rp_47_r5), (63, rp_47_r6)]
def rp_47 : mm_M := (6, ⟨"WiringContainerModel", "destroy", "(I)I"⟩, prog_8_method_49_code, 3, (some .int), rp_47_l)
-- 48: WiringContainerModel.shutdown()I
def rp_48_r0 : List mm_Row := [(.aload_n 0, 0, 0, 0, 0), (.getfield 123, 6, 15, 0, 0), (.ifCond .ne 6, 1, 0, 0, 0), (.bipush (-3), 0, 0, (-3), 0), (.ireturn, 0, 0, 0, 0)]
def rp_48_r1 : List mm_Row := [(.iconst 0, 0, 0, 0, 0), (.istore_n 1, 0, 0, 0, 0), (.iconst 0, 0, 0, 0, 0), (.istore_n 2, 0, 0, 0, 0), (.iload_n 2, 0, 0, 0, 0), (.iconst 3, 0, 0, 3, 0), (.if_icmp .ge 24, 3, 0, 0, 0), (.iload_n 1, 0, 0, 0, 0), (.aload_n 0, 0, 0, 0, 0), (.iload_n 2, 0, 0, 0, 0), (.invokevirtual 247, 39, 402, 0, 0), (.iadd, 0, 0, 0, 0), (.istore_n 1, 0, 0, 0, 0), (.aload_n 0, 0, 0, 0, 0), (.getfield 109, 6, 39, 0, 0), (.iload_n 2, 0, 0, 0, 0), (.iconst 0, 0, 0, 0, 0), (.bastore, 0, 0, 0, 0), (.iinc 2 1, 0, 0, 1, 0), (.goto (-23), 2, 0, 0, 0)]
def rp_48_r2 : List mm_Row := [(.iload_n 2, 0, 0, 0, 0), (.iconst 3, 0, 0, 3, 0), (.if_icmp .ge 24, 3, 0, 0, 0), (.iload_n 1, 0, 0, 0, 0), (.aload_n 0, 0, 0, 0, 0), (.iload_n 2, 0, 0, 0, 0), (.invokevirtual 247, 39, 402, 0, 0), (.iadd, 0, 0, 0, 0), (.istore_n 1, 0, 0, 0, 0), (.aload_n 0, 0, 0, 0, 0), (.getfield 109, 6, 39, 0, 0), (.iload_n 2, 0, 0, 0, 0), (.iconst 0, 0, 0, 0, 0), (.bastore, 0, 0, 0, 0), (.iinc 2 1, 0, 0, 1, 0), (.goto (-23), 2, 0, 0, 0)]
def rp_48_r3 : List mm_Row := [(.aload_n 0, 0, 0, 0, 0), (.getfield 226, 6, 24, 0, 0), (.istore_n 2, 0, 0, 0, 0), (.iload_n 2, 0, 0, 0, 0), (.iconst 1, 0, 0, 1, 0), (.if_icmp .lt 34, 6, 0, 0, 0), (.aload_n 0, 0, 0, 0, 0), (.getfield 82, 6, 28, 0, 0), (.iload_n 2, 0, 0, 0, 0), (.baload, 0, 0, 0, 0), (.ifCond .eq 19, 5, 0, 0, 0), (.aload_n 0, 0, 0, 0, 0), (.getfield 85, 6, 29, 0, 0), (.iload_n 2, 0, 0, 0, 0), (.baload, 0, 0, 0, 0), (.ifCond .eq 10, 5, 0, 0, 0), (.aload_n 0, 0, 0, 0, 0), (.iload_n 2, 0, 0, 0, 0), (.iload_n 1, 0, 0, 0, 0), (.invokevirtual 235, 38, 403, 0, 0), (.istore_n 1, 0, 0, 0, 0), (.iinc 2 (-1), 0, 0, (-1), 0), (.goto (-33), 4, 0, 0, 0)]
def rp_48_r4 : List mm_Row := [(.iload_n 2, 0, 0, 0, 0), (.iconst 1, 0, 0, 1, 0), (.if_icmp .lt 34, 6, 0, 0, 0), (.aload_n 0, 0, 0, 0, 0), (.getfield 82, 6, 28, 0, 0), (.iload_n 2, 0, 0, 0, 0), (.baload, 0, 0, 0, 0), (.ifCond .eq 19, 5, 0, 0, 0), (.aload_n 0, 0, 0, 0, 0), (.getfield 85, 6, 29, 0, 0), (.iload_n 2, 0, 0, 0, 0), (.baload, 0, 0, 0, 0), (.ifCond .eq 10, 5, 0, 0, 0), (.aload_n 0, 0, 0, 0, 0), (.iload_n 2, 0, 0, 0, 0), (.iload_n 1, 0, 0, 0, 0), (.invokevirtual 235, 38, 403, 0, 0), (.istore_n 1, 0, 0, 0, 0), (.iinc 2 (-1), 0, 0, (-1), 0), (.goto (-33), 4, 0, 0, 0)]
def rp_48_r5 : List mm_Row := [(.iinc 2 (-1), 0, 0, (-1), 0), (.goto (-33), 4, 0, 0, 0)]
def rp_48_r6 : List mm_Row := [(.iload_n 1, 0, 0, 0, 0), (.aload_n 0, 0, 0, 0, 0), (.iconst 3, 0, 0, 3, 0), (.invokevirtual 247, 39, 402, 0, 0), (.iadd, 0, 0, 0, 0), (.istore_n 1, 0, 0, 0, 0), (.aload_n 0, 0, 0, 0, 0), (.getfield 109, 6, 39, 0, 0), (.iconst 3, 0, 0, 3, 0), (.iconst 0, 0, 0, 0, 0), (.bastore, 0, 0, 0, 0), (.aload_n 0, 0, 0, 0, 0), (.iconst 0, 0, 0, 0, 0), (.putfield 123, 6, 15, 0, 0), (.iload_n 1, 0, 0, 0, 0), (.ireturn, 0, 0, 0, 0)]
def rp_48_l : List (Nat × List mm_Row) := [(0, rp_48_r0), (10, rp_48_r1), (14, rp_48_r2), (40, rp_48_r3), (45, rp_48_r4), (75, rp_48_r5), (81, rp_48_r6)]
def rp_48 : mm_M := (6, ⟨"WiringContainerModel", "shutdown", "()I"⟩, prog_8_method_50_code, 3, (some .int), rp_48_l)
-- 49: WiringContainerModel.beanOf(I)I
def rp_49_r0 : List mm_Row := [(.aload_n 0, 0, 0, 0, 0), (.iload_n 1, 0, 0, 0, 0), (.invokevirtual 253, 42, 434, 0, 0), (.ifCond .eq 12, 1, 0, 0, 0), (.aload_n 0, 0, 0, 0, 0), (.getfield 73, 6, 25, 0, 0), (.iload_n 1, 0, 0, 0, 0), (.iaload, 0, 0, 0, 0), (.goto 5, 2, 0, 0, 0)]
def rp_49_r1 : List mm_Row := [(.bipush (-8), 0, 0, (-8), 0), (.ireturn, 0, 0, 0, 0)]
def rp_49_r2 : List mm_Row := [(.ireturn, 0, 0, 0, 0)]
def rp_49_l : List (Nat × List mm_Row) := [(0, rp_49_r0), (17, rp_49_r1), (19, rp_49_r2)]
def rp_49 : mm_M := (6, ⟨"WiringContainerModel", "beanOf", "(I)I"⟩, prog_8_method_51_code, 2, (some .int), rp_49_l)
-- 50: WiringContainerModel.owner(I)I
def rp_50_r0 : List mm_Row := [(.aload_n 0, 0, 0, 0, 0), (.iload_n 1, 0, 0, 0, 0), (.invokevirtual 253, 42, 434, 0, 0), (.ifCond .eq 12, 1, 0, 0, 0), (.aload_n 0, 0, 0, 0, 0), (.getfield 76, 6, 26, 0, 0), (.iload_n 1, 0, 0, 0, 0), (.iaload, 0, 0, 0, 0), (.goto 5, 2, 0, 0, 0)]
def rp_50_r1 : List mm_Row := [(.bipush (-8), 0, 0, (-8), 0), (.ireturn, 0, 0, 0, 0)]
def rp_50_r2 : List mm_Row := [(.ireturn, 0, 0, 0, 0)]
def rp_50_l : List (Nat × List mm_Row) := [(0, rp_50_r0), (17, rp_50_r1), (19, rp_50_r2)]
def rp_50 : mm_M := (6, ⟨"WiringContainerModel", "owner", "(I)I"⟩, prog_8_method_52_code, 2, (some .int), rp_50_l)
-- 51: WiringContainerModel.destroyed(I)I
def rp_51_r0 : List mm_Row := [(.iload_n 1, 0, 0, 0, 0), (.ifCond .lt 20, 1, 0, 0, 0), (.iload_n 1, 0, 0, 0, 0), (.aload_n 0, 0, 0, 0, 0), (.getfield 238, 6, 31, 0, 0), (.if_icmp .ge 12, 1, 0, 0, 0), (.aload_n 0, 0, 0, 0, 0), (.getfield 88, 6, 30, 0, 0), (.iload_n 1, 0, 0, 0, 0), (.iaload, 0, 0, 0, 0), (.goto 4, 2, 0, 0, 0)]
def rp_51_r1 : List mm_Row := [(.iconst 0, 0, 0, 0, 0), (.ireturn, 0, 0, 0, 0)]
def rp_51_r2 : List mm_Row := [(.ireturn, 0, 0, 0, 0)]
def rp_51_l : List (Nat × List mm_Row) := [(0, rp_51_r0), (21, rp_51_r1), (22, rp_51_r2)]
def rp_51 : mm_M := (6, ⟨"WiringContainerModel", "destroyed", "(I)I"⟩, prog_8_method_53_code, 2, (some .int), rp_51_l)
-- 52: WiringContainerModel.live()I
def rp_52_r0 : List mm_Row := [(.aload_n 0, 0, 0, 0, 0), (.getfield 226, 6, 24, 0, 0), (.aload_n 0, 0, 0, 0, 0), (.getfield 238, 6, 31, 0, 0), (.isub, 0, 0, 0, 0), (.ireturn, 0, 0, 0, 0)]
def rp_52_l : List (Nat × List mm_Row) := [(0, rp_52_r0)]
def rp_52 : mm_M := (6, ⟨"WiringContainerModel", "live", "()I"⟩, prog_8_method_54_code, 1, (some .int), rp_52_l)
def rp_P : List mm_M := [rp_0, rp_1, rp_2, rp_3, rp_4, rp_5, rp_6, rp_7, rp_8, rp_9, rp_10, rp_11, rp_12, rp_13, rp_14, rp_15, rp_16, rp_17, rp_18, rp_19, rp_20, rp_21, rp_22, rp_23, rp_24, rp_25, rp_26, rp_27, rp_28, rp_29, rp_30, rp_31, rp_32, rp_33, rp_34, rp_35, rp_36, rp_37, rp_38, rp_39, rp_40, rp_41, rp_42, rp_43, rp_44, rp_45, rp_46, rp_47, rp_48, rp_49, rp_50, rp_51, rp_52]
def rp_K : mm_Lk := ([(6, 7, 6, 0), (6, 13, 6, 1), (6, 17, 6, 2), (6, 20, 6, 3), (6, 24, 6, 4), (6, 27, 6, 6), (6, 30, 6, 7), (6, 33, 6, 8), (6, 36, 6, 9), (6, 39, 6, 10), (6, 42, 6, 11), (6, 45, 6, 12), (6, 48, 6, 13), (6, 51, 6, 14), (6, 54, 6, 16), (6, 57, 6, 17), (6, 60, 6, 18), (6, 63, 6, 19), (6, 67, 6, 21), (6, 70, 6, 22), (6, 73, 6, 25), (6, 76, 6, 26), (6, 79, 6, 27), (6, 82, 6, 28), (6, 85, 6, 29), (6, 88, 6, 30), (6, 91, 6, 32), (6, 94, 6, 33), (6, 97, 6, 34), (6, 100, 6, 35), (6, 103, 6, 36), (6, 106, 6, 38), (6, 109, 6, 39), (6, 112, 6, 40), (6, 123, 6, 15), (6, 131, 6, 5), (6, 147, 6, 20), (6, 160, 6, 23), (6, 219, 6, 37), (6, 226, 6, 24), (6, 238, 6, 31)], [(6, 115, 0, 437), (6, 127, 4, 435), (6, 134, 6, 406), (6, 138, 9, 434), (6, 141, 1, 434), (6, 152, 13, 386), (6, 156, 14, 419), (6, 163, 15, 386), (6, 166, 16, 387), (6, 175, 11, 434), (6, 178, 18, 435), (6, 182, 17, 435), (6, 186, 12, 402), (6, 190, 19, 403), (6, 194, 21, 402), (6, 200, 22, 403), (6, 203, 27, 434), (6, 206, 28, 402), (6, 209, 29, 433), (6, 213, 30, 433), (6, 216, 31, 402), (6, 222, 34, 389), (6, 229, 35, 402), (6, 232, 37, 435), (6, 235, 38, 403), (6, 241, 36, 402), (6, 247, 39, 402), (6, 250, 40, 403), (6, 253, 42, 434)], [(6, 119, 2, 49), (6, 144, 3, 49), (6, 197, 20, 17), (6, 244, 41, 49)], [(6, 170, 1000000)], [(6, 150, 31), (6, 171, 30), (6, 173, 29)])
end
section
/-! THE CLASS: what the tables say of it -/
set_option maxRecDepth 100000 in
theorem cp_0_c : (cp_0_l.all fun q => mm_chk cp_K 0 prog_2_method_2_code cp_0_l q.1 q.2) = true := by decide +kernel
set_option maxRecDepth 100000 in
theorem cp_0_ok : mm_MOk ww_tbl ww_nm cp_K cp_0 := ⟨ww_c1 229 rfl rfl, ww_c1 3 rfl rfl, rfl, by decide, ⟨by decide, by decide⟩, by decide, ⟨_, rfl⟩, by decide, List.all_eq_true.mp cp_0_c⟩
set_option maxRecDepth 100000 in
theorem cp_1_c : (cp_1_l.all fun q => mm_chk cp_K 0 prog_2_method_3_code cp_1_l q.1 q.2) = true := by decide +kernel
set_option maxRecDepth 100000 in
theorem cp_1_ok : mm_MOk ww_tbl ww_nm cp_K cp_1 := ⟨ww_c2 16 rfl rfl, ww_c1 3 rfl rfl, rfl, by decide, ⟨by decide, by decide⟩, by decide, ⟨_, rfl⟩, by decide, List.all_eq_true.mp cp_1_c⟩
set_option maxRecDepth 100000 in
theorem cp_2_c : (cp_2_l.all fun q => mm_chk cp_K 0 prog_2_method_4_code cp_2_l q.1 q.2) = true := by decide +kernel
set_option maxRecDepth 100000 in
theorem cp_2_ok : mm_MOk ww_tbl ww_nm cp_K cp_2 := ⟨ww_c2 145 rfl rfl, ww_c1 3 rfl rfl, rfl, by decide, ⟨by decide, by decide⟩, by decide, ⟨_, rfl⟩, by decide, List.all_eq_true.mp cp_2_c⟩
set_option maxRecDepth 100000 in
theorem cp_3_c : (cp_3_l.all fun q => mm_chk cp_K 0 prog_2_method_5_code cp_3_l q.1 q.2) = true := by decide +kernel
set_option maxRecDepth 100000 in
theorem cp_3_ok : mm_MOk ww_tbl ww_nm cp_K cp_3 := ⟨ww_c2 7 rfl rfl, ww_c1 3 rfl rfl, rfl, by decide, ⟨by decide, by decide⟩, by decide, ⟨_, rfl⟩, by decide, List.all_eq_true.mp cp_3_c⟩
set_option maxRecDepth 100000 in
theorem cp_4_c : (cp_4_l.all fun q => mm_chk cp_K 0 prog_2_method_6_code cp_4_l q.1 q.2) = true := by decide +kernel
set_option maxRecDepth 100000 in
theorem cp_4_ok : mm_MOk ww_tbl ww_nm cp_K cp_4 := ⟨ww_c2 12 rfl rfl, ww_c1 3 rfl rfl, rfl, by decide, ⟨by decide, by decide⟩, by decide, ⟨_, rfl⟩, by decide, List.all_eq_true.mp cp_4_c⟩
set_option maxRecDepth 100000 in
theorem cp_5_c : (cp_5_l.all fun q => mm_chk cp_K 0 prog_2_method_7_code cp_5_l q.1 q.2) = true := by decide +kernel
set_option maxRecDepth 100000 in
theorem cp_5_ok : mm_MOk ww_tbl ww_nm cp_K cp_5 := ⟨ww_c2 32 rfl rfl, ww_c1 3 rfl rfl, rfl, by decide, ⟨by decide, by decide⟩, by decide, ⟨_, rfl⟩, by decide, List.all_eq_true.mp cp_5_c⟩
set_option maxRecDepth 100000 in
theorem cp_6_c : (cp_6_l.all fun q => mm_chk cp_K 0 prog_2_method_8_code cp_6_l q.1 q.2) = true := by decide +kernel
set_option maxRecDepth 100000 in
theorem cp_6_ok : mm_MOk ww_tbl ww_nm cp_K cp_6 := ⟨ww_c2 54 rfl rfl, ww_c1 3 rfl rfl, rfl, by decide, ⟨by decide, by decide⟩, by decide, ⟨_, rfl⟩, by decide, List.all_eq_true.mp cp_6_c⟩
set_option maxRecDepth 100000 in
theorem cp_7_c : (cp_7_l.all fun q => mm_chk cp_K 0 prog_2_method_9_code cp_7_l q.1 q.2) = true := by decide +kernel
set_option maxRecDepth 100000 in
theorem cp_7_ok : mm_MOk ww_tbl ww_nm cp_K cp_7 := ⟨ww_c2 62 rfl rfl, ww_c1 3 rfl rfl, rfl, by decide, ⟨by decide, by decide⟩, by decide, ⟨_, rfl⟩, by decide, List.all_eq_true.mp cp_7_c⟩
set_option maxRecDepth 100000 in
theorem cp_8_c : (cp_8_l.all fun q => mm_chk cp_K 0 prog_2_method_10_code cp_8_l q.1 q.2) = true := by decide +kernel
set_option maxRecDepth 100000 in
theorem cp_8_ok : mm_MOk ww_tbl ww_nm cp_K cp_8 := ⟨ww_c2 202 rfl rfl, ww_c1 3 rfl rfl, rfl, by decide, ⟨by decide, by decide⟩, by decide, ⟨_, rfl⟩, by decide, List.all_eq_true.mp cp_8_c⟩
set_option maxRecDepth 100000 in
theorem cp_9_c : (cp_9_l.all fun q => mm_chk cp_K 0 prog_2_method_11_code cp_9_l q.1 q.2) = true := by decide +kernel
set_option maxRecDepth 100000 in
theorem cp_9_ok : mm_MOk ww_tbl ww_nm cp_K cp_9 := ⟨ww_c3 72 rfl rfl, ww_c1 3 rfl rfl, rfl, by decide, ⟨by decide, by decide⟩, by decide, ⟨_, rfl⟩, by decide, List.all_eq_true.mp cp_9_c⟩
set_option maxRecDepth 100000 in
theorem cp_10_c : (cp_10_l.all fun q => mm_chk cp_K 0 prog_2_method_12_code cp_10_l q.1 q.2) = true := by decide +kernel
set_option maxRecDepth 100000 in
theorem cp_10_ok : mm_MOk ww_tbl ww_nm cp_K cp_10 := ⟨ww_c2 185 rfl rfl, ww_c1 3 rfl rfl, rfl, by decide, ⟨by decide, by decide⟩, by decide, ⟨_, rfl⟩, by decide, List.all_eq_true.mp cp_10_c⟩
set_option maxRecDepth 100000 in
theorem cp_11_c : (cp_11_l.all fun q => mm_chk cp_K 0 prog_2_method_13_code cp_11_l q.1 q.2) = true := by decide +kernel
set_option maxRecDepth 100000 in
theorem cp_11_ok : mm_MOk ww_tbl ww_nm cp_K cp_11 := ⟨ww_c2 50 rfl rfl, ww_c1 3 rfl rfl, rfl, by decide, ⟨by decide, by decide⟩, by decide, ⟨_, rfl⟩, by decide, List.all_eq_true.mp cp_11_c⟩
set_option maxRecDepth 100000 in
theorem cp_12_c : (cp_12_l.all fun q => mm_chk cp_K 0 prog_2_method_14_code cp_12_l q.1 q.2) = true := by decide +kernel
set_option maxRecDepth 100000 in
theorem cp_12_ok : mm_MOk ww_tbl ww_nm cp_K cp_12 := ⟨ww_c2 159 rfl rfl, ww_c1 3 rfl rfl, rfl, by decide, ⟨by decide, by decide⟩, by decide, ⟨_, rfl⟩, by decide, List.all_eq_true.mp cp_12_c⟩
set_option maxRecDepth 100000 in
theorem cp_13_c : (cp_13_l.all fun q => mm_chk cp_K 0 prog_2_method_15_code cp_13_l q.1 q.2) = true := by decide +kernel
set_option maxRecDepth 100000 in
theorem cp_13_ok : mm_MOk ww_tbl ww_nm cp_K cp_13 := ⟨ww_c2 155 rfl rfl, ww_c1 3 rfl rfl, rfl, by decide, ⟨by decide, by decide⟩, by decide, ⟨_, rfl⟩, by decide, List.all_eq_true.mp cp_13_c⟩
set_option maxRecDepth 100000 in
theorem cp_14_c : (cp_14_l.all fun q => mm_chk cp_K 0 prog_2_method_16_code cp_14_l q.1 q.2) = true := by decide +kernel
set_option maxRecDepth 100000 in
theorem cp_14_ok : mm_MOk ww_tbl ww_nm cp_K cp_14 := ⟨ww_c2 164 rfl rfl, ww_c1 3 rfl rfl, rfl, by decide, ⟨by decide, by decide⟩, by decide, ⟨_, rfl⟩, by decide, List.all_eq_true.mp cp_14_c⟩
set_option maxRecDepth 100000 in
theorem cp_15_c : (cp_15_l.all fun q => mm_chk cp_K 0 prog_2_method_17_code cp_15_l q.1 q.2) = true := by decide +kernel
set_option maxRecDepth 100000 in
theorem cp_15_ok : mm_MOk ww_tbl ww_nm cp_K cp_15 := ⟨ww_c2 24 rfl rfl, ww_c1 3 rfl rfl, rfl, by decide, ⟨by decide, by decide⟩, by decide, ⟨_, rfl⟩, by decide, List.all_eq_true.mp cp_15_c⟩
set_option maxRecDepth 100000 in
theorem cp_16_c : (cp_16_l.all fun q => mm_chk cp_K 0 prog_2_method_18_code cp_16_l q.1 q.2) = true := by decide +kernel
set_option maxRecDepth 100000 in
theorem cp_16_ok : mm_MOk ww_tbl ww_nm cp_K cp_16 := ⟨ww_c2 190 rfl rfl, ww_c1 3 rfl rfl, rfl, by decide, ⟨by decide, by decide⟩, by decide, ⟨_, rfl⟩, by decide, List.all_eq_true.mp cp_16_c⟩
set_option maxRecDepth 100000 in
theorem cp_17_c : (cp_17_l.all fun q => mm_chk cp_K 0 prog_2_method_19_code cp_17_l q.1 q.2) = true := by decide +kernel
set_option maxRecDepth 100000 in
theorem cp_17_ok : mm_MOk ww_tbl ww_nm cp_K cp_17 := ⟨ww_c2 169 rfl rfl, ww_c1 3 rfl rfl, rfl, by decide, ⟨by decide, by decide⟩, by decide, ⟨_, rfl⟩, by decide, List.all_eq_true.mp cp_17_c⟩
set_option maxRecDepth 100000 in
theorem cp_18_c : (cp_18_l.all fun q => mm_chk cp_K 0 prog_2_method_20_code cp_18_l q.1 q.2) = true := by decide +kernel
set_option maxRecDepth 100000 in
theorem cp_18_ok : mm_MOk ww_tbl ww_nm cp_K cp_18 := ⟨ww_c2 102 rfl rfl, ww_c1 3 rfl rfl, rfl, by decide, ⟨by decide, by decide⟩, by decide, ⟨_, rfl⟩, by decide, List.all_eq_true.mp cp_18_c⟩
set_option maxRecDepth 100000 in
theorem cp_19_c : (cp_19_l.all fun q => mm_chk cp_K 0 prog_2_method_21_code cp_19_l q.1 q.2) = true := by decide +kernel
set_option maxRecDepth 100000 in
theorem cp_19_ok : mm_MOk ww_tbl ww_nm cp_K cp_19 := ⟨ww_c2 122 rfl rfl, ww_c1 3 rfl rfl, rfl, by decide, ⟨by decide, by decide⟩, by decide, ⟨_, rfl⟩, by decide, List.all_eq_true.mp cp_19_c⟩
set_option maxRecDepth 100000 in
theorem cp_20_c : (cp_20_l.all fun q => mm_chk cp_K 0 prog_2_method_22_code cp_20_l q.1 q.2) = true := by decide +kernel
set_option maxRecDepth 100000 in
theorem cp_20_ok : mm_MOk ww_tbl ww_nm cp_K cp_20 := ⟨ww_c2 98 rfl rfl, ww_c1 3 rfl rfl, rfl, by decide, ⟨by decide, by decide⟩, by decide, ⟨_, rfl⟩, by decide, List.all_eq_true.mp cp_20_c⟩
set_option maxRecDepth 100000 in
theorem cp_21_c : (cp_21_l.all fun q => mm_chk cp_K 0 prog_2_method_23_code cp_21_l q.1 q.2) = true := by decide +kernel
set_option maxRecDepth 100000 in
theorem cp_21_ok : mm_MOk ww_tbl ww_nm cp_K cp_21 := ⟨ww_c2 127 rfl rfl, ww_c1 3 rfl rfl, rfl, by decide, ⟨by decide, by decide⟩, by decide, ⟨_, rfl⟩, by decide, List.all_eq_true.mp cp_21_c⟩
set_option maxRecDepth 100000 in
theorem cp_22_c : (cp_22_l.all fun q => mm_chk cp_K 0 prog_2_method_24_code cp_22_l q.1 q.2) = true := by decide +kernel
set_option maxRecDepth 100000 in
theorem cp_22_ok : mm_MOk ww_tbl ww_nm cp_K cp_22 := ⟨ww_c2 131 rfl rfl, ww_c1 3 rfl rfl, rfl, by decide, ⟨by decide, by decide⟩, by decide, ⟨_, rfl⟩, by decide, List.all_eq_true.mp cp_22_c⟩
set_option maxRecDepth 100000 in
theorem cp_23_c : (cp_23_l.all fun q => mm_chk cp_K 0 prog_2_method_25_code cp_23_l q.1 q.2) = true := by decide +kernel
set_option maxRecDepth 100000 in
theorem cp_23_ok : mm_MOk ww_tbl ww_nm cp_K cp_23 := ⟨ww_c2 106 rfl rfl, ww_c1 3 rfl rfl, rfl, by decide, ⟨by decide, by decide⟩, by decide, ⟨_, rfl⟩, by decide, List.all_eq_true.mp cp_23_c⟩
set_option maxRecDepth 100000 in
theorem cp_24_c : (cp_24_l.all fun q => mm_chk cp_K 1 prog_3_method_2_code cp_24_l q.1 q.2) = true := by decide +kernel
set_option maxRecDepth 100000 in
theorem cp_24_ok : mm_MOk ww_tbl ww_nm cp_K cp_24 := ⟨ww_c1 192 rfl rfl, ww_c1 2 rfl rfl, rfl, by decide, ⟨by decide, by decide⟩, by decide, ⟨_, rfl⟩, by decide, List.all_eq_true.mp cp_24_c⟩
set_option maxRecDepth 100000 in
theorem cp_25_c : (cp_25_l.all fun q => mm_chk cp_K 1 prog_3_method_3_code cp_25_l q.1 q.2) = true := by decide +kernel
set_option maxRecDepth 100000 in
theorem cp_25_ok : mm_MOk ww_tbl ww_nm cp_K cp_25 := ⟨ww_c1 204 rfl rfl, ww_c1 2 rfl rfl, rfl, by decide, ⟨by decide, by decide⟩, by decide, ⟨_, rfl⟩, by decide, List.all_eq_true.mp cp_25_c⟩
set_option maxRecDepth 100000 in
theorem cp_26_c : (cp_26_l.all fun q => mm_chk cp_K 1 prog_3_method_4_code cp_26_l q.1 q.2) = true := by decide +kernel
set_option maxRecDepth 100000 in
theorem cp_26_ok : mm_MOk ww_tbl ww_nm cp_K cp_26 := ⟨ww_c2 173 rfl rfl, ww_c1 2 rfl rfl, rfl, by decide, ⟨by decide, by decide⟩, by decide, ⟨_, rfl⟩, by decide, List.all_eq_true.mp cp_26_c⟩
set_option maxRecDepth 100000 in
theorem cp_27_c : (cp_27_l.all fun q => mm_chk cp_K 1 prog_3_method_5_code cp_27_l q.1 q.2) = true := by decide +kernel
set_option maxRecDepth 100000 in
theorem cp_27_ok : mm_MOk ww_tbl ww_nm cp_K cp_27 := ⟨ww_c1 196 rfl rfl, ww_c1 2 rfl rfl, rfl, by decide, ⟨by decide, by decide⟩, by decide, ⟨_, rfl⟩, by decide, List.all_eq_true.mp cp_27_c⟩
set_option maxRecDepth 100000 in
theorem cp_28_c : (cp_28_l.all fun q => mm_chk cp_K 1 prog_3_method_6_code cp_28_l q.1 q.2) = true := by decide +kernel
set_option maxRecDepth 100000 in
theorem cp_28_ok : mm_MOk ww_tbl ww_nm cp_K cp_28 := ⟨ww_c2 28 rfl rfl, ww_c1 2 rfl rfl, rfl, by decide, ⟨by decide, by decide⟩, by decide, ⟨_, rfl⟩, by decide, List.all_eq_true.mp cp_28_c⟩
set_option maxRecDepth 100000 in
theorem cp_29_c : (cp_29_l.all fun q => mm_chk cp_K 1 prog_3_method_7_code cp_29_l q.1 q.2) = true := by decide +kernel
set_option maxRecDepth 100000 in
theorem cp_29_ok : mm_MOk ww_tbl ww_nm cp_K cp_29 := ⟨ww_c2 46 rfl rfl, ww_c1 2 rfl rfl, rfl, by decide, ⟨by decide, by decide⟩, by decide, ⟨_, rfl⟩, by decide, List.all_eq_true.mp cp_29_c⟩
set_option maxRecDepth 100000 in
theorem cp_30_c : (cp_30_l.all fun q => mm_chk cp_K 1 prog_3_method_8_code cp_30_l q.1 q.2) = true := by decide +kernel
set_option maxRecDepth 100000 in
theorem cp_30_ok : mm_MOk ww_tbl ww_nm cp_K cp_30 := ⟨ww_c1 212 rfl rfl, ww_c1 2 rfl rfl, rfl, by decide, ⟨by decide, by decide⟩, by decide, ⟨_, rfl⟩, by decide, List.all_eq_true.mp cp_30_c⟩
set_option maxRecDepth 100000 in
theorem cp_31_c : (cp_31_l.all fun q => mm_chk cp_K 1 prog_3_method_9_code cp_31_l q.1 q.2) = true := by decide +kernel
set_option maxRecDepth 100000 in
theorem cp_31_ok : mm_MOk ww_tbl ww_nm cp_K cp_31 := ⟨ww_c1 219 rfl rfl, ww_c1 2 rfl rfl, rfl, by decide, ⟨by decide, by decide⟩, by decide, ⟨_, rfl⟩, by decide, List.all_eq_true.mp cp_31_c⟩
set_option maxRecDepth 100000 in
theorem cp_32_c : (cp_32_l.all fun q => mm_chk cp_K 1 prog_3_method_10_code cp_32_l q.1 q.2) = true := by decide +kernel
set_option maxRecDepth 100000 in
theorem cp_32_ok : mm_MOk ww_tbl ww_nm cp_K cp_32 := ⟨ww_c2 3 rfl rfl, ww_c1 2 rfl rfl, rfl, by decide, ⟨by decide, by decide⟩, by decide, ⟨_, rfl⟩, by decide, List.all_eq_true.mp cp_32_c⟩
set_option maxRecDepth 100000 in
theorem cp_33_c : (cp_33_l.all fun q => mm_chk cp_K 1 prog_3_method_11_code cp_33_l q.1 q.2) = true := by decide +kernel
set_option maxRecDepth 100000 in
theorem cp_33_ok : mm_MOk ww_tbl ww_nm cp_K cp_33 := ⟨ww_c2 66 rfl rfl, ww_c1 2 rfl rfl, rfl, by decide, ⟨by decide, by decide⟩, by decide, ⟨_, rfl⟩, by decide, List.all_eq_true.mp cp_33_c⟩
set_option maxRecDepth 100000 in
theorem cp_34_c : (cp_34_l.all fun q => mm_chk cp_K 1 prog_3_method_12_code cp_34_l q.1 q.2) = true := by decide +kernel
set_option maxRecDepth 100000 in
theorem cp_34_ok : mm_MOk ww_tbl ww_nm cp_K cp_34 := ⟨ww_c2 83 rfl rfl, ww_c1 2 rfl rfl, rfl, by decide, ⟨by decide, by decide⟩, by decide, ⟨_, rfl⟩, by decide, List.all_eq_true.mp cp_34_c⟩
set_option maxRecDepth 100000 in
theorem cp_35_c : (cp_35_l.all fun q => mm_chk cp_K 1 prog_3_method_13_code cp_35_l q.1 q.2) = true := by decide +kernel
set_option maxRecDepth 100000 in
theorem cp_35_ok : mm_MOk ww_tbl ww_nm cp_K cp_35 := ⟨ww_c2 87 rfl rfl, ww_c1 2 rfl rfl, rfl, by decide, ⟨by decide, by decide⟩, by decide, ⟨_, rfl⟩, by decide, List.all_eq_true.mp cp_35_c⟩
set_option maxRecDepth 100000 in
theorem cp_36_c : (cp_36_l.all fun q => mm_chk cp_K 1 prog_3_method_14_code cp_36_l q.1 q.2) = true := by decide +kernel
set_option maxRecDepth 100000 in
theorem cp_36_ok : mm_MOk ww_tbl ww_nm cp_K cp_36 := ⟨ww_c2 75 rfl rfl, ww_c1 2 rfl rfl, rfl, by decide, ⟨by decide, by decide⟩, by decide, ⟨_, rfl⟩, by decide, List.all_eq_true.mp cp_36_c⟩
set_option maxRecDepth 100000 in
theorem cp_37_c : (cp_37_l.all fun q => mm_chk cp_K 1 prog_3_method_15_code cp_37_l q.1 q.2) = true := by decide +kernel
set_option maxRecDepth 100000 in
theorem cp_37_ok : mm_MOk ww_tbl ww_nm cp_K cp_37 := ⟨ww_c2 70 rfl rfl, ww_c1 2 rfl rfl, rfl, by decide, ⟨by decide, by decide⟩, by decide, ⟨_, rfl⟩, by decide, List.all_eq_true.mp cp_37_c⟩
set_option maxRecDepth 100000 in
theorem cp_38_c : (cp_38_l.all fun q => mm_chk cp_K 1 prog_3_method_16_code cp_38_l q.1 q.2) = true := by decide +kernel
set_option maxRecDepth 100000 in
theorem cp_38_ok : mm_MOk ww_tbl ww_nm cp_K cp_38 := ⟨ww_c1 200 rfl rfl, ww_c1 2 rfl rfl, rfl, by decide, ⟨by decide, by decide⟩, by decide, ⟨_, rfl⟩, by decide, List.all_eq_true.mp cp_38_c⟩
set_option maxRecDepth 100000 in
theorem cp_39_c : (cp_39_l.all fun q => mm_chk cp_K 1 prog_3_method_17_code cp_39_l q.1 q.2) = true := by decide +kernel
set_option maxRecDepth 100000 in
theorem cp_39_ok : mm_MOk ww_tbl ww_nm cp_K cp_39 := ⟨ww_c1 208 rfl rfl, ww_c1 2 rfl rfl, rfl, by decide, ⟨by decide, by decide⟩, by decide, ⟨_, rfl⟩, by decide, List.all_eq_true.mp cp_39_c⟩
set_option maxRecDepth 100000 in
theorem cp_40_c : (cp_40_l.all fun q => mm_chk cp_K 2 prog_4_method_2_code cp_40_l q.1 q.2) = true := by decide +kernel
set_option maxRecDepth 100000 in
theorem cp_40_ok : mm_MOk ww_tbl ww_nm cp_K cp_40 := ⟨ww_c3 3 rfl rfl, ww_c1 6 rfl rfl, rfl, by decide, ⟨by decide, by decide⟩, by decide, ⟨_, rfl⟩, by decide, List.all_eq_true.mp cp_40_c⟩
set_option maxRecDepth 100000 in
theorem cp_41_c : (cp_41_l.all fun q => mm_chk cp_K 2 prog_4_method_3_code cp_41_l q.1 q.2) = true := by decide +kernel
set_option maxRecDepth 100000 in
theorem cp_41_ok : mm_MOk ww_tbl ww_nm cp_K cp_41 := ⟨ww_c2 223 rfl rfl, ww_c1 6 rfl rfl, rfl, by decide, ⟨by decide, by decide⟩, by decide, ⟨_, rfl⟩, by decide, List.all_eq_true.mp cp_41_c⟩
set_option maxRecDepth 100000 in
theorem cp_42_c : (cp_42_l.all fun q => mm_chk cp_K 2 prog_4_method_4_code cp_42_l q.1 q.2) = true := by decide +kernel
set_option maxRecDepth 100000 in
theorem cp_42_ok : mm_MOk ww_tbl ww_nm cp_K cp_42 := ⟨ww_c3 32 rfl rfl, ww_c1 6 rfl rfl, rfl, by decide, ⟨by decide, by decide⟩, by decide, ⟨_, rfl⟩, by decide, List.all_eq_true.mp cp_42_c⟩
set_option maxRecDepth 100000 in
theorem cp_43_c : (cp_43_l.all fun q => mm_chk cp_K 2 prog_4_method_5_code cp_43_l q.1 q.2) = true := by decide +kernel
set_option maxRecDepth 100000 in
theorem cp_43_ok : mm_MOk ww_tbl ww_nm cp_K cp_43 := ⟨ww_c3 76 rfl rfl, ww_c1 6 rfl rfl, rfl, by decide, ⟨by decide, by decide⟩, by decide, ⟨_, rfl⟩, by decide, List.all_eq_true.mp cp_43_c⟩
set_option maxRecDepth 100000 in
theorem cp_44_c : (cp_44_l.all fun q => mm_chk cp_K 2 prog_4_method_6_code cp_44_l q.1 q.2) = true := by decide +kernel
set_option maxRecDepth 100000 in
theorem cp_44_ok : mm_MOk ww_tbl ww_nm cp_K cp_44 := ⟨ww_c3 83 rfl rfl, ww_c1 6 rfl rfl, rfl, by decide, ⟨by decide, by decide⟩, by decide, ⟨_, rfl⟩, by decide, List.all_eq_true.mp cp_44_c⟩
set_option maxRecDepth 100000 in
theorem cp_45_c : (cp_45_l.all fun q => mm_chk cp_K 2 prog_4_method_7_code cp_45_l q.1 q.2) = true := by decide +kernel
set_option maxRecDepth 100000 in
theorem cp_45_ok : mm_MOk ww_tbl ww_nm cp_K cp_45 := ⟨ww_c3 19 rfl rfl, ww_c1 6 rfl rfl, rfl, by decide, ⟨by decide, by decide⟩, by decide, ⟨_, rfl⟩, by decide, List.all_eq_true.mp cp_45_c⟩
set_option maxRecDepth 100000 in
theorem cp_46_c : (cp_46_l.all fun q => mm_chk cp_K 2 prog_4_method_8_code cp_46_l q.1 q.2) = true := by decide +kernel
set_option maxRecDepth 100000 in
theorem cp_46_ok : mm_MOk ww_tbl ww_nm cp_K cp_46 := ⟨ww_c3 109 rfl rfl, ww_c1 6 rfl rfl, rfl, by decide, ⟨by decide, by decide⟩, by decide, ⟨_, rfl⟩, by decide, List.all_eq_true.mp cp_46_c⟩
set_option maxRecDepth 100000 in
theorem cp_47_c : (cp_47_l.all fun q => mm_chk cp_K 2 prog_4_method_9_code cp_47_l q.1 q.2) = true := by decide +kernel
set_option maxRecDepth 100000 in
theorem cp_47_ok : mm_MOk ww_tbl ww_nm cp_K cp_47 := ⟨ww_c2 226 rfl rfl, ww_c1 6 rfl rfl, rfl, by decide, ⟨by decide, by decide⟩, by decide, ⟨_, rfl⟩, by decide, List.all_eq_true.mp cp_47_c⟩
set_option maxRecDepth 100000 in
theorem cp_48_c : (cp_48_l.all fun q => mm_chk cp_K 2 prog_4_method_10_code cp_48_l q.1 q.2) = true := by decide +kernel
set_option maxRecDepth 100000 in
theorem cp_48_ok : mm_MOk ww_tbl ww_nm cp_K cp_48 := ⟨ww_c3 79 rfl rfl, ww_c1 6 rfl rfl, rfl, by decide, ⟨by decide, by decide⟩, by decide, ⟨_, rfl⟩, by decide, List.all_eq_true.mp cp_48_c⟩
set_option maxRecDepth 100000 in
theorem cp_49_c : (cp_49_l.all fun q => mm_chk cp_K 3 prog_5_method_2_code cp_49_l q.1 q.2) = true := by decide +kernel
set_option maxRecDepth 100000 in
theorem cp_49_ok : mm_MOk ww_tbl ww_nm cp_K cp_49 := ⟨ww_c3 45 rfl rfl, ww_c1 5 rfl rfl, rfl, by decide, ⟨by decide, by decide⟩, by decide, ⟨_, rfl⟩, by decide, List.all_eq_true.mp cp_49_c⟩
set_option maxRecDepth 100000 in
theorem cp_50_c : (cp_50_l.all fun q => mm_chk cp_K 3 prog_5_method_3_code cp_50_l q.1 q.2) = true := by decide +kernel
set_option maxRecDepth 100000 in
theorem cp_50_ok : mm_MOk ww_tbl ww_nm cp_K cp_50 := ⟨ww_c3 141 rfl rfl, ww_c1 5 rfl rfl, rfl, by decide, ⟨by decide, by decide⟩, by decide, ⟨_, rfl⟩, by decide, List.all_eq_true.mp cp_50_c⟩
set_option maxRecDepth 100000 in
theorem cp_51_c : (cp_51_l.all fun q => mm_chk cp_K 3 prog_5_method_4_code cp_51_l q.1 q.2) = true := by decide +kernel
set_option maxRecDepth 100000 in
theorem cp_51_ok : mm_MOk ww_tbl ww_nm cp_K cp_51 := ⟨ww_c3 11 rfl rfl, ww_c1 5 rfl rfl, rfl, by decide, ⟨by decide, by decide⟩, by decide, ⟨_, rfl⟩, by decide, List.all_eq_true.mp cp_51_c⟩
set_option maxRecDepth 100000 in
theorem cp_52_c : (cp_52_l.all fun q => mm_chk cp_K 3 prog_5_method_5_code cp_52_l q.1 q.2) = true := by decide +kernel
set_option maxRecDepth 100000 in
theorem cp_52_ok : mm_MOk ww_tbl ww_nm cp_K cp_52 := ⟨ww_c3 133 rfl rfl, ww_c1 5 rfl rfl, rfl, by decide, ⟨by decide, by decide⟩, by decide, ⟨_, rfl⟩, by decide, List.all_eq_true.mp cp_52_c⟩
set_option maxRecDepth 100000 in
theorem cp_53_c : (cp_53_l.all fun q => mm_chk cp_K 3 prog_5_method_6_code cp_53_l q.1 q.2) = true := by decide +kernel
set_option maxRecDepth 100000 in
theorem cp_53_ok : mm_MOk ww_tbl ww_nm cp_K cp_53 := ⟨ww_c3 27 rfl rfl, ww_c1 5 rfl rfl, rfl, by decide, ⟨by decide, by decide⟩, by decide, ⟨_, rfl⟩, by decide, List.all_eq_true.mp cp_53_c⟩
set_option maxRecDepth 100000 in
theorem cp_54_c : (cp_54_l.all fun q => mm_chk cp_K 3 prog_5_method_7_code cp_54_l q.1 q.2) = true := by decide +kernel
set_option maxRecDepth 100000 in
theorem cp_54_ok : mm_MOk ww_tbl ww_nm cp_K cp_54 := ⟨ww_c3 92 rfl rfl, ww_c1 5 rfl rfl, rfl, by decide, ⟨by decide, by decide⟩, by decide, ⟨_, rfl⟩, by decide, List.all_eq_true.mp cp_54_c⟩
set_option maxRecDepth 100000 in
theorem cp_55_c : (cp_55_l.all fun q => mm_chk cp_K 3 prog_5_method_8_code cp_55_l q.1 q.2) = true := by decide +kernel
set_option maxRecDepth 100000 in
theorem cp_55_ok : mm_MOk ww_tbl ww_nm cp_K cp_55 := ⟨ww_c3 105 rfl rfl, ww_c1 5 rfl rfl, rfl, by decide, ⟨by decide, by decide⟩, by decide, ⟨_, rfl⟩, by decide, List.all_eq_true.mp cp_55_c⟩
set_option maxRecDepth 100000 in
theorem cp_56_c : (cp_56_l.all fun q => mm_chk cp_K 3 prog_5_method_9_code cp_56_l q.1 q.2) = true := by decide +kernel
set_option maxRecDepth 100000 in
theorem cp_56_ok : mm_MOk ww_tbl ww_nm cp_K cp_56 := ⟨ww_c3 97 rfl rfl, ww_c1 5 rfl rfl, rfl, by decide, ⟨by decide, by decide⟩, by decide, ⟨_, rfl⟩, by decide, List.all_eq_true.mp cp_56_c⟩
set_option maxRecDepth 100000 in
theorem cp_57_c : (cp_57_l.all fun q => mm_chk cp_K 3 prog_5_method_10_code cp_57_l q.1 q.2) = true := by decide +kernel
set_option maxRecDepth 100000 in
theorem cp_57_ok : mm_MOk ww_tbl ww_nm cp_K cp_57 := ⟨ww_c3 54 rfl rfl, ww_c1 5 rfl rfl, rfl, by decide, ⟨by decide, by decide⟩, by decide, ⟨_, rfl⟩, by decide, List.all_eq_true.mp cp_57_c⟩
set_option maxRecDepth 100000 in
theorem cp_58_c : (cp_58_l.all fun q => mm_chk cp_K 3 prog_5_method_11_code cp_58_l q.1 q.2) = true := by decide +kernel
set_option maxRecDepth 100000 in
theorem cp_58_ok : mm_MOk ww_tbl ww_nm cp_K cp_58 := ⟨ww_c3 63 rfl rfl, ww_c1 5 rfl rfl, rfl, by decide, ⟨by decide, by decide⟩, by decide, ⟨_, rfl⟩, by decide, List.all_eq_true.mp cp_58_c⟩
set_option maxRecDepth 100000 in
theorem cp_59_c : (cp_59_l.all fun q => mm_chk cp_K 3 prog_5_method_12_code cp_59_l q.1 q.2) = true := by decide +kernel
set_option maxRecDepth 100000 in
theorem cp_59_ok : mm_MOk ww_tbl ww_nm cp_K cp_59 := ⟨ww_c3 23 rfl rfl, ww_c1 5 rfl rfl, rfl, by decide, ⟨by decide, by decide⟩, by decide, ⟨_, rfl⟩, by decide, List.all_eq_true.mp cp_59_c⟩
set_option maxRecDepth 100000 in
theorem cp_60_c : (cp_60_l.all fun q => mm_chk cp_K 4 prog_6_method_2_code cp_60_l q.1 q.2) = true := by decide +kernel
set_option maxRecDepth 100000 in
theorem cp_60_ok : mm_MOk ww_tbl ww_nm cp_K cp_60 := ⟨ww_c3 58 rfl rfl, ww_c1 4 rfl rfl, rfl, by decide, ⟨by decide, by decide⟩, by decide, ⟨_, rfl⟩, by decide, List.all_eq_true.mp cp_60_c⟩
set_option maxRecDepth 100000 in
theorem cp_61_c : (cp_61_l.all fun q => mm_chk cp_K 4 prog_6_method_3_code cp_61_l q.1 q.2) = true := by decide +kernel
set_option maxRecDepth 100000 in
theorem cp_61_ok : mm_MOk ww_tbl ww_nm cp_K cp_61 := ⟨ww_c2 216 rfl rfl, ww_c1 4 rfl rfl, rfl, by decide, ⟨by decide, by decide⟩, by decide, ⟨_, rfl⟩, by decide, List.all_eq_true.mp cp_61_c⟩
set_option maxRecDepth 100000 in
theorem cp_62_c : (cp_62_l.all fun q => mm_chk cp_K 4 prog_6_method_4_code cp_62_l q.1 q.2) = true := by decide +kernel
set_option maxRecDepth 100000 in
theorem cp_62_ok : mm_MOk ww_tbl ww_nm cp_K cp_62 := ⟨ww_c2 141 rfl rfl, ww_c1 4 rfl rfl, rfl, by decide, ⟨by decide, by decide⟩, by decide, ⟨_, rfl⟩, by decide, List.all_eq_true.mp cp_62_c⟩
set_option maxRecDepth 100000 in
theorem cp_63_c : (cp_63_l.all fun q => mm_chk cp_K 4 prog_6_method_5_code cp_63_l q.1 q.2) = true := by decide +kernel
set_option maxRecDepth 100000 in
theorem cp_63_ok : mm_MOk ww_tbl ww_nm cp_K cp_63 := ⟨ww_c2 208 rfl rfl, ww_c1 4 rfl rfl, rfl, by decide, ⟨by decide, by decide⟩, by decide, ⟨_, rfl⟩, by decide, List.all_eq_true.mp cp_63_c⟩
set_option maxRecDepth 100000 in
theorem cp_64_c : (cp_64_l.all fun q => mm_chk cp_K 4 prog_6_method_6_code cp_64_l q.1 q.2) = true := by decide +kernel
set_option maxRecDepth 100000 in
theorem cp_64_ok : mm_MOk ww_tbl ww_nm cp_K cp_64 := ⟨ww_c2 150 rfl rfl, ww_c1 4 rfl rfl, rfl, by decide, ⟨by decide, by decide⟩, by decide, ⟨_, rfl⟩, by decide, List.all_eq_true.mp cp_64_c⟩
set_option maxRecDepth 100000 in
theorem cp_65_c : (cp_65_l.all fun q => mm_chk cp_K 4 prog_6_method_7_code cp_65_l q.1 q.2) = true := by decide +kernel
set_option maxRecDepth 100000 in
theorem cp_65_ok : mm_MOk ww_tbl ww_nm cp_K cp_65 := ⟨ww_c2 177 rfl rfl, ww_c1 4 rfl rfl, rfl, by decide, ⟨by decide, by decide⟩, by decide, ⟨_, rfl⟩, by decide, List.all_eq_true.mp cp_65_c⟩
set_option maxRecDepth 100000 in
theorem cp_66_c : (cp_66_l.all fun q => mm_chk cp_K 4 prog_6_method_8_code cp_66_l q.1 q.2) = true := by decide +kernel
set_option maxRecDepth 100000 in
theorem cp_66_ok : mm_MOk ww_tbl ww_nm cp_K cp_66 := ⟨ww_c2 181 rfl rfl, ww_c1 4 rfl rfl, rfl, by decide, ⟨by decide, by decide⟩, by decide, ⟨_, rfl⟩, by decide, List.all_eq_true.mp cp_66_c⟩
set_option maxRecDepth 100000 in
theorem cp_67_c : (cp_67_l.all fun q => mm_chk cp_K 4 prog_6_method_9_code cp_67_l q.1 q.2) = true := by decide +kernel
set_option maxRecDepth 100000 in
theorem cp_67_ok : mm_MOk ww_tbl ww_nm cp_K cp_67 := ⟨ww_c2 194 rfl rfl, ww_c1 4 rfl rfl, rfl, by decide, ⟨by decide, by decide⟩, by decide, ⟨_, rfl⟩, by decide, List.all_eq_true.mp cp_67_c⟩
set_option maxRecDepth 100000 in
theorem cp_68_c : (cp_68_l.all fun q => mm_chk cp_K 4 prog_6_method_10_code cp_68_l q.1 q.2) = true := by decide +kernel
set_option maxRecDepth 100000 in
theorem cp_68_ok : mm_MOk ww_tbl ww_nm cp_K cp_68 := ⟨ww_c2 198 rfl rfl, ww_c1 4 rfl rfl, rfl, by decide, ⟨by decide, by decide⟩, by decide, ⟨_, rfl⟩, by decide, List.all_eq_true.mp cp_68_c⟩
set_option maxRecDepth 100000 in
theorem cp_69_c : (cp_69_l.all fun q => mm_chk cp_K 4 prog_6_method_11_code cp_69_l q.1 q.2) = true := by decide +kernel
set_option maxRecDepth 100000 in
theorem cp_69_ok : mm_MOk ww_tbl ww_nm cp_K cp_69 := ⟨ww_c2 212 rfl rfl, ww_c1 4 rfl rfl, rfl, by decide, ⟨by decide, by decide⟩, by decide, ⟨_, rfl⟩, by decide, List.all_eq_true.mp cp_69_c⟩
set_option maxRecDepth 100000 in
theorem cp_70_c : (cp_70_l.all fun q => mm_chk cp_K 5 prog_1_method_2_code cp_70_l q.1 q.2) = true := by decide +kernel
set_option maxRecDepth 100000 in
theorem cp_70_ok : mm_MOk ww_tbl ww_nm cp_K cp_70 := ⟨ww_c1 188 rfl rfl, ww_c1 1 rfl rfl, rfl, by decide, ⟨by decide, by decide⟩, by decide, ⟨_, rfl⟩, by decide, List.all_eq_true.mp cp_70_c⟩
set_option maxRecDepth 100000 in
theorem cp_71_c : (cp_71_l.all fun q => mm_chk cp_K 5 prog_1_method_3_code cp_71_l q.1 q.2) = true := by decide +kernel
set_option maxRecDepth 100000 in
theorem cp_71_ok : mm_MOk ww_tbl ww_nm cp_K cp_71 := ⟨ww_c1 225 rfl rfl, ww_c1 1 rfl rfl, rfl, by decide, ⟨by decide, by decide⟩, by decide, ⟨_, rfl⟩, by decide, List.all_eq_true.mp cp_71_c⟩
set_option maxRecDepth 100000 in
theorem cp_72_c : (cp_72_l.all fun q => mm_chk cp_K 5 prog_1_method_4_code cp_72_l q.1 q.2) = true := by decide +kernel
set_option maxRecDepth 100000 in
theorem cp_72_ok : mm_MOk ww_tbl ww_nm cp_K cp_72 := ⟨ww_c2 20 rfl rfl, ww_c1 1 rfl rfl, rfl, by decide, ⟨by decide, by decide⟩, by decide, ⟨_, rfl⟩, by decide, List.all_eq_true.mp cp_72_c⟩
set_option maxRecDepth 100000 in
theorem cp_73_c : (cp_73_l.all fun q => mm_chk cp_K 5 prog_1_method_5_code cp_73_l q.1 q.2) = true := by decide +kernel
set_option maxRecDepth 100000 in
theorem cp_73_ok : mm_MOk ww_tbl ww_nm cp_K cp_73 := ⟨ww_c2 37 rfl rfl, ww_c1 1 rfl rfl, rfl, by decide, ⟨by decide, by decide⟩, by decide, ⟨_, rfl⟩, by decide, List.all_eq_true.mp cp_73_c⟩
set_option maxRecDepth 100000 in
theorem cp_74_c : (cp_74_l.all fun q => mm_chk cp_K 5 prog_1_method_6_code cp_74_l q.1 q.2) = true := by decide +kernel
set_option maxRecDepth 100000 in
theorem cp_74_ok : mm_MOk ww_tbl ww_nm cp_K cp_74 := ⟨ww_c2 58 rfl rfl, ww_c1 1 rfl rfl, rfl, by decide, ⟨by decide, by decide⟩, by decide, ⟨_, rfl⟩, by decide, List.all_eq_true.mp cp_74_c⟩
set_option maxRecDepth 100000 in
theorem cp_75_c : (cp_75_l.all fun q => mm_chk cp_K 5 prog_1_method_7_code cp_75_l q.1 q.2) = true := by decide +kernel
set_option maxRecDepth 100000 in
theorem cp_75_ok : mm_MOk ww_tbl ww_nm cp_K cp_75 := ⟨ww_c2 79 rfl rfl, ww_c1 1 rfl rfl, rfl, by decide, ⟨by decide, by decide⟩, by decide, ⟨_, rfl⟩, by decide, List.all_eq_true.mp cp_75_c⟩
set_option maxRecDepth 100000 in
theorem cp_76_c : (cp_76_l.all fun q => mm_chk cp_K 5 prog_1_method_8_code cp_76_l q.1 q.2) = true := by decide +kernel
set_option maxRecDepth 100000 in
theorem cp_76_ok : mm_MOk ww_tbl ww_nm cp_K cp_76 := ⟨ww_c2 94 rfl rfl, ww_c1 1 rfl rfl, rfl, by decide, ⟨by decide, by decide⟩, by decide, ⟨_, rfl⟩, by decide, List.all_eq_true.mp cp_76_c⟩
set_option maxRecDepth 100000 in
theorem cp_77_c : (cp_77_l.all fun q => mm_chk cp_K 5 prog_1_method_9_code cp_77_l q.1 q.2) = true := by decide +kernel
set_option maxRecDepth 100000 in
theorem cp_77_ok : mm_MOk ww_tbl ww_nm cp_K cp_77 := ⟨ww_c2 118 rfl rfl, ww_c1 1 rfl rfl, rfl, by decide, ⟨by decide, by decide⟩, by decide, ⟨_, rfl⟩, by decide, List.all_eq_true.mp cp_77_c⟩
set_option maxRecDepth 100000 in
theorem cp_78_c : (cp_78_l.all fun q => mm_chk cp_K 5 prog_1_method_10_code cp_78_l q.1 q.2) = true := by decide +kernel
set_option maxRecDepth 100000 in
theorem cp_78_ok : mm_MOk ww_tbl ww_nm cp_K cp_78 := ⟨ww_c2 137 rfl rfl, ww_c1 1 rfl rfl, rfl, by decide, ⟨by decide, by decide⟩, by decide, ⟨_, rfl⟩, by decide, List.all_eq_true.mp cp_78_c⟩
set_option maxRecDepth 100000 in
theorem cp_79_c : (cp_79_l.all fun q => mm_chk cp_K 5 prog_1_method_11_code cp_79_l q.1 q.2) = true := by decide +kernel
set_option maxRecDepth 100000 in
theorem cp_79_ok : mm_MOk ww_tbl ww_nm cp_K cp_79 := ⟨ww_c2 230 rfl rfl, ww_c1 1 rfl rfl, rfl, by decide, ⟨by decide, by decide⟩, by decide, ⟨_, rfl⟩, by decide, List.all_eq_true.mp cp_79_c⟩
set_option maxRecDepth 100000 in
theorem cp_80_c : (cp_80_l.all fun q => mm_chk cp_K 5 prog_1_method_12_code cp_80_l q.1 q.2) = true := by decide +kernel
set_option maxRecDepth 100000 in
theorem cp_80_ok : mm_MOk ww_tbl ww_nm cp_K cp_80 := ⟨ww_c2 236 rfl rfl, ww_c1 1 rfl rfl, rfl, by decide, ⟨by decide, by decide⟩, by decide, ⟨_, rfl⟩, by decide, List.all_eq_true.mp cp_80_c⟩
set_option maxRecDepth 100000 in
theorem cp_81_c : (cp_81_l.all fun q => mm_chk cp_K 5 prog_1_method_13_code cp_81_l q.1 q.2) = true := by decide +kernel
set_option maxRecDepth 100000 in
theorem cp_81_ok : mm_MOk ww_tbl ww_nm cp_K cp_81 := ⟨ww_c3 7 rfl rfl, ww_c1 1 rfl rfl, rfl, by decide, ⟨by decide, by decide⟩, by decide, ⟨_, rfl⟩, by decide, List.all_eq_true.mp cp_81_c⟩
set_option maxRecDepth 100000 in
theorem cp_82_c : (cp_82_l.all fun q => mm_chk cp_K 5 prog_1_method_14_code cp_82_l q.1 q.2) = true := by decide +kernel
set_option maxRecDepth 100000 in
theorem cp_82_ok : mm_MOk ww_tbl ww_nm cp_K cp_82 := ⟨ww_c3 36 rfl rfl, ww_c1 1 rfl rfl, rfl, by decide, ⟨by decide, by decide⟩, by decide, ⟨_, rfl⟩, by decide, List.all_eq_true.mp cp_82_c⟩
set_option maxRecDepth 100000 in
theorem cp_83_c : (cp_83_l.all fun q => mm_chk cp_K 5 prog_1_method_15_code cp_83_l q.1 q.2) = true := by decide +kernel
set_option maxRecDepth 100000 in
theorem cp_83_ok : mm_MOk ww_tbl ww_nm cp_K cp_83 := ⟨ww_c3 87 rfl rfl, ww_c1 1 rfl rfl, rfl, by decide, ⟨by decide, by decide⟩, by decide, ⟨_, rfl⟩, by decide, List.all_eq_true.mp cp_83_c⟩
set_option maxRecDepth 100000 in
theorem cp_84_c : (cp_84_l.all fun q => mm_chk cp_K 5 prog_1_method_16_code cp_84_l q.1 q.2) = true := by decide +kernel
set_option maxRecDepth 100000 in
theorem cp_84_ok : mm_MOk ww_tbl ww_nm cp_K cp_84 := ⟨ww_c3 101 rfl rfl, ww_c1 1 rfl rfl, rfl, by decide, ⟨by decide, by decide⟩, by decide, ⟨_, rfl⟩, by decide, List.all_eq_true.mp cp_84_c⟩
set_option maxRecDepth 100000 in
theorem cp_85_c : (cp_85_l.all fun q => mm_chk cp_K 5 prog_1_method_17_code cp_85_l q.1 q.2) = true := by decide +kernel
set_option maxRecDepth 100000 in
theorem cp_85_ok : mm_MOk ww_tbl ww_nm cp_K cp_85 := ⟨ww_c3 113 rfl rfl, ww_c1 1 rfl rfl, rfl, by decide, ⟨by decide, by decide⟩, by decide, ⟨_, rfl⟩, by decide, List.all_eq_true.mp cp_85_c⟩
set_option maxRecDepth 100000 in
theorem cp_86_c : (cp_86_l.all fun q => mm_chk cp_K 5 prog_1_method_18_code cp_86_l q.1 q.2) = true := by decide +kernel
set_option maxRecDepth 100000 in
theorem cp_86_ok : mm_MOk ww_tbl ww_nm cp_K cp_86 := ⟨ww_c3 121 rfl rfl, ww_c1 1 rfl rfl, rfl, by decide, ⟨by decide, by decide⟩, by decide, ⟨_, rfl⟩, by decide, List.all_eq_true.mp cp_86_c⟩
set_option maxRecDepth 100000 in
theorem cp_87_c : (cp_87_l.all fun q => mm_chk cp_K 5 prog_1_method_19_code cp_87_l q.1 q.2) = true := by decide +kernel
set_option maxRecDepth 100000 in
theorem cp_87_ok : mm_MOk ww_tbl ww_nm cp_K cp_87 := ⟨ww_c3 125 rfl rfl, ww_c1 1 rfl rfl, rfl, by decide, ⟨by decide, by decide⟩, by decide, ⟨_, rfl⟩, by decide, List.all_eq_true.mp cp_87_c⟩
set_option maxRecDepth 100000 in
theorem cp_88_c : (cp_88_l.all fun q => mm_chk cp_K 5 prog_1_method_20_code cp_88_l q.1 q.2) = true := by decide +kernel
set_option maxRecDepth 100000 in
theorem cp_88_ok : mm_MOk ww_tbl ww_nm cp_K cp_88 := ⟨ww_c3 129 rfl rfl, ww_c1 1 rfl rfl, rfl, by decide, ⟨by decide, by decide⟩, by decide, ⟨_, rfl⟩, by decide, List.all_eq_true.mp cp_88_c⟩
set_option maxRecDepth 100000 in
theorem cp_89_c : (cp_89_l.all fun q => mm_chk cp_K 5 prog_1_method_21_code cp_89_l q.1 q.2) = true := by decide +kernel
set_option maxRecDepth 100000 in
theorem cp_89_ok : mm_MOk ww_tbl ww_nm cp_K cp_89 := ⟨ww_c3 137 rfl rfl, ww_c1 1 rfl rfl, rfl, by decide, ⟨by decide, by decide⟩, by decide, ⟨_, rfl⟩, by decide, List.all_eq_true.mp cp_89_c⟩
set_option maxRecDepth 100000 in
theorem cp_90_c : (cp_90_l.all fun q => mm_chk cp_K 5 prog_1_method_22_code cp_90_l q.1 q.2) = true := by decide +kernel
set_option maxRecDepth 100000 in
theorem cp_90_ok : mm_MOk ww_tbl ww_nm cp_K cp_90 := ⟨ww_c2 239 rfl rfl, ww_c1 1 rfl rfl, rfl, by decide, ⟨by decide, by decide⟩, by decide, ⟨_, rfl⟩, by decide, List.all_eq_true.mp cp_90_c⟩
set_option maxRecDepth 100000 in
theorem cp_91_c : (cp_91_l.all fun q => mm_chk cp_K 5 prog_1_method_23_code cp_91_l q.1 q.2) = true := by decide +kernel
set_option maxRecDepth 100000 in
theorem cp_91_ok : mm_MOk ww_tbl ww_nm cp_K cp_91 := ⟨ww_c1 239 rfl rfl, ww_c1 1 rfl rfl, rfl, by decide, ⟨by decide, by decide⟩, by decide, ⟨_, rfl⟩, by decide, List.all_eq_true.mp cp_91_c⟩
set_option maxRecDepth 100000 in
theorem cp_92_c : (cp_92_l.all fun q => mm_chk cp_K 5 prog_1_method_24_code cp_92_l q.1 q.2) = true := by decide +kernel
set_option maxRecDepth 100000 in
theorem cp_92_ok : mm_MOk ww_tbl ww_nm cp_K cp_92 := ⟨ww_c1 236 rfl rfl, ww_c1 1 rfl rfl, rfl, by decide, ⟨by decide, by decide⟩, by decide, ⟨_, rfl⟩, by decide, List.all_eq_true.mp cp_92_c⟩
set_option maxRecDepth 100000 in
theorem cp_93_c : (cp_93_l.all fun q => mm_chk cp_K 5 prog_1_method_25_code cp_93_l q.1 q.2) = true := by decide +kernel
set_option maxRecDepth 100000 in
theorem cp_93_ok : mm_MOk ww_tbl ww_nm cp_K cp_93 := ⟨ww_c1 233 rfl rfl, ww_c1 1 rfl rfl, rfl, by decide, ⟨by decide, by decide⟩, by decide, ⟨_, rfl⟩, by decide, List.all_eq_true.mp cp_93_c⟩
set_option maxRecDepth 100000 in
theorem cp_94_c : (cp_94_l.all fun q => mm_chk cp_K 5 prog_1_method_26_code cp_94_l q.1 q.2) = true := by decide +kernel
set_option maxRecDepth 100000 in
theorem cp_94_ok : mm_MOk ww_tbl ww_nm cp_K cp_94 := ⟨ww_c2 42 rfl rfl, ww_c1 1 rfl rfl, rfl, by decide, ⟨by decide, by decide⟩, by decide, ⟨_, rfl⟩, by decide, List.all_eq_true.mp cp_94_c⟩
set_option maxRecDepth 100000 in
theorem cp_95_c : (cp_95_l.all fun q => mm_chk cp_K 5 prog_1_method_27_code cp_95_l q.1 q.2) = true := by decide +kernel
set_option maxRecDepth 100000 in
theorem cp_95_ok : mm_MOk ww_tbl ww_nm cp_K cp_95 := ⟨ww_c3 68 rfl rfl, ww_c1 1 rfl rfl, rfl, by decide, ⟨by decide, by decide⟩, by decide, ⟨_, rfl⟩, by decide, List.all_eq_true.mp cp_95_c⟩
set_option maxRecDepth 100000 in
theorem cp_96_c : (cp_96_l.all fun q => mm_chk cp_K 5 prog_1_method_28_code cp_96_l q.1 q.2) = true := by decide +kernel
set_option maxRecDepth 100000 in
theorem cp_96_ok : mm_MOk ww_tbl ww_nm cp_K cp_96 := ⟨ww_c3 41 rfl rfl, ww_c1 1 rfl rfl, rfl, by decide, ⟨by decide, by decide⟩, by decide, ⟨_, rfl⟩, by decide, List.all_eq_true.mp cp_96_c⟩
set_option maxRecDepth 100000 in
theorem cp_97_c : (cp_97_l.all fun q => mm_chk cp_K 5 prog_1_method_29_code cp_97_l q.1 q.2) = true := by decide +kernel
set_option maxRecDepth 100000 in
theorem cp_97_ok : mm_MOk ww_tbl ww_nm cp_K cp_97 := ⟨ww_c3 49 rfl rfl, ww_c1 1 rfl rfl, rfl, by decide, ⟨by decide, by decide⟩, by decide, ⟨_, rfl⟩, by decide, List.all_eq_true.mp cp_97_c⟩
set_option maxRecDepth 100000 in
theorem cp_98_c : (cp_98_l.all fun q => mm_chk cp_K 5 prog_1_method_30_code cp_98_l q.1 q.2) = true := by decide +kernel
set_option maxRecDepth 100000 in
theorem cp_98_ok : mm_MOk ww_tbl ww_nm cp_K cp_98 := ⟨ww_c3 15 rfl rfl, ww_c1 1 rfl rfl, rfl, by decide, ⟨by decide, by decide⟩, by decide, ⟨_, rfl⟩, by decide, List.all_eq_true.mp cp_98_c⟩
set_option maxRecDepth 100000 in
theorem cp_99_c : (cp_99_l.all fun q => mm_chk cp_K 5 prog_1_method_31_code cp_99_l q.1 q.2) = true := by decide +kernel
set_option maxRecDepth 100000 in
theorem cp_99_ok : mm_MOk ww_tbl ww_nm cp_K cp_99 := ⟨ww_c3 117 rfl rfl, ww_c1 1 rfl rfl, rfl, by decide, ⟨by decide, by decide⟩, by decide, ⟨_, rfl⟩, by decide, List.all_eq_true.mp cp_99_c⟩
set_option maxRecDepth 100000 in
theorem cp_100_c : (cp_100_l.all fun q => mm_chk cp_K 7 prog_9_method_49_code cp_100_l q.1 q.2) = true := by decide +kernel
set_option maxRecDepth 100000 in
theorem cp_100_ok : mm_MOk ww_tbl ww_nm cp_K cp_100 := ⟨ww_c2 111 rfl rfl, ww_c1 9 rfl rfl, rfl, by decide, ⟨by decide, by decide⟩, by decide, ⟨_, rfl⟩, by decide, List.all_eq_true.mp cp_100_c⟩
set_option maxRecDepth 100000 in
theorem cp_Ms_0 : ∀ q ∈ ([cp_0, cp_1, cp_2, cp_3, cp_4, cp_5, cp_6, cp_7, cp_8, cp_9, cp_10, cp_11] : List _), mm_MOk ww_tbl ww_nm cp_K q := List.forall_mem_cons.mpr ⟨cp_0_ok, List.forall_mem_cons.mpr ⟨cp_1_ok, List.forall_mem_cons.mpr ⟨cp_2_ok, List.forall_mem_cons.mpr ⟨cp_3_ok, List.forall_mem_cons.mpr ⟨cp_4_ok, List.forall_mem_cons.mpr ⟨cp_5_ok, List.forall_mem_cons.mpr ⟨cp_6_ok, List.forall_mem_cons.mpr ⟨cp_7_ok, List.forall_mem_cons.mpr ⟨cp_8_ok, List.forall_mem_cons.mpr ⟨cp_9_ok, List.forall_mem_cons.mpr ⟨cp_10_ok, List.forall_mem_cons.mpr ⟨cp_11_ok, fun _ h => absurd h List.not_mem_nil⟩⟩⟩⟩⟩⟩⟩⟩⟩⟩⟩⟩
set_option maxRecDepth 100000 in
theorem cp_Ms_1 : ∀ q ∈ ([cp_12, cp_13, cp_14, cp_15, cp_16, cp_17, cp_18, cp_19, cp_20, cp_21, cp_22, cp_23] : List _), mm_MOk ww_tbl ww_nm cp_K q := List.forall_mem_cons.mpr ⟨cp_12_ok, List.forall_mem_cons.mpr ⟨cp_13_ok, List.forall_mem_cons.mpr ⟨cp_14_ok, List.forall_mem_cons.mpr ⟨cp_15_ok, List.forall_mem_cons.mpr ⟨cp_16_ok, List.forall_mem_cons.mpr ⟨cp_17_ok, List.forall_mem_cons.mpr ⟨cp_18_ok, List.forall_mem_cons.mpr ⟨cp_19_ok, List.forall_mem_cons.mpr ⟨cp_20_ok, List.forall_mem_cons.mpr ⟨cp_21_ok, List.forall_mem_cons.mpr ⟨cp_22_ok, List.forall_mem_cons.mpr ⟨cp_23_ok, fun _ h => absurd h List.not_mem_nil⟩⟩⟩⟩⟩⟩⟩⟩⟩⟩⟩⟩
set_option maxRecDepth 100000 in
theorem cp_Ms_2 : ∀ q ∈ ([cp_24, cp_25, cp_26, cp_27, cp_28, cp_29, cp_30, cp_31, cp_32, cp_33, cp_34, cp_35] : List _), mm_MOk ww_tbl ww_nm cp_K q := List.forall_mem_cons.mpr ⟨cp_24_ok, List.forall_mem_cons.mpr ⟨cp_25_ok, List.forall_mem_cons.mpr ⟨cp_26_ok, List.forall_mem_cons.mpr ⟨cp_27_ok, List.forall_mem_cons.mpr ⟨cp_28_ok, List.forall_mem_cons.mpr ⟨cp_29_ok, List.forall_mem_cons.mpr ⟨cp_30_ok, List.forall_mem_cons.mpr ⟨cp_31_ok, List.forall_mem_cons.mpr ⟨cp_32_ok, List.forall_mem_cons.mpr ⟨cp_33_ok, List.forall_mem_cons.mpr ⟨cp_34_ok, List.forall_mem_cons.mpr ⟨cp_35_ok, fun _ h => absurd h List.not_mem_nil⟩⟩⟩⟩⟩⟩⟩⟩⟩⟩⟩⟩
set_option maxRecDepth 100000 in
theorem cp_Ms_3 : ∀ q ∈ ([cp_36, cp_37, cp_38, cp_39, cp_40, cp_41, cp_42, cp_43, cp_44, cp_45, cp_46, cp_47] : List _), mm_MOk ww_tbl ww_nm cp_K q := List.forall_mem_cons.mpr ⟨cp_36_ok, List.forall_mem_cons.mpr ⟨cp_37_ok, List.forall_mem_cons.mpr ⟨cp_38_ok, List.forall_mem_cons.mpr ⟨cp_39_ok, List.forall_mem_cons.mpr ⟨cp_40_ok, List.forall_mem_cons.mpr ⟨cp_41_ok, List.forall_mem_cons.mpr ⟨cp_42_ok, List.forall_mem_cons.mpr ⟨cp_43_ok, List.forall_mem_cons.mpr ⟨cp_44_ok, List.forall_mem_cons.mpr ⟨cp_45_ok, List.forall_mem_cons.mpr ⟨cp_46_ok, List.forall_mem_cons.mpr ⟨cp_47_ok, fun _ h => absurd h List.not_mem_nil⟩⟩⟩⟩⟩⟩⟩⟩⟩⟩⟩⟩
set_option maxRecDepth 100000 in
theorem cp_Ms_4 : ∀ q ∈ ([cp_48, cp_49, cp_50, cp_51, cp_52, cp_53, cp_54, cp_55, cp_56, cp_57, cp_58, cp_59] : List _), mm_MOk ww_tbl ww_nm cp_K q := List.forall_mem_cons.mpr ⟨cp_48_ok, List.forall_mem_cons.mpr ⟨cp_49_ok, List.forall_mem_cons.mpr ⟨cp_50_ok, List.forall_mem_cons.mpr ⟨cp_51_ok, List.forall_mem_cons.mpr ⟨cp_52_ok, List.forall_mem_cons.mpr ⟨cp_53_ok, List.forall_mem_cons.mpr ⟨cp_54_ok, List.forall_mem_cons.mpr ⟨cp_55_ok, List.forall_mem_cons.mpr ⟨cp_56_ok, List.forall_mem_cons.mpr ⟨cp_57_ok, List.forall_mem_cons.mpr ⟨cp_58_ok, List.forall_mem_cons.mpr ⟨cp_59_ok, fun _ h => absurd h List.not_mem_nil⟩⟩⟩⟩⟩⟩⟩⟩⟩⟩⟩⟩
set_option maxRecDepth 100000 in
theorem cp_Ms_5 : ∀ q ∈ ([cp_60, cp_61, cp_62, cp_63, cp_64, cp_65, cp_66, cp_67, cp_68, cp_69, cp_70, cp_71] : List _), mm_MOk ww_tbl ww_nm cp_K q := List.forall_mem_cons.mpr ⟨cp_60_ok, List.forall_mem_cons.mpr ⟨cp_61_ok, List.forall_mem_cons.mpr ⟨cp_62_ok, List.forall_mem_cons.mpr ⟨cp_63_ok, List.forall_mem_cons.mpr ⟨cp_64_ok, List.forall_mem_cons.mpr ⟨cp_65_ok, List.forall_mem_cons.mpr ⟨cp_66_ok, List.forall_mem_cons.mpr ⟨cp_67_ok, List.forall_mem_cons.mpr ⟨cp_68_ok, List.forall_mem_cons.mpr ⟨cp_69_ok, List.forall_mem_cons.mpr ⟨cp_70_ok, List.forall_mem_cons.mpr ⟨cp_71_ok, fun _ h => absurd h List.not_mem_nil⟩⟩⟩⟩⟩⟩⟩⟩⟩⟩⟩⟩
set_option maxRecDepth 100000 in
theorem cp_Ms_6 : ∀ q ∈ ([cp_72, cp_73, cp_74, cp_75, cp_76, cp_77, cp_78, cp_79, cp_80, cp_81, cp_82, cp_83] : List _), mm_MOk ww_tbl ww_nm cp_K q := List.forall_mem_cons.mpr ⟨cp_72_ok, List.forall_mem_cons.mpr ⟨cp_73_ok, List.forall_mem_cons.mpr ⟨cp_74_ok, List.forall_mem_cons.mpr ⟨cp_75_ok, List.forall_mem_cons.mpr ⟨cp_76_ok, List.forall_mem_cons.mpr ⟨cp_77_ok, List.forall_mem_cons.mpr ⟨cp_78_ok, List.forall_mem_cons.mpr ⟨cp_79_ok, List.forall_mem_cons.mpr ⟨cp_80_ok, List.forall_mem_cons.mpr ⟨cp_81_ok, List.forall_mem_cons.mpr ⟨cp_82_ok, List.forall_mem_cons.mpr ⟨cp_83_ok, fun _ h => absurd h List.not_mem_nil⟩⟩⟩⟩⟩⟩⟩⟩⟩⟩⟩⟩
set_option maxRecDepth 100000 in
theorem cp_Ms_7 : ∀ q ∈ ([cp_84, cp_85, cp_86, cp_87, cp_88, cp_89, cp_90, cp_91, cp_92, cp_93, cp_94, cp_95] : List _), mm_MOk ww_tbl ww_nm cp_K q := List.forall_mem_cons.mpr ⟨cp_84_ok, List.forall_mem_cons.mpr ⟨cp_85_ok, List.forall_mem_cons.mpr ⟨cp_86_ok, List.forall_mem_cons.mpr ⟨cp_87_ok, List.forall_mem_cons.mpr ⟨cp_88_ok, List.forall_mem_cons.mpr ⟨cp_89_ok, List.forall_mem_cons.mpr ⟨cp_90_ok, List.forall_mem_cons.mpr ⟨cp_91_ok, List.forall_mem_cons.mpr ⟨cp_92_ok, List.forall_mem_cons.mpr ⟨cp_93_ok, List.forall_mem_cons.mpr ⟨cp_94_ok, List.forall_mem_cons.mpr ⟨cp_95_ok, fun _ h => absurd h List.not_mem_nil⟩⟩⟩⟩⟩⟩⟩⟩⟩⟩⟩⟩
set_option maxRecDepth 100000 in
theorem cp_Ms_8 : ∀ q ∈ ([cp_96, cp_97, cp_98, cp_99, cp_100] : List _), mm_MOk ww_tbl ww_nm cp_K q := List.forall_mem_cons.mpr ⟨cp_96_ok, List.forall_mem_cons.mpr ⟨cp_97_ok, List.forall_mem_cons.mpr ⟨cp_98_ok, List.forall_mem_cons.mpr ⟨cp_99_ok, List.forall_mem_cons.mpr ⟨cp_100_ok, fun _ h => absurd h List.not_mem_nil⟩⟩⟩⟩⟩
set_option maxRecDepth 100000 in
theorem cp_Ms : ∀ q ∈ (([cp_0, cp_1, cp_2, cp_3, cp_4, cp_5, cp_6, cp_7, cp_8, cp_9, cp_10, cp_11] : List _) ++ (([cp_12, cp_13, cp_14, cp_15, cp_16, cp_17, cp_18, cp_19, cp_20, cp_21, cp_22, cp_23] : List _) ++ (([cp_24, cp_25, cp_26, cp_27, cp_28, cp_29, cp_30, cp_31, cp_32, cp_33, cp_34, cp_35] : List _) ++ (([cp_36, cp_37, cp_38, cp_39, cp_40, cp_41, cp_42, cp_43, cp_44, cp_45, cp_46, cp_47] : List _) ++ (([cp_48, cp_49, cp_50, cp_51, cp_52, cp_53, cp_54, cp_55, cp_56, cp_57, cp_58, cp_59] : List _) ++ (([cp_60, cp_61, cp_62, cp_63, cp_64, cp_65, cp_66, cp_67, cp_68, cp_69, cp_70, cp_71] : List _) ++ (([cp_72, cp_73, cp_74, cp_75, cp_76, cp_77, cp_78, cp_79, cp_80, cp_81, cp_82, cp_83] : List _) ++ (([cp_84, cp_85, cp_86, cp_87, cp_88, cp_89, cp_90, cp_91, cp_92, cp_93, cp_94, cp_95] : List _) ++ (([cp_96, cp_97, cp_98, cp_99, cp_100] : List _)))))))))), mm_MOk ww_tbl ww_nm cp_K q := List.forall_mem_append.mpr ⟨cp_Ms_0, List.forall_mem_append.mpr ⟨cp_Ms_1, List.forall_mem_append.mpr ⟨cp_Ms_2, List.forall_mem_append.mpr ⟨cp_Ms_3, List.forall_mem_append.mpr ⟨cp_Ms_4, List.forall_mem_append.mpr ⟨cp_Ms_5, List.forall_mem_append.mpr ⟨cp_Ms_6, List.forall_mem_append.mpr ⟨cp_Ms_7, cp_Ms_8⟩⟩⟩⟩⟩⟩⟩⟩
set_option maxRecDepth 100000 in
theorem cp_Fs_0 : ∀ q ∈ ([(0, 9, 0, 2), (0, 15, 0, 3), (0, 18, 0, 4), (0, 21, 0, 5), (0, 24, 0, 6), (0, 27, 0, 7), (0, 31, 0, 8), (0, 36, 0, 9), (0, 39, 0, 10), (0, 42, 0, 0), (0, 46, 0, 1), (1, 9, 1, 1)] : List _), mm_FOk ww_tbl ww_cl ww_nm q := List.forall_mem_cons.mpr ⟨⟨_, _, _, rfl, by decide, ww_c1 65 rfl rfl⟩, List.forall_mem_cons.mpr ⟨⟨_, _, _, rfl, by decide, ww_c1 66 rfl rfl⟩, List.forall_mem_cons.mpr ⟨⟨_, _, _, rfl, by decide, ww_c1 67 rfl rfl⟩, List.forall_mem_cons.mpr ⟨⟨_, _, _, rfl, by decide, ww_c1 68 rfl rfl⟩, List.forall_mem_cons.mpr ⟨⟨_, _, _, rfl, by decide, ww_c1 69 rfl rfl⟩, List.forall_mem_cons.mpr ⟨⟨_, _, _, rfl, by decide, ww_c1 70 rfl rfl⟩, List.forall_mem_cons.mpr ⟨⟨_, _, _, rfl, by decide, ww_c1 71 rfl rfl⟩, List.forall_mem_cons.mpr ⟨⟨_, _, _, rfl, by decide, ww_c1 72 rfl rfl⟩, List.forall_mem_cons.mpr ⟨⟨_, _, _, rfl, by decide, ww_c1 73 rfl rfl⟩, List.forall_mem_cons.mpr ⟨⟨_, _, _, rfl, by decide, ww_c1 63 rfl rfl⟩, List.forall_mem_cons.mpr ⟨⟨_, _, _, rfl, by decide, ww_c1 64 rfl rfl⟩, List.forall_mem_cons.mpr ⟨⟨_, _, _, rfl, by decide, ww_c1 25 rfl rfl⟩, fun _ h => absurd h List.not_mem_nil⟩⟩⟩⟩⟩⟩⟩⟩⟩⟩⟩⟩
set_option maxRecDepth 100000 in
theorem cp_Fs_1 : ∀ q ∈ ([(1, 15, 1, 2), (1, 18, 1, 3), (1, 22, 1, 4), (1, 25, 1, 5), (1, 28, 1, 6), (1, 31, 1, 7), (1, 35, 1, 0), (1, 56, 1, 8), (2, 9, 2, 0), (2, 17, 2, 1), (3, 9, 3, 3), (3, 15, 3, 4)] : List _), mm_FOk ww_tbl ww_cl ww_nm q := List.forall_mem_cons.mpr ⟨⟨_, _, _, rfl, by decide, ww_c1 26 rfl rfl⟩, List.forall_mem_cons.mpr ⟨⟨_, _, _, rfl, by decide, ww_c1 27 rfl rfl⟩, List.forall_mem_cons.mpr ⟨⟨_, _, _, rfl, by decide, ww_c1 28 rfl rfl⟩, List.forall_mem_cons.mpr ⟨⟨_, _, _, rfl, by decide, ww_c1 29 rfl rfl⟩, List.forall_mem_cons.mpr ⟨⟨_, _, _, rfl, by decide, ww_c1 30 rfl rfl⟩, List.forall_mem_cons.mpr ⟨⟨_, _, _, rfl, by decide, ww_c1 31 rfl rfl⟩, List.forall_mem_cons.mpr ⟨⟨_, _, _, rfl, by decide, ww_c1 24 rfl rfl⟩, List.forall_mem_cons.mpr ⟨⟨_, _, _, rfl, by decide, ww_c1 32 rfl rfl⟩, List.forall_mem_cons.mpr ⟨⟨_, _, _, rfl, by decide, ww_c1 159 rfl rfl⟩, List.forall_mem_cons.mpr ⟨⟨_, _, _, rfl, by decide, ww_c1 160 rfl rfl⟩, List.forall_mem_cons.mpr ⟨⟨_, _, _, rfl, by decide, ww_c1 130 rfl rfl⟩, List.forall_mem_cons.mpr ⟨⟨_, _, _, rfl, by decide, ww_c1 131 rfl rfl⟩, fun _ h => absurd h List.not_mem_nil⟩⟩⟩⟩⟩⟩⟩⟩⟩⟩⟩⟩
set_option maxRecDepth 100000 in
theorem cp_Fs_2 : ∀ q ∈ ([(3, 18, 3, 5), (3, 24, 3, 6), (3, 27, 3, 7), (3, 30, 3, 0), (3, 34, 3, 1), (3, 37, 3, 2), (4, 11, 4, 2), (4, 16, 4, 3), (4, 20, 4, 4), (4, 23, 4, 0), (4, 27, 4, 1), (5, 10, 5, 0)] : List _), mm_FOk ww_tbl ww_cl ww_nm q := List.forall_mem_cons.mpr ⟨⟨_, _, _, rfl, by decide, ww_c1 132 rfl rfl⟩, List.forall_mem_cons.mpr ⟨⟨_, _, _, rfl, by decide, ww_c1 133 rfl rfl⟩, List.forall_mem_cons.mpr ⟨⟨_, _, _, rfl, by decide, ww_c1 134 rfl rfl⟩, List.forall_mem_cons.mpr ⟨⟨_, _, _, rfl, by decide, ww_c1 127 rfl rfl⟩, List.forall_mem_cons.mpr ⟨⟨_, _, _, rfl, by decide, ww_c1 128 rfl rfl⟩, List.forall_mem_cons.mpr ⟨⟨_, _, _, rfl, by decide, ww_c1 129 rfl rfl⟩, List.forall_mem_cons.mpr ⟨⟨_, _, _, rfl, by decide, ww_c1 106 rfl rfl⟩, List.forall_mem_cons.mpr ⟨⟨_, _, _, rfl, by decide, ww_c1 107 rfl rfl⟩, List.forall_mem_cons.mpr ⟨⟨_, _, _, rfl, by decide, ww_c1 108 rfl rfl⟩, List.forall_mem_cons.mpr ⟨⟨_, _, _, rfl, by decide, ww_c1 104 rfl rfl⟩, List.forall_mem_cons.mpr ⟨⟨_, _, _, rfl, by decide, ww_c1 105 rfl rfl⟩, List.forall_mem_cons.mpr ⟨⟨_, _, _, rfl, by decide, ww_c1 166 rfl rfl⟩, fun _ h => absurd h List.not_mem_nil⟩⟩⟩⟩⟩⟩⟩⟩⟩⟩⟩⟩
set_option maxRecDepth 100000 in
theorem cp_Fs_3 : ∀ q ∈ ([(5, 21, 5, 1), (5, 30, 5, 2), (5, 37, 5, 3), (5, 44, 5, 4), (5, 48, 5, 5)] : List _), mm_FOk ww_tbl ww_cl ww_nm q := List.forall_mem_cons.mpr ⟨⟨_, _, _, rfl, by decide, ww_c1 167 rfl rfl⟩, List.forall_mem_cons.mpr ⟨⟨_, _, _, rfl, by decide, ww_c1 168 rfl rfl⟩, List.forall_mem_cons.mpr ⟨⟨_, _, _, rfl, by decide, ww_c1 169 rfl rfl⟩, List.forall_mem_cons.mpr ⟨⟨_, _, _, rfl, by decide, ww_c1 170 rfl rfl⟩, List.forall_mem_cons.mpr ⟨⟨_, _, _, rfl, by decide, ww_c1 171 rfl rfl⟩, fun _ h => absurd h List.not_mem_nil⟩⟩⟩⟩⟩
set_option maxRecDepth 100000 in
theorem cp_Fs : ∀ q ∈ (([(0, 9, 0, 2), (0, 15, 0, 3), (0, 18, 0, 4), (0, 21, 0, 5), (0, 24, 0, 6), (0, 27, 0, 7), (0, 31, 0, 8), (0, 36, 0, 9), (0, 39, 0, 10), (0, 42, 0, 0), (0, 46, 0, 1), (1, 9, 1, 1)] : List _) ++ (([(1, 15, 1, 2), (1, 18, 1, 3), (1, 22, 1, 4), (1, 25, 1, 5), (1, 28, 1, 6), (1, 31, 1, 7), (1, 35, 1, 0), (1, 56, 1, 8), (2, 9, 2, 0), (2, 17, 2, 1), (3, 9, 3, 3), (3, 15, 3, 4)] : List _) ++ (([(3, 18, 3, 5), (3, 24, 3, 6), (3, 27, 3, 7), (3, 30, 3, 0), (3, 34, 3, 1), (3, 37, 3, 2), (4, 11, 4, 2), (4, 16, 4, 3), (4, 20, 4, 4), (4, 23, 4, 0), (4, 27, 4, 1), (5, 10, 5, 0)] : List _) ++ (([(5, 21, 5, 1), (5, 30, 5, 2), (5, 37, 5, 3), (5, 44, 5, 4), (5, 48, 5, 5)] : List _))))), mm_FOk ww_tbl ww_cl ww_nm q := List.forall_mem_append.mpr ⟨cp_Fs_0, List.forall_mem_append.mpr ⟨cp_Fs_1, List.forall_mem_append.mpr ⟨cp_Fs_2, cp_Fs_3⟩⟩⟩
set_option maxRecDepth 100000 in
theorem cp_Vs_0 : ∀ q ∈ ([(0, 50, 0, 49), (0, 54, 1, 50), (0, 58, 15, 50), (0, 61, 11, 18), (0, 65, 12, 51), (0, 69, 20, 19), (0, 73, 21, 18), (0, 81, 18, 50), (0, 84, 23, 51), (0, 87, 34, 116), (0, 93, 22, 18), (1, 39, 38, 117)] : List _), mm_VOk ww_tbl ww_cl ww_nm cp_P q := List.forall_mem_cons.mpr ⟨⟨_, _, _, 0, rfl, ww_c2 8 rfl rfl, ww_c1 227 rfl rfl, ww_c1 228 rfl rfl, rfl, by decide +kernel, rfl, rfl⟩, List.forall_mem_cons.mpr ⟨⟨_, _, _, 1, rfl, ww_c2 13 rfl rfl, ww_c2 14 rfl rfl, ww_c2 15 rfl rfl, rfl, by decide +kernel, rfl, rfl⟩, List.forall_mem_cons.mpr ⟨⟨_, _, _, 1, rfl, ww_c2 33 rfl rfl, ww_c2 22 rfl rfl, ww_c2 23 rfl rfl, rfl, by decide +kernel, rfl, rfl⟩, List.forall_mem_cons.mpr ⟨⟨_, _, _, 1, rfl, ww_c2 160 rfl rfl, ww_c2 48 rfl rfl, ww_c2 49 rfl rfl, rfl, by decide +kernel, rfl, rfl⟩, List.forall_mem_cons.mpr ⟨⟨_, _, _, 2, rfl, ww_c2 156 rfl rfl, ww_c2 157 rfl rfl, ww_c2 158 rfl rfl, rfl, by decide +kernel, rfl, rfl⟩, List.forall_mem_cons.mpr ⟨⟨_, _, _, 2, rfl, ww_c2 123 rfl rfl, ww_c2 96 rfl rfl, ww_c2 97 rfl rfl, rfl, by decide +kernel, rfl, rfl⟩, List.forall_mem_cons.mpr ⟨⟨_, _, _, 1, rfl, ww_c2 124 rfl rfl, ww_c2 125 rfl rfl, ww_c2 126 rfl rfl, rfl, by decide +kernel, rfl, rfl⟩, List.forall_mem_cons.mpr ⟨⟨_, _, _, 1, rfl, ww_c2 99 rfl rfl, ww_c2 100 rfl rfl, ww_c2 101 rfl rfl, rfl, by decide +kernel, rfl, rfl⟩, List.forall_mem_cons.mpr ⟨⟨_, _, _, 2, rfl, ww_c2 103 rfl rfl, ww_c2 105 rfl rfl, ww_inS 6 rfl rfl, rfl, by decide +kernel, rfl, rfl⟩, List.forall_mem_cons.mpr ⟨⟨_, _, _, 3, rfl, ww_c2 108 rfl rfl, ww_c2 81 rfl rfl, ww_c2 82 rfl rfl, rfl, by decide +kernel, rfl, rfl⟩, List.forall_mem_cons.mpr ⟨⟨_, _, _, 1, rfl, ww_c2 128 rfl rfl, ww_c2 130 rfl rfl, ww_inS 7 rfl rfl, rfl, by decide +kernel, rfl, rfl⟩, List.forall_mem_cons.mpr ⟨⟨_, _, _, 4, rfl, ww_c1 197 rfl rfl, ww_c1 199 rfl rfl, ww_inS 0 rfl rfl, rfl, by decide +kernel, rfl, rfl⟩, fun _ h => absurd h List.not_mem_nil⟩⟩⟩⟩⟩⟩⟩⟩⟩⟩⟩⟩
set_option maxRecDepth 100000 in
theorem cp_Vs_1 : ∀ q ∈ ([(1, 49, 24, 113), (1, 53, 30, 83), (1, 59, 37, 66), (1, 65, 36, 99), (1, 69, 35, 116), (1, 73, 34, 116), (1, 80, 25, 114), (1, 84, 39, 117), (3, 40, 53, 242), (3, 44, 59, 195), (4, 31, 12, 51), (4, 37, 1, 50)] : List _), mm_VOk ww_tbl ww_cl ww_nm cp_P q := List.forall_mem_cons.mpr ⟨⟨_, _, _, 0, rfl, ww_c1 220 rfl rfl, ww_c1 190 rfl rfl, ww_c1 191 rfl rfl, rfl, by decide +kernel, rfl, rfl⟩, List.forall_mem_cons.mpr ⟨⟨_, _, _, 2, rfl, ww_c1 221 rfl rfl, ww_c1 210 rfl rfl, ww_c1 211 rfl rfl, rfl, by decide +kernel, rfl, rfl⟩, List.forall_mem_cons.mpr ⟨⟨_, _, _, 1, rfl, ww_c2 67 rfl rfl, ww_c2 69 rfl rfl, ww_inS 3 rfl rfl, rfl, by decide +kernel, rfl, rfl⟩, List.forall_mem_cons.mpr ⟨⟨_, _, _, 2, rfl, ww_c2 72 rfl rfl, ww_c2 74 rfl rfl, ww_inS 4 rfl rfl, rfl, by decide +kernel, rfl, rfl⟩, List.forall_mem_cons.mpr ⟨⟨_, _, _, 3, rfl, ww_c2 84 rfl rfl, ww_c2 86 rfl rfl, ww_inS 5 rfl rfl, rfl, by decide +kernel, rfl, rfl⟩, List.forall_mem_cons.mpr ⟨⟨_, _, _, 3, rfl, ww_c2 90 rfl rfl, ww_c2 81 rfl rfl, ww_c2 82 rfl rfl, rfl, by decide +kernel, rfl, rfl⟩, List.forall_mem_cons.mpr ⟨⟨_, _, _, 1, rfl, ww_c1 201 rfl rfl, ww_c1 202 rfl rfl, ww_c1 203 rfl rfl, rfl, by decide +kernel, rfl, rfl⟩, List.forall_mem_cons.mpr ⟨⟨_, _, _, 4, rfl, ww_c1 205 rfl rfl, ww_c1 207 rfl rfl, ww_inS 1 rfl rfl, rfl, by decide +kernel, rfl, rfl⟩, List.forall_mem_cons.mpr ⟨⟨_, _, _, 1, rfl, ww_c3 24 rfl rfl, ww_c3 25 rfl rfl, ww_c3 26 rfl rfl, rfl, by decide +kernel, rfl, rfl⟩, List.forall_mem_cons.mpr ⟨⟨_, _, _, 2, rfl, ww_c3 28 rfl rfl, ww_c3 21 rfl rfl, ww_c3 22 rfl rfl, rfl, by decide +kernel, rfl, rfl⟩, List.forall_mem_cons.mpr ⟨⟨_, _, _, 2, rfl, ww_c3 59 rfl rfl, ww_c2 157 rfl rfl, ww_c2 158 rfl rfl, rfl, by decide +kernel, rfl, rfl⟩, List.forall_mem_cons.mpr ⟨⟨_, _, _, 1, rfl, ww_c2 186 rfl rfl, ww_c2 14 rfl rfl, ww_c2 15 rfl rfl, rfl, by decide +kernel, rfl, rfl⟩, fun _ h => absurd h List.not_mem_nil⟩⟩⟩⟩⟩⟩⟩⟩⟩⟩⟩⟩
set_option maxRecDepth 100000 in
theorem cp_Vs_2 : ∀ q ∈ ([(4, 41, 2, 17), (4, 45, 18, 50), (4, 48, 64, 274), (4, 52, 17, 50), (4, 55, 7, 18), (4, 61, 66, 258), (4, 65, 67, 305), (4, 69, 68, 305), (4, 72, 69, 274), (4, 75, 11, 18), (4, 78, 13, 19), (4, 82, 14, 19)] : List _), mm_VOk ww_tbl ww_cl ww_nm cp_P q := List.forall_mem_cons.mpr ⟨⟨_, _, _, 0, rfl, ww_c2 142 rfl rfl, ww_c2 143 rfl rfl, ww_c2 144 rfl rfl, rfl, by decide +kernel, rfl, rfl⟩, List.forall_mem_cons.mpr ⟨⟨_, _, _, 1, rfl, ww_c2 146 rfl rfl, ww_c2 100 rfl rfl, ww_c2 101 rfl rfl, rfl, by decide +kernel, rfl, rfl⟩, List.forall_mem_cons.mpr ⟨⟨_, _, _, 1, rfl, ww_c2 147 rfl rfl, ww_c2 149 rfl rfl, ww_inS 8 rfl rfl, rfl, by decide +kernel, rfl, rfl⟩, List.forall_mem_cons.mpr ⟨⟨_, _, _, 1, rfl, ww_c2 166 rfl rfl, ww_c2 167 rfl rfl, ww_c2 168 rfl rfl, rfl, by decide +kernel, rfl, rfl⟩, List.forall_mem_cons.mpr ⟨⟨_, _, _, 1, rfl, ww_c2 174 rfl rfl, ww_c2 60 rfl rfl, ww_c2 61 rfl rfl, rfl, by decide +kernel, rfl, rfl⟩, List.forall_mem_cons.mpr ⟨⟨_, _, _, 1, rfl, ww_c2 178 rfl rfl, ww_c2 180 rfl rfl, ww_inS 9 rfl rfl, rfl, by decide +kernel, rfl, rfl⟩, List.forall_mem_cons.mpr ⟨⟨_, _, _, 0, rfl, ww_c2 191 rfl rfl, ww_c2 193 rfl rfl, ww_inS 10 rfl rfl, rfl, by decide +kernel, rfl, rfl⟩, List.forall_mem_cons.mpr ⟨⟨_, _, _, 0, rfl, ww_c2 195 rfl rfl, ww_c2 197 rfl rfl, ww_inS 11 rfl rfl, rfl, by decide +kernel, rfl, rfl⟩, List.forall_mem_cons.mpr ⟨⟨_, _, _, 1, rfl, ww_c2 209 rfl rfl, ww_c2 211 rfl rfl, ww_inS 12 rfl rfl, rfl, by decide +kernel, rfl, rfl⟩, List.forall_mem_cons.mpr ⟨⟨_, _, _, 1, rfl, ww_c2 151 rfl rfl, ww_c2 48 rfl rfl, ww_c2 49 rfl rfl, rfl, by decide +kernel, rfl, rfl⟩, List.forall_mem_cons.mpr ⟨⟨_, _, _, 2, rfl, ww_c2 152 rfl rfl, ww_c2 153 rfl rfl, ww_c2 154 rfl rfl, rfl, by decide +kernel, rfl, rfl⟩, List.forall_mem_cons.mpr ⟨⟨_, _, _, 2, rfl, ww_c2 161 rfl rfl, ww_c2 162 rfl rfl, ww_c2 163 rfl rfl, rfl, by decide +kernel, rfl, rfl⟩, fun _ h => absurd h List.not_mem_nil⟩⟩⟩⟩⟩⟩⟩⟩⟩⟩⟩⟩
set_option maxRecDepth 100000 in
theorem cp_Vs_3 : ∀ q ∈ ([(4, 85, 19, 19), (4, 88, 26, 114), (4, 93, 10, 18), (4, 96, 16, 50), (4, 99, 8, 18), (4, 102, 21, 18), (4, 110, 61, 274), (5, 52, 24, 113), (5, 56, 27, 115), (5, 60, 30, 83), (5, 64, 31, 85), (5, 68, 0, 49)] : List _), mm_VOk ww_tbl ww_cl ww_nm cp_P q := List.forall_mem_cons.mpr ⟨⟨_, _, _, 2, rfl, ww_c2 165 rfl rfl, ww_c2 120 rfl rfl, ww_c2 121 rfl rfl, rfl, by decide +kernel, rfl, rfl⟩, List.forall_mem_cons.mpr ⟨⟨_, _, _, 1, rfl, ww_c2 170 rfl rfl, ww_c2 171 rfl rfl, ww_c2 172 rfl rfl, rfl, by decide +kernel, rfl, rfl⟩, List.forall_mem_cons.mpr ⟨⟨_, _, _, 1, rfl, ww_c2 182 rfl rfl, ww_c2 183 rfl rfl, ww_c2 184 rfl rfl, rfl, by decide +kernel, rfl, rfl⟩, List.forall_mem_cons.mpr ⟨⟨_, _, _, 1, rfl, ww_c2 187 rfl rfl, ww_c2 188 rfl rfl, ww_c2 189 rfl rfl, rfl, by decide +kernel, rfl, rfl⟩, List.forall_mem_cons.mpr ⟨⟨_, _, _, 1, rfl, ww_c2 199 rfl rfl, ww_c2 200 rfl rfl, ww_c2 201 rfl rfl, rfl, by decide +kernel, rfl, rfl⟩, List.forall_mem_cons.mpr ⟨⟨_, _, _, 1, rfl, ww_c2 203 rfl rfl, ww_c2 125 rfl rfl, ww_c2 126 rfl rfl, rfl, by decide +kernel, rfl, rfl⟩, List.forall_mem_cons.mpr ⟨⟨_, _, _, 1, rfl, ww_c2 213 rfl rfl, ww_c2 214 rfl rfl, ww_c2 215 rfl rfl, rfl, by decide +kernel, rfl, rfl⟩, List.forall_mem_cons.mpr ⟨⟨_, _, _, 0, rfl, ww_c1 189 rfl rfl, ww_c1 190 rfl rfl, ww_c1 191 rfl rfl, rfl, by decide +kernel, rfl, rfl⟩, List.forall_mem_cons.mpr ⟨⟨_, _, _, 2, rfl, ww_c1 193 rfl rfl, ww_c1 194 rfl rfl, ww_c1 195 rfl rfl, rfl, by decide +kernel, rfl, rfl⟩, List.forall_mem_cons.mpr ⟨⟨_, _, _, 2, rfl, ww_c1 209 rfl rfl, ww_c1 210 rfl rfl, ww_c1 211 rfl rfl, rfl, by decide +kernel, rfl, rfl⟩, List.forall_mem_cons.mpr ⟨⟨_, _, _, 4, rfl, ww_c1 216 rfl rfl, ww_c1 217 rfl rfl, ww_c1 218 rfl rfl, rfl, by decide +kernel, rfl, rfl⟩, List.forall_mem_cons.mpr ⟨⟨_, _, _, 0, rfl, ww_c1 226 rfl rfl, ww_c1 227 rfl rfl, ww_c1 228 rfl rfl, rfl, by decide +kernel, rfl, rfl⟩, fun _ h => absurd h List.not_mem_nil⟩⟩⟩⟩⟩⟩⟩⟩⟩⟩⟩⟩
set_option maxRecDepth 100000 in
theorem cp_Vs_4 : ∀ q ∈ ([(5, 69, 25, 114), (5, 77, 32, 82), (5, 81, 3, 21), (5, 84, 4, 2), (5, 88, 15, 50), (5, 91, 28, 114), (5, 94, 5, 3), (5, 98, 1, 50), (5, 101, 94, 371), (5, 105, 11, 18), (5, 108, 6, 20), (5, 112, 7, 18)] : List _), mm_VOk ww_tbl ww_cl ww_nm cp_P q := List.forall_mem_cons.mpr ⟨⟨_, _, _, 1, rfl, ww_c1 230 rfl rfl, ww_c1 202 rfl rfl, ww_c1 203 rfl rfl, rfl, by decide +kernel, rfl, rfl⟩, List.forall_mem_cons.mpr ⟨⟨_, _, _, 1, rfl, ww_c2 0 rfl rfl, ww_c2 1 rfl rfl, ww_c2 2 rfl rfl, rfl, by decide +kernel, rfl, rfl⟩, List.forall_mem_cons.mpr ⟨⟨_, _, _, 4, rfl, ww_c2 4 rfl rfl, ww_c2 5 rfl rfl, ww_c2 6 rfl rfl, rfl, by decide +kernel, rfl, rfl⟩, List.forall_mem_cons.mpr ⟨⟨_, _, _, 1, rfl, ww_c2 9 rfl rfl, ww_c2 10 rfl rfl, ww_c2 11 rfl rfl, rfl, by decide +kernel, rfl, rfl⟩, List.forall_mem_cons.mpr ⟨⟨_, _, _, 1, rfl, ww_c2 21 rfl rfl, ww_c2 22 rfl rfl, ww_c2 23 rfl rfl, rfl, by decide +kernel, rfl, rfl⟩, List.forall_mem_cons.mpr ⟨⟨_, _, _, 1, rfl, ww_c2 25 rfl rfl, ww_c2 26 rfl rfl, ww_c2 27 rfl rfl, rfl, by decide +kernel, rfl, rfl⟩, List.forall_mem_cons.mpr ⟨⟨_, _, _, 2, rfl, ww_c2 29 rfl rfl, ww_c2 30 rfl rfl, ww_c2 31 rfl rfl, rfl, by decide +kernel, rfl, rfl⟩, List.forall_mem_cons.mpr ⟨⟨_, _, _, 1, rfl, ww_c2 38 rfl rfl, ww_c2 14 rfl rfl, ww_c2 15 rfl rfl, rfl, by decide +kernel, rfl, rfl⟩, List.forall_mem_cons.mpr ⟨⟨_, _, _, 2, rfl, ww_c2 39 rfl rfl, ww_c2 41 rfl rfl, ww_inS 2 rfl rfl, rfl, by decide +kernel, rfl, rfl⟩, List.forall_mem_cons.mpr ⟨⟨_, _, _, 1, rfl, ww_c2 47 rfl rfl, ww_c2 48 rfl rfl, ww_c2 49 rfl rfl, rfl, by decide +kernel, rfl, rfl⟩, List.forall_mem_cons.mpr ⟨⟨_, _, _, 3, rfl, ww_c2 51 rfl rfl, ww_c2 52 rfl rfl, ww_c2 53 rfl rfl, rfl, by decide +kernel, rfl, rfl⟩, List.forall_mem_cons.mpr ⟨⟨_, _, _, 1, rfl, ww_c2 59 rfl rfl, ww_c2 60 rfl rfl, ww_c2 61 rfl rfl, rfl, by decide +kernel, rfl, rfl⟩, fun _ h => absurd h List.not_mem_nil⟩⟩⟩⟩⟩⟩⟩⟩⟩⟩⟩⟩
set_option maxRecDepth 100000 in
theorem cp_Vs_5 : ∀ q ∈ ([(5, 115, 33, 82), (5, 119, 29, 114), (5, 122, 34, 116), (5, 126, 20, 19), (5, 134, 19, 19), (5, 137, 62, 273), (5, 141, 63, 257), (5, 144, 41, 130), (5, 147, 18, 50), (5, 150, 61, 274), (5, 156, 40, 178), (5, 159, 51, 209)] : List _), mm_VOk ww_tbl ww_cl ww_nm cp_P q := List.forall_mem_cons.mpr ⟨⟨_, _, _, 1, rfl, ww_c2 63 rfl rfl, ww_c2 64 rfl rfl, ww_c2 65 rfl rfl, rfl, by decide +kernel, rfl, rfl⟩, List.forall_mem_cons.mpr ⟨⟨_, _, _, 1, rfl, ww_c2 43 rfl rfl, ww_c2 44 rfl rfl, ww_c2 45 rfl rfl, rfl, by decide +kernel, rfl, rfl⟩, List.forall_mem_cons.mpr ⟨⟨_, _, _, 3, rfl, ww_c2 80 rfl rfl, ww_c2 81 rfl rfl, ww_c2 82 rfl rfl, rfl, by decide +kernel, rfl, rfl⟩, List.forall_mem_cons.mpr ⟨⟨_, _, _, 2, rfl, ww_c2 95 rfl rfl, ww_c2 96 rfl rfl, ww_c2 97 rfl rfl, rfl, by decide +kernel, rfl, rfl⟩, List.forall_mem_cons.mpr ⟨⟨_, _, _, 2, rfl, ww_c2 119 rfl rfl, ww_c2 120 rfl rfl, ww_c2 121 rfl rfl, rfl, by decide +kernel, rfl, rfl⟩, List.forall_mem_cons.mpr ⟨⟨_, _, _, 0, rfl, ww_c2 138 rfl rfl, ww_c2 139 rfl rfl, ww_c2 140 rfl rfl, rfl, by decide +kernel, rfl, rfl⟩, List.forall_mem_cons.mpr ⟨⟨_, _, _, 0, rfl, ww_c2 205 rfl rfl, ww_c2 206 rfl rfl, ww_c2 207 rfl rfl, rfl, by decide +kernel, rfl, rfl⟩, List.forall_mem_cons.mpr ⟨⟨_, _, _, 1, rfl, ww_c2 220 rfl rfl, ww_c2 221 rfl rfl, ww_c2 222 rfl rfl, rfl, by decide +kernel, rfl, rfl⟩, List.forall_mem_cons.mpr ⟨⟨_, _, _, 1, rfl, ww_c2 231 rfl rfl, ww_c2 100 rfl rfl, ww_c2 101 rfl rfl, rfl, by decide +kernel, rfl, rfl⟩, List.forall_mem_cons.mpr ⟨⟨_, _, _, 1, rfl, ww_c2 232 rfl rfl, ww_c2 214 rfl rfl, ww_c2 215 rfl rfl, rfl, by decide +kernel, rfl, rfl⟩, List.forall_mem_cons.mpr ⟨⟨_, _, _, 1, rfl, ww_c3 0 rfl rfl, ww_c3 1 rfl rfl, ww_c3 2 rfl rfl, rfl, by decide +kernel, rfl, rfl⟩, List.forall_mem_cons.mpr ⟨⟨_, _, _, 0, rfl, ww_c3 8 rfl rfl, ww_c3 9 rfl rfl, ww_c3 10 rfl rfl, rfl, by decide +kernel, rfl, rfl⟩, fun _ h => absurd h List.not_mem_nil⟩⟩⟩⟩⟩⟩⟩⟩⟩⟩⟩⟩
set_option maxRecDepth 100000 in
theorem cp_Vs_6 : ∀ q ∈ ([(5, 162, 98, 322), (5, 165, 16, 50), (5, 168, 96, 338), (5, 171, 26, 114), (5, 174, 95, 339), (5, 177, 53, 242), (5, 180, 54, 210), (5, 183, 12, 51), (5, 186, 60, 275), (5, 189, 56, 211), (5, 192, 55, 210), (5, 195, 46, 131)] : List _), mm_VOk ww_tbl ww_cl ww_nm cp_P q := List.forall_mem_cons.mpr ⟨⟨_, _, _, 1, rfl, ww_c3 12 rfl rfl, ww_c3 14 rfl rfl, ww_inS 13 rfl rfl, rfl, by decide +kernel, rfl, rfl⟩, List.forall_mem_cons.mpr ⟨⟨_, _, _, 1, rfl, ww_c3 37 rfl rfl, ww_c2 188 rfl rfl, ww_c2 189 rfl rfl, rfl, by decide +kernel, rfl, rfl⟩, List.forall_mem_cons.mpr ⟨⟨_, _, _, 1, rfl, ww_c3 38 rfl rfl, ww_c3 40 rfl rfl, ww_inS 14 rfl rfl, rfl, by decide +kernel, rfl, rfl⟩, List.forall_mem_cons.mpr ⟨⟨_, _, _, 1, rfl, ww_c3 64 rfl rfl, ww_c2 171 rfl rfl, ww_c2 172 rfl rfl, rfl, by decide +kernel, rfl, rfl⟩, List.forall_mem_cons.mpr ⟨⟨_, _, _, 2, rfl, ww_c3 65 rfl rfl, ww_c3 67 rfl rfl, ww_inS 16 rfl rfl, rfl, by decide +kernel, rfl, rfl⟩, List.forall_mem_cons.mpr ⟨⟨_, _, _, 1, rfl, ww_c3 88 rfl rfl, ww_c3 25 rfl rfl, ww_c3 26 rfl rfl, rfl, by decide +kernel, rfl, rfl⟩, List.forall_mem_cons.mpr ⟨⟨_, _, _, 1, rfl, ww_c3 89 rfl rfl, ww_c3 90 rfl rfl, ww_c3 91 rfl rfl, rfl, by decide +kernel, rfl, rfl⟩, List.forall_mem_cons.mpr ⟨⟨_, _, _, 2, rfl, ww_c3 93 rfl rfl, ww_c2 157 rfl rfl, ww_c2 158 rfl rfl, rfl, by decide +kernel, rfl, rfl⟩, List.forall_mem_cons.mpr ⟨⟨_, _, _, 2, rfl, ww_c3 55 rfl rfl, ww_c3 56 rfl rfl, ww_c3 57 rfl rfl, rfl, by decide +kernel, rfl, rfl⟩, List.forall_mem_cons.mpr ⟨⟨_, _, _, 2, rfl, ww_c3 94 rfl rfl, ww_c3 95 rfl rfl, ww_c3 96 rfl rfl, rfl, by decide +kernel, rfl, rfl⟩, List.forall_mem_cons.mpr ⟨⟨_, _, _, 1, rfl, ww_c3 102 rfl rfl, ww_c3 103 rfl rfl, ww_c3 104 rfl rfl, rfl, by decide +kernel, rfl, rfl⟩, List.forall_mem_cons.mpr ⟨⟨_, _, _, 2, rfl, ww_c3 106 rfl rfl, ww_c3 107 rfl rfl, ww_c3 108 rfl rfl, rfl, by decide +kernel, rfl, rfl⟩, fun _ h => absurd h List.not_mem_nil⟩⟩⟩⟩⟩⟩⟩⟩⟩⟩⟩⟩
set_option maxRecDepth 100000 in
theorem cp_Vs_7 : ∀ q ∈ ([(5, 198, 59, 195), (5, 201, 99, 321), (5, 204, 52, 210), (5, 207, 50, 209), (5, 216, 9, 18), (5, 219, 43, 147), (5, 222, 44, 132), (5, 226, 49, 209), (5, 229, 97, 340), (5, 232, 10, 18), (5, 235, 57, 211), (5, 237, 58, 196)] : List _), mm_VOk ww_tbl ww_cl ww_nm cp_P q := List.forall_mem_cons.mpr ⟨⟨_, _, _, 2, rfl, ww_c3 20 rfl rfl, ww_c3 21 rfl rfl, ww_c3 22 rfl rfl, rfl, by decide +kernel, rfl, rfl⟩, List.forall_mem_cons.mpr ⟨⟨_, _, _, 0, rfl, ww_c3 114 rfl rfl, ww_c3 116 rfl rfl, ww_inS 17 rfl rfl, rfl, by decide +kernel, rfl, rfl⟩, List.forall_mem_cons.mpr ⟨⟨_, _, _, 1, rfl, ww_c3 130 rfl rfl, ww_c3 131 rfl rfl, ww_c3 132 rfl rfl, rfl, by decide +kernel, rfl, rfl⟩, List.forall_mem_cons.mpr ⟨⟨_, _, _, 0, rfl, ww_c3 138 rfl rfl, ww_c3 139 rfl rfl, ww_c3 140 rfl rfl, rfl, by decide +kernel, rfl, rfl⟩, List.forall_mem_cons.mpr ⟨⟨_, _, _, 1, rfl, ww_c3 69 rfl rfl, ww_c3 70 rfl rfl, ww_c3 71 rfl rfl, rfl, by decide +kernel, rfl, rfl⟩, List.forall_mem_cons.mpr ⟨⟨_, _, _, 2, rfl, ww_c3 73 rfl rfl, ww_c3 74 rfl rfl, ww_c3 75 rfl rfl, rfl, by decide +kernel, rfl, rfl⟩, List.forall_mem_cons.mpr ⟨⟨_, _, _, 3, rfl, ww_c3 80 rfl rfl, ww_c3 81 rfl rfl, ww_c3 82 rfl rfl, rfl, by decide +kernel, rfl, rfl⟩, List.forall_mem_cons.mpr ⟨⟨_, _, _, 0, rfl, ww_c3 42 rfl rfl, ww_c3 43 rfl rfl, ww_c3 44 rfl rfl, rfl, by decide +kernel, rfl, rfl⟩, List.forall_mem_cons.mpr ⟨⟨_, _, _, 3, rfl, ww_c3 46 rfl rfl, ww_c3 48 rfl rfl, ww_inS 15 rfl rfl, rfl, by decide +kernel, rfl, rfl⟩, List.forall_mem_cons.mpr ⟨⟨_, _, _, 1, rfl, ww_c3 50 rfl rfl, ww_c2 183 rfl rfl, ww_c2 184 rfl rfl, rfl, by decide +kernel, rfl, rfl⟩, List.forall_mem_cons.mpr ⟨⟨_, _, _, 2, rfl, ww_c3 51 rfl rfl, ww_c3 52 rfl rfl, ww_c3 53 rfl rfl, rfl, by decide +kernel, rfl, rfl⟩, List.forall_mem_cons.mpr ⟨⟨_, _, _, 3, rfl, ww_c3 60 rfl rfl, ww_c3 61 rfl rfl, ww_c3 62 rfl rfl, rfl, by decide +kernel, rfl, rfl⟩, fun _ h => absurd h List.not_mem_nil⟩⟩⟩⟩⟩⟩⟩⟩⟩⟩⟩⟩
set_option maxRecDepth 100000 in
theorem cp_Vs_8 : ∀ q ∈ ([(5, 240, 45, 146), (5, 243, 42, 130)] : List _), mm_VOk ww_tbl ww_cl ww_nm cp_P q := List.forall_mem_cons.mpr ⟨⟨_, _, _, 1, rfl, ww_c3 16 rfl rfl, ww_c3 17 rfl rfl, ww_c3 18 rfl rfl, rfl, by decide +kernel, rfl, rfl⟩, List.forall_mem_cons.mpr ⟨⟨_, _, _, 1, rfl, ww_c3 29 rfl rfl, ww_c3 30 rfl rfl, ww_c3 31 rfl rfl, rfl, by decide +kernel, rfl, rfl⟩, fun _ h => absurd h List.not_mem_nil⟩⟩
set_option maxRecDepth 100000 in
theorem cp_Vs : ∀ q ∈ (([(0, 50, 0, 49), (0, 54, 1, 50), (0, 58, 15, 50), (0, 61, 11, 18), (0, 65, 12, 51), (0, 69, 20, 19), (0, 73, 21, 18), (0, 81, 18, 50), (0, 84, 23, 51), (0, 87, 34, 116), (0, 93, 22, 18), (1, 39, 38, 117)] : List _) ++ (([(1, 49, 24, 113), (1, 53, 30, 83), (1, 59, 37, 66), (1, 65, 36, 99), (1, 69, 35, 116), (1, 73, 34, 116), (1, 80, 25, 114), (1, 84, 39, 117), (3, 40, 53, 242), (3, 44, 59, 195), (4, 31, 12, 51), (4, 37, 1, 50)] : List _) ++ (([(4, 41, 2, 17), (4, 45, 18, 50), (4, 48, 64, 274), (4, 52, 17, 50), (4, 55, 7, 18), (4, 61, 66, 258), (4, 65, 67, 305), (4, 69, 68, 305), (4, 72, 69, 274), (4, 75, 11, 18), (4, 78, 13, 19), (4, 82, 14, 19)] : List _) ++ (([(4, 85, 19, 19), (4, 88, 26, 114), (4, 93, 10, 18), (4, 96, 16, 50), (4, 99, 8, 18), (4, 102, 21, 18), (4, 110, 61, 274), (5, 52, 24, 113), (5, 56, 27, 115), (5, 60, 30, 83), (5, 64, 31, 85), (5, 68, 0, 49)] : List _) ++ (([(5, 69, 25, 114), (5, 77, 32, 82), (5, 81, 3, 21), (5, 84, 4, 2), (5, 88, 15, 50), (5, 91, 28, 114), (5, 94, 5, 3), (5, 98, 1, 50), (5, 101, 94, 371), (5, 105, 11, 18), (5, 108, 6, 20), (5, 112, 7, 18)] : List _) ++ (([(5, 115, 33, 82), (5, 119, 29, 114), (5, 122, 34, 116), (5, 126, 20, 19), (5, 134, 19, 19), (5, 137, 62, 273), (5, 141, 63, 257), (5, 144, 41, 130), (5, 147, 18, 50), (5, 150, 61, 274), (5, 156, 40, 178), (5, 159, 51, 209)] : List _) ++ (([(5, 162, 98, 322), (5, 165, 16, 50), (5, 168, 96, 338), (5, 171, 26, 114), (5, 174, 95, 339), (5, 177, 53, 242), (5, 180, 54, 210), (5, 183, 12, 51), (5, 186, 60, 275), (5, 189, 56, 211), (5, 192, 55, 210), (5, 195, 46, 131)] : List _) ++ (([(5, 198, 59, 195), (5, 201, 99, 321), (5, 204, 52, 210), (5, 207, 50, 209), (5, 216, 9, 18), (5, 219, 43, 147), (5, 222, 44, 132), (5, 226, 49, 209), (5, 229, 97, 340), (5, 232, 10, 18), (5, 235, 57, 211), (5, 237, 58, 196)] : List _) ++ (([(5, 240, 45, 146), (5, 243, 42, 130)] : List _)))))))))), mm_VOk ww_tbl ww_cl ww_nm cp_P q := List.forall_mem_append.mpr ⟨cp_Vs_0, List.forall_mem_append.mpr ⟨cp_Vs_1, List.forall_mem_append.mpr ⟨cp_Vs_2, List.forall_mem_append.mpr ⟨cp_Vs_3, List.forall_mem_append.mpr ⟨cp_Vs_4, List.forall_mem_append.mpr ⟨cp_Vs_5, List.forall_mem_append.mpr ⟨cp_Vs_6, List.forall_mem_append.mpr ⟨cp_Vs_7, cp_Vs_8⟩⟩⟩⟩⟩⟩⟩⟩
set_option maxRecDepth 100000 in
theorem cp_Ts_0 : ∀ q ∈ ([(0, 76, 100, 17), (0, 96, 1000, 18), (0, 101, 91, 18), (1, 43, 1000, 18), (2, 20, 47, 49), (2, 24, 48, 49), (4, 58, 65, 49), (4, 105, 100, 17), (4, 113, 1001, 18), (5, 73, 93, 51), (5, 129, 100, 17), (5, 153, 90, 49)] : List _), mm_TOk ww_tbl ww_nst ww_nm cp_P q := List.forall_mem_cons.mpr ⟨Or.inr (Or.inr ⟨by decide, by decide, _, 1, rfl, Or.inl (ww_c2 133 rfl rfl), ww_c2 110 rfl rfl, by decide +kernel, rfl, rfl⟩), List.forall_mem_cons.mpr ⟨Or.inl ⟨rfl, ww_c2 132 rfl rfl, ww_c1 214 rfl rfl, ww_c1 8 rfl rfl, ww_c1 215 rfl rfl⟩, List.forall_mem_cons.mpr ⟨Or.inr (Or.inr ⟨by decide, by decide, _, 2, rfl, Or.inr ⟨_, List.mem_cons_self⟩, ww_c1 238 rfl rfl, by decide +kernel, rfl, rfl⟩), List.forall_mem_cons.mpr ⟨Or.inl ⟨rfl, ww_c1 213 rfl rfl, ww_c1 214 rfl rfl, ww_c1 8 rfl rfl, ww_c1 215 rfl rfl⟩, List.forall_mem_cons.mpr ⟨Or.inr (Or.inr ⟨by decide, by decide, _, 1, rfl, Or.inl (ww_c2 224 rfl rfl), ww_c2 225 rfl rfl, by decide +kernel, rfl, rfl⟩), List.forall_mem_cons.mpr ⟨Or.inr (Or.inr ⟨by decide, by decide, _, 1, rfl, Or.inl (ww_c3 77 rfl rfl), ww_c3 78 rfl rfl, by decide +kernel, rfl, rfl⟩), List.forall_mem_cons.mpr ⟨Or.inr (Or.inr ⟨by decide, by decide, _, 1, rfl, Or.inl (ww_c2 175 rfl rfl), ww_c2 176 rfl rfl, by decide +kernel, rfl, rfl⟩), List.forall_mem_cons.mpr ⟨Or.inr (Or.inr ⟨by decide, by decide, _, 1, rfl, Or.inl (ww_c2 204 rfl rfl), ww_c2 110 rfl rfl, by decide +kernel, rfl, rfl⟩), List.forall_mem_cons.mpr ⟨Or.inr (Or.inl ⟨rfl, ww_c2 217 rfl rfl, ww_c2 218 rfl rfl, ww_c1 8 rfl rfl, ww_c2 219 rfl rfl⟩), List.forall_mem_cons.mpr ⟨Or.inr (Or.inr ⟨by decide, by decide, _, 3, rfl, Or.inl (ww_c1 231 rfl rfl), ww_c1 232 rfl rfl, by decide +kernel, rfl, rfl⟩), List.forall_mem_cons.mpr ⟨Or.inr (Or.inr ⟨by decide, by decide, _, 1, rfl, Or.inl (ww_c2 109 rfl rfl), ww_c2 110 rfl rfl, by decide +kernel, rfl, rfl⟩), List.forall_mem_cons.mpr ⟨Or.inr (Or.inr ⟨by decide, by decide, _, 1, rfl, Or.inl (ww_c2 237 rfl rfl), ww_c2 238 rfl rfl, by decide +kernel, rfl, rfl⟩), fun _ h => absurd h List.not_mem_nil⟩⟩⟩⟩⟩⟩⟩⟩⟩⟩⟩⟩
set_option maxRecDepth 100000 in
theorem cp_Ts_1 : ∀ q ∈ ([(5, 210, 91, 18), (5, 213, 92, 49)] : List _), mm_TOk ww_tbl ww_nst ww_nm cp_P q := List.forall_mem_cons.mpr ⟨Or.inr (Or.inr ⟨by decide, by decide, _, 2, rfl, Or.inl (ww_c1 237 rfl rfl), ww_c1 238 rfl rfl, by decide +kernel, rfl, rfl⟩), List.forall_mem_cons.mpr ⟨Or.inr (Or.inr ⟨by decide, by decide, _, 1, rfl, Or.inl (ww_c1 234 rfl rfl), ww_c1 235 rfl rfl, by decide +kernel, rfl, rfl⟩), fun _ h => absurd h List.not_mem_nil⟩⟩
set_option maxRecDepth 100000 in
theorem cp_Ts : ∀ q ∈ (([(0, 76, 100, 17), (0, 96, 1000, 18), (0, 101, 91, 18), (1, 43, 1000, 18), (2, 20, 47, 49), (2, 24, 48, 49), (4, 58, 65, 49), (4, 105, 100, 17), (4, 113, 1001, 18), (5, 73, 93, 51), (5, 129, 100, 17), (5, 153, 90, 49)] : List _) ++ (([(5, 210, 91, 18), (5, 213, 92, 49)] : List _))), mm_TOk ww_tbl ww_nst ww_nm cp_P q := List.forall_mem_append.mpr ⟨cp_Ts_0, cp_Ts_1⟩
set_option maxRecDepth 100000 in
theorem cp_Is_0 : ∀ q ∈ ([(7, 265, 1431655765), (7, 266, 858993459), (7, 267, 252645135)] : List _), (fun q : Nat × Nat × Int32 => Jvm.Cond.constant (ww_nm q.1) q.2.1 q.2.2 ∈ ww_tbl) q := List.forall_mem_cons.mpr ⟨ww_c2 112 rfl rfl, List.forall_mem_cons.mpr ⟨ww_c2 113 rfl rfl, List.forall_mem_cons.mpr ⟨ww_c2 114 rfl rfl, fun _ h => absurd h List.not_mem_nil⟩⟩⟩
set_option maxRecDepth 100000 in
theorem cp_Is : ∀ q ∈ (([(7, 265, 1431655765), (7, 266, 858993459), (7, 267, 252645135)] : List _)), (fun q : Nat × Nat × Int32 => Jvm.Cond.constant (ww_nm q.1) q.2.1 q.2.2 ∈ ww_tbl) q := cp_Is_0
set_option maxRecDepth 100000 in
theorem cp_Ls_0 : ∀ q ∈ ([(1, 63, 31), (1, 76, 30), (1, 78, 29)] : List _), (fun q : Nat × Nat × Int64 => Jvm.Cond.constantLong (ww_nm q.1) q.2.1 q.2.2 ∈ ww_tbl) q := List.forall_mem_cons.mpr ⟨ww_c2 71 rfl rfl, List.forall_mem_cons.mpr ⟨ww_c2 88 rfl rfl, List.forall_mem_cons.mpr ⟨ww_c2 89 rfl rfl, fun _ h => absurd h List.not_mem_nil⟩⟩⟩
set_option maxRecDepth 100000 in
theorem cp_Ls : ∀ q ∈ (([(1, 63, 31), (1, 76, 30), (1, 78, 29)] : List _)), (fun q : Nat × Nat × Int64 => Jvm.Cond.constantLong (ww_nm q.1) q.2.1 q.2.2 ∈ ww_tbl) q := cp_Ls_0
set_option maxRecDepth 100000 in
theorem cp_OK : mm_OK ww_tbl ww_nst ww_cl ww_nm sc cp_P cp_K := ⟨ww_good, ww_Cs, sc_ok, cp_Ms, cp_Fs, cp_Vs, cp_Ts, cp_Is, cp_Ls⟩
end
section
/-! THE REFERENCE: what the tables say of it -/
set_option maxRecDepth 100000 in
theorem rp_0_c : (rp_0_l.all fun q => mm_chk rp_K 6 prog_8_method_2_code rp_0_l q.1 q.2) = true := by decide +kernel
set_option maxRecDepth 100000 in
theorem rp_0_ok : mm_MOk ww_tbl ww_nm rp_K rp_0 := ⟨ww_c4 43 rfl rfl, ww_c1 7 rfl rfl, rfl, by decide, ⟨by decide, by decide⟩, by decide, ⟨_, rfl⟩, by decide, List.all_eq_true.mp rp_0_c⟩
set_option maxRecDepth 100000 in
theorem rp_1_c : (rp_1_l.all fun q => mm_chk rp_K 6 prog_8_method_3_code rp_1_l q.1 q.2) = true := by decide +kernel
set_option maxRecDepth 100000 in
theorem rp_1_ok : mm_MOk ww_tbl ww_nm rp_K rp_1 := ⟨ww_c4 70 rfl rfl, ww_c1 7 rfl rfl, rfl, by decide, ⟨by decide, by decide⟩, by decide, ⟨_, rfl⟩, by decide, List.all_eq_true.mp rp_1_c⟩
set_option maxRecDepth 100000 in
theorem rp_2_c : (rp_2_l.all fun q => mm_chk rp_K 6 prog_8_method_4_code rp_2_l q.1 q.2) = true := by decide +kernel
set_option maxRecDepth 100000 in
theorem rp_2_ok : mm_MOk ww_tbl ww_nm rp_K rp_2 := ⟨ww_c4 50 rfl rfl, ww_c1 7 rfl rfl, rfl, by decide, ⟨by decide, by decide⟩, by decide, ⟨_, rfl⟩, by decide, List.all_eq_true.mp rp_2_c⟩
set_option maxRecDepth 100000 in
theorem rp_3_c : (rp_3_l.all fun q => mm_chk rp_K 6 prog_8_method_5_code rp_3_l q.1 q.2) = true := by decide +kernel
set_option maxRecDepth 100000 in
theorem rp_3_ok : mm_MOk ww_tbl ww_nm rp_K rp_3 := ⟨ww_c4 73 rfl rfl, ww_c1 7 rfl rfl, rfl, by decide, ⟨by decide, by decide⟩, by decide, ⟨_, rfl⟩, by decide, List.all_eq_true.mp rp_3_c⟩
set_option maxRecDepth 100000 in
theorem rp_4_c : (rp_4_l.all fun q => mm_chk rp_K 6 prog_8_method_6_code rp_4_l q.1 q.2) = true := by decide +kernel
set_option maxRecDepth 100000 in
theorem rp_4_ok : mm_MOk ww_tbl ww_nm rp_K rp_4 := ⟨ww_c4 39 rfl rfl, ww_c1 7 rfl rfl, rfl, by decide, ⟨by decide, by decide⟩, by decide, ⟨_, rfl⟩, by decide, List.all_eq_true.mp rp_4_c⟩
set_option maxRecDepth 100000 in
theorem rp_5_c : (rp_5_l.all fun q => mm_chk rp_K 6 prog_8_method_7_code rp_5_l q.1 q.2) = true := by decide +kernel
set_option maxRecDepth 100000 in
theorem rp_5_ok : mm_MOk ww_tbl ww_nm rp_K rp_5 := ⟨ww_c4 35 rfl rfl, ww_c1 7 rfl rfl, rfl, by decide, ⟨by decide, by decide⟩, by decide, ⟨_, rfl⟩, by decide, List.all_eq_true.mp rp_5_c⟩
set_option maxRecDepth 100000 in
theorem rp_6_c : (rp_6_l.all fun q => mm_chk rp_K 6 prog_8_method_8_code rp_6_l q.1 q.2) = true := by decide +kernel
set_option maxRecDepth 100000 in
theorem rp_6_ok : mm_MOk ww_tbl ww_nm rp_K rp_6 := ⟨ww_c4 54 rfl rfl, ww_c1 7 rfl rfl, rfl, by decide, ⟨by decide, by decide⟩, by decide, ⟨_, rfl⟩, by decide, List.all_eq_true.mp rp_6_c⟩
set_option maxRecDepth 100000 in
theorem rp_7_c : (rp_7_l.all fun q => mm_chk rp_K 6 prog_8_method_9_code rp_7_l q.1 q.2) = true := by decide +kernel
set_option maxRecDepth 100000 in
theorem rp_7_ok : mm_MOk ww_tbl ww_nm rp_K rp_7 := ⟨ww_c4 47 rfl rfl, ww_c1 7 rfl rfl, rfl, by decide, ⟨by decide, by decide⟩, by decide, ⟨_, rfl⟩, by decide, List.all_eq_true.mp rp_7_c⟩
set_option maxRecDepth 100000 in
theorem rp_8_c : (rp_8_l.all fun q => mm_chk rp_K 6 prog_8_method_10_code rp_8_l q.1 q.2) = true := by decide +kernel
set_option maxRecDepth 100000 in
theorem rp_8_ok : mm_MOk ww_tbl ww_nm rp_K rp_8 := ⟨ww_c4 58 rfl rfl, ww_c1 7 rfl rfl, rfl, by decide, ⟨by decide, by decide⟩, by decide, ⟨_, rfl⟩, by decide, List.all_eq_true.mp rp_8_c⟩
set_option maxRecDepth 100000 in
theorem rp_9_c : (rp_9_l.all fun q => mm_chk rp_K 6 prog_8_method_11_code rp_9_l q.1 q.2) = true := by decide +kernel
set_option maxRecDepth 100000 in
theorem rp_9_ok : mm_MOk ww_tbl ww_nm rp_K rp_9 := ⟨ww_c4 66 rfl rfl, ww_c1 7 rfl rfl, rfl, by decide, ⟨by decide, by decide⟩, by decide, ⟨_, rfl⟩, by decide, List.all_eq_true.mp rp_9_c⟩
set_option maxRecDepth 100000 in
theorem rp_10_c : (rp_10_l.all fun q => mm_chk rp_K 6 prog_8_method_12_code rp_10_l q.1 q.2) = true := by decide +kernel
set_option maxRecDepth 100000 in
theorem rp_10_ok : mm_MOk ww_tbl ww_nm rp_K rp_10 := ⟨ww_c4 62 rfl rfl, ww_c1 7 rfl rfl, rfl, by decide, ⟨by decide, by decide⟩, by decide, ⟨_, rfl⟩, by decide, List.all_eq_true.mp rp_10_c⟩
set_option maxRecDepth 100000 in
theorem rp_11_c : (rp_11_l.all fun q => mm_chk rp_K 6 prog_8_method_13_code rp_11_l q.1 q.2) = true := by decide +kernel
set_option maxRecDepth 100000 in
theorem rp_11_ok : mm_MOk ww_tbl ww_nm rp_K rp_11 := ⟨ww_c4 117 rfl rfl, ww_c1 7 rfl rfl, rfl, by decide, ⟨by decide, by decide⟩, by decide, ⟨_, rfl⟩, by decide, List.all_eq_true.mp rp_11_c⟩
set_option maxRecDepth 100000 in
theorem rp_12_c : (rp_12_l.all fun q => mm_chk rp_K 6 prog_8_method_14_code rp_12_l q.1 q.2) = true := by decide +kernel
set_option maxRecDepth 100000 in
theorem rp_12_ok : mm_MOk ww_tbl ww_nm rp_K rp_12 := ⟨ww_c4 140 rfl rfl, ww_c1 7 rfl rfl, rfl, by decide, ⟨by decide, by decide⟩, by decide, ⟨_, rfl⟩, by decide, List.all_eq_true.mp rp_12_c⟩
set_option maxRecDepth 100000 in
theorem rp_13_c : (rp_13_l.all fun q => mm_chk rp_K 6 prog_8_method_15_code rp_13_l q.1 q.2) = true := by decide +kernel
set_option maxRecDepth 100000 in
theorem rp_13_ok : mm_MOk ww_tbl ww_nm rp_K rp_13 := ⟨ww_c4 85 rfl rfl, ww_c1 7 rfl rfl, rfl, by decide, ⟨by decide, by decide⟩, by decide, ⟨_, rfl⟩, by decide, List.all_eq_true.mp rp_13_c⟩
set_option maxRecDepth 100000 in
theorem rp_14_c : (rp_14_l.all fun q => mm_chk rp_K 6 prog_8_method_16_code rp_14_l q.1 q.2) = true := by decide +kernel
set_option maxRecDepth 100000 in
theorem rp_14_ok : mm_MOk ww_tbl ww_nm rp_K rp_14 := ⟨ww_c4 90 rfl rfl, ww_c1 7 rfl rfl, rfl, by decide, ⟨by decide, by decide⟩, by decide, ⟨_, rfl⟩, by decide, List.all_eq_true.mp rp_14_c⟩
set_option maxRecDepth 100000 in
theorem rp_15_c : (rp_15_l.all fun q => mm_chk rp_K 6 prog_8_method_17_code rp_15_l q.1 q.2) = true := by decide +kernel
set_option maxRecDepth 100000 in
theorem rp_15_ok : mm_MOk ww_tbl ww_nm rp_K rp_15 := ⟨ww_c4 81 rfl rfl, ww_c1 7 rfl rfl, rfl, by decide, ⟨by decide, by decide⟩, by decide, ⟨_, rfl⟩, by decide, List.all_eq_true.mp rp_15_c⟩
set_option maxRecDepth 100000 in
theorem rp_16_c : (rp_16_l.all fun q => mm_chk rp_K 6 prog_8_method_18_code rp_16_l q.1 q.2) = true := by decide +kernel
set_option maxRecDepth 100000 in
theorem rp_16_ok : mm_MOk ww_tbl ww_nm rp_K rp_16 := ⟨ww_c4 102 rfl rfl, ww_c1 7 rfl rfl, rfl, by decide, ⟨by decide, by decide⟩, by decide, ⟨_, rfl⟩, by decide, List.all_eq_true.mp rp_16_c⟩
set_option maxRecDepth 100000 in
theorem rp_17_c : (rp_17_l.all fun q => mm_chk rp_K 6 prog_8_method_19_code rp_17_l q.1 q.2) = true := by decide +kernel
set_option maxRecDepth 100000 in
theorem rp_17_ok : mm_MOk ww_tbl ww_nm rp_K rp_17 := ⟨ww_c4 98 rfl rfl, ww_c1 7 rfl rfl, rfl, by decide, ⟨by decide, by decide⟩, by decide, ⟨_, rfl⟩, by decide, List.all_eq_true.mp rp_17_c⟩
set_option maxRecDepth 100000 in
theorem rp_18_c : (rp_18_l.all fun q => mm_chk rp_K 6 prog_8_method_20_code rp_18_l q.1 q.2) = true := by decide +kernel
set_option maxRecDepth 100000 in
theorem rp_18_ok : mm_MOk ww_tbl ww_nm rp_K rp_18 := ⟨ww_c4 121 rfl rfl, ww_c1 7 rfl rfl, rfl, by decide, ⟨by decide, by decide⟩, by decide, ⟨_, rfl⟩, by decide, List.all_eq_true.mp rp_18_c⟩
set_option maxRecDepth 100000 in
theorem rp_19_c : (rp_19_l.all fun q => mm_chk rp_K 6 prog_8_method_21_code rp_19_l q.1 q.2) = true := by decide +kernel
set_option maxRecDepth 100000 in
theorem rp_19_ok : mm_MOk ww_tbl ww_nm rp_K rp_19 := ⟨ww_c4 113 rfl rfl, ww_c1 7 rfl rfl, rfl, by decide, ⟨by decide, by decide⟩, by decide, ⟨_, rfl⟩, by decide, List.all_eq_true.mp rp_19_c⟩
set_option maxRecDepth 100000 in
theorem rp_20_c : (rp_20_l.all fun q => mm_chk rp_K 6 prog_8_method_22_code rp_20_l q.1 q.2) = true := by decide +kernel
set_option maxRecDepth 100000 in
theorem rp_20_ok : mm_MOk ww_tbl ww_nm rp_K rp_20 := ⟨ww_c4 124 rfl rfl, ww_c1 7 rfl rfl, rfl, by decide, ⟨by decide, by decide⟩, by decide, ⟨_, rfl⟩, by decide, List.all_eq_true.mp rp_20_c⟩
set_option maxRecDepth 100000 in
theorem rp_21_c : (rp_21_l.all fun q => mm_chk rp_K 6 prog_8_method_23_code rp_21_l q.1 q.2) = true := by decide +kernel
set_option maxRecDepth 100000 in
theorem rp_21_ok : mm_MOk ww_tbl ww_nm rp_K rp_21 := ⟨ww_c4 136 rfl rfl, ww_c1 7 rfl rfl, rfl, by decide, ⟨by decide, by decide⟩, by decide, ⟨_, rfl⟩, by decide, List.all_eq_true.mp rp_21_c⟩
set_option maxRecDepth 100000 in
theorem rp_22_c : (rp_22_l.all fun q => mm_chk rp_K 6 prog_8_method_24_code rp_22_l q.1 q.2) = true := by decide +kernel
set_option maxRecDepth 100000 in
theorem rp_22_ok : mm_MOk ww_tbl ww_nm rp_K rp_22 := ⟨ww_c4 132 rfl rfl, ww_c1 7 rfl rfl, rfl, by decide, ⟨by decide, by decide⟩, by decide, ⟨_, rfl⟩, by decide, List.all_eq_true.mp rp_22_c⟩
set_option maxRecDepth 100000 in
theorem rp_23_c : (rp_23_l.all fun q => mm_chk rp_K 6 prog_8_method_25_code rp_23_l q.1 q.2) = true := by decide +kernel
set_option maxRecDepth 100000 in
theorem rp_23_ok : mm_MOk ww_tbl ww_nm rp_K rp_23 := ⟨ww_c4 77 rfl rfl, ww_c1 7 rfl rfl, rfl, by decide, ⟨by decide, by decide⟩, by decide, ⟨_, rfl⟩, by decide, List.all_eq_true.mp rp_23_c⟩
set_option maxRecDepth 100000 in
theorem rp_24_c : (rp_24_l.all fun q => mm_chk rp_K 6 prog_8_method_26_code rp_24_l q.1 q.2) = true := by decide +kernel
set_option maxRecDepth 100000 in
theorem rp_24_ok : mm_MOk ww_tbl ww_nm rp_K rp_24 := ⟨ww_c4 94 rfl rfl, ww_c1 7 rfl rfl, rfl, by decide, ⟨by decide, by decide⟩, by decide, ⟨_, rfl⟩, by decide, List.all_eq_true.mp rp_24_c⟩
set_option maxRecDepth 100000 in
theorem rp_25_c : (rp_25_l.all fun q => mm_chk rp_K 6 prog_8_method_27_code rp_25_l q.1 q.2) = true := by decide +kernel
set_option maxRecDepth 100000 in
theorem rp_25_ok : mm_MOk ww_tbl ww_nm rp_K rp_25 := ⟨ww_c4 109 rfl rfl, ww_c1 7 rfl rfl, rfl, by decide, ⟨by decide, by decide⟩, by decide, ⟨_, rfl⟩, by decide, List.all_eq_true.mp rp_25_c⟩
set_option maxRecDepth 100000 in
theorem rp_26_c : (rp_26_l.all fun q => mm_chk rp_K 6 prog_8_method_28_code rp_26_l q.1 q.2) = true := by decide +kernel
set_option maxRecDepth 100000 in
theorem rp_26_ok : mm_MOk ww_tbl ww_nm rp_K rp_26 := ⟨ww_c4 128 rfl rfl, ww_c1 7 rfl rfl, rfl, by decide, ⟨by decide, by decide⟩, by decide, ⟨_, rfl⟩, by decide, List.all_eq_true.mp rp_26_c⟩
set_option maxRecDepth 100000 in
theorem rp_27_c : (rp_27_l.all fun q => mm_chk rp_K 6 prog_8_method_29_code rp_27_l q.1 q.2) = true := by decide +kernel
set_option maxRecDepth 100000 in
theorem rp_27_ok : mm_MOk ww_tbl ww_nm rp_K rp_27 := ⟨ww_c4 152 rfl rfl, ww_c1 7 rfl rfl, rfl, by decide, ⟨by decide, by decide⟩, by decide, ⟨_, rfl⟩, by decide, List.all_eq_true.mp rp_27_c⟩
set_option maxRecDepth 100000 in
theorem rp_28_c : (rp_28_l.all fun q => mm_chk rp_K 6 prog_8_method_30_code rp_28_l q.1 q.2) = true := by decide +kernel
set_option maxRecDepth 100000 in
theorem rp_28_ok : mm_MOk ww_tbl ww_nm rp_K rp_28 := ⟨ww_c4 148 rfl rfl, ww_c1 7 rfl rfl, rfl, by decide, ⟨by decide, by decide⟩, by decide, ⟨_, rfl⟩, by decide, List.all_eq_true.mp rp_28_c⟩
set_option maxRecDepth 100000 in
theorem rp_29_c : (rp_29_l.all fun q => mm_chk rp_K 6 prog_8_method_31_code rp_29_l q.1 q.2) = true := by decide +kernel
set_option maxRecDepth 100000 in
theorem rp_29_ok : mm_MOk ww_tbl ww_nm rp_K rp_29 := ⟨ww_c4 156 rfl rfl, ww_c1 7 rfl rfl, rfl, by decide, ⟨by decide, by decide⟩, by decide, ⟨_, rfl⟩, by decide, List.all_eq_true.mp rp_29_c⟩
set_option maxRecDepth 100000 in
theorem rp_30_c : (rp_30_l.all fun q => mm_chk rp_K 6 prog_8_method_32_code rp_30_l q.1 q.2) = true := by decide +kernel
set_option maxRecDepth 100000 in
theorem rp_30_ok : mm_MOk ww_tbl ww_nm rp_K rp_30 := ⟨ww_c4 160 rfl rfl, ww_c1 7 rfl rfl, rfl, by decide, ⟨by decide, by decide⟩, by decide, ⟨_, rfl⟩, by decide, List.all_eq_true.mp rp_30_c⟩
set_option maxRecDepth 100000 in
theorem rp_31_c : (rp_31_l.all fun q => mm_chk rp_K 6 prog_8_method_33_code rp_31_l q.1 q.2) = true := by decide +kernel
set_option maxRecDepth 100000 in
theorem rp_31_ok : mm_MOk ww_tbl ww_nm rp_K rp_31 := ⟨ww_c4 164 rfl rfl, ww_c1 7 rfl rfl, rfl, by decide, ⟨by decide, by decide⟩, by decide, ⟨_, rfl⟩, by decide, List.all_eq_true.mp rp_31_c⟩
set_option maxRecDepth 100000 in
theorem rp_32_c : (rp_32_l.all fun q => mm_chk rp_K 6 prog_8_method_34_code rp_32_l q.1 q.2) = true := by decide +kernel
set_option maxRecDepth 100000 in
theorem rp_32_ok : mm_MOk ww_tbl ww_nm rp_K rp_32 := ⟨ww_c4 144 rfl rfl, ww_c1 7 rfl rfl, rfl, by decide, ⟨by decide, by decide⟩, by decide, ⟨_, rfl⟩, by decide, List.all_eq_true.mp rp_32_c⟩
set_option maxRecDepth 100000 in
theorem rp_33_c : (rp_33_l.all fun q => mm_chk rp_K 6 prog_8_method_35_code rp_33_l q.1 q.2) = true := by decide +kernel
set_option maxRecDepth 100000 in
theorem rp_33_ok : mm_MOk ww_tbl ww_nm rp_K rp_33 := ⟨ww_c4 168 rfl rfl, ww_c1 7 rfl rfl, rfl, by decide, ⟨by decide, by decide⟩, by decide, ⟨_, rfl⟩, by decide, List.all_eq_true.mp rp_33_c⟩
set_option maxRecDepth 100000 in
theorem rp_34_c : (rp_34_l.all fun q => mm_chk rp_K 6 prog_8_method_36_code rp_34_l q.1 q.2) = true := by decide +kernel
set_option maxRecDepth 100000 in
theorem rp_34_ok : mm_MOk ww_tbl ww_nm rp_K rp_34 := ⟨ww_c4 203 rfl rfl, ww_c1 7 rfl rfl, rfl, by decide, ⟨by decide, by decide⟩, by decide, ⟨_, rfl⟩, by decide, List.all_eq_true.mp rp_34_c⟩
set_option maxRecDepth 100000 in
theorem rp_35_c : (rp_35_l.all fun q => mm_chk rp_K 6 prog_8_method_37_code rp_35_l q.1 q.2) = true := by decide +kernel
set_option maxRecDepth 100000 in
theorem rp_35_ok : mm_MOk ww_tbl ww_nm rp_K rp_35 := ⟨ww_c4 207 rfl rfl, ww_c1 7 rfl rfl, rfl, by decide, ⟨by decide, by decide⟩, by decide, ⟨_, rfl⟩, by decide, List.all_eq_true.mp rp_35_c⟩
set_option maxRecDepth 100000 in
theorem rp_36_c : (rp_36_l.all fun q => mm_chk rp_K 6 prog_8_method_38_code rp_36_l q.1 q.2) = true := by decide +kernel
set_option maxRecDepth 100000 in
theorem rp_36_ok : mm_MOk ww_tbl ww_nm rp_K rp_36 := ⟨ww_c4 199 rfl rfl, ww_c1 7 rfl rfl, rfl, by decide, ⟨by decide, by decide⟩, by decide, ⟨_, rfl⟩, by decide, List.all_eq_true.mp rp_36_c⟩
set_option maxRecDepth 100000 in
theorem rp_37_c : (rp_37_l.all fun q => mm_chk rp_K 6 prog_8_method_39_code rp_37_l q.1 q.2) = true := by decide +kernel
set_option maxRecDepth 100000 in
theorem rp_37_ok : mm_MOk ww_tbl ww_nm rp_K rp_37 := ⟨ww_c4 211 rfl rfl, ww_c1 7 rfl rfl, rfl, by decide, ⟨by decide, by decide⟩, by decide, ⟨_, rfl⟩, by decide, List.all_eq_true.mp rp_37_c⟩
set_option maxRecDepth 100000 in
theorem rp_38_c : (rp_38_l.all fun q => mm_chk rp_K 6 prog_8_method_40_code rp_38_l q.1 q.2) = true := by decide +kernel
set_option maxRecDepth 100000 in
theorem rp_38_ok : mm_MOk ww_tbl ww_nm rp_K rp_38 := ⟨ww_c4 187 rfl rfl, ww_c1 7 rfl rfl, rfl, by decide, ⟨by decide, by decide⟩, by decide, ⟨_, rfl⟩, by decide, List.all_eq_true.mp rp_38_c⟩
set_option maxRecDepth 100000 in
theorem rp_39_c : (rp_39_l.all fun q => mm_chk rp_K 6 prog_8_method_41_code rp_39_l q.1 q.2) = true := by decide +kernel
set_option maxRecDepth 100000 in
theorem rp_39_ok : mm_MOk ww_tbl ww_nm rp_K rp_39 := ⟨ww_c4 183 rfl rfl, ww_c1 7 rfl rfl, rfl, by decide, ⟨by decide, by decide⟩, by decide, ⟨_, rfl⟩, by decide, List.all_eq_true.mp rp_39_c⟩
set_option maxRecDepth 100000 in
theorem rp_40_c : (rp_40_l.all fun q => mm_chk rp_K 6 prog_8_method_42_code rp_40_l q.1 q.2) = true := by decide +kernel
set_option maxRecDepth 100000 in
theorem rp_40_ok : mm_MOk ww_tbl ww_nm rp_K rp_40 := ⟨ww_c4 195 rfl rfl, ww_c1 7 rfl rfl, rfl, by decide, ⟨by decide, by decide⟩, by decide, ⟨_, rfl⟩, by decide, List.all_eq_true.mp rp_40_c⟩
set_option maxRecDepth 100000 in
theorem rp_41_c : (rp_41_l.all fun q => mm_chk rp_K 6 prog_8_method_43_code rp_41_l q.1 q.2) = true := by decide +kernel
set_option maxRecDepth 100000 in
theorem rp_41_ok : mm_MOk ww_tbl ww_nm rp_K rp_41 := ⟨ww_c4 175 rfl rfl, ww_c1 7 rfl rfl, rfl, by decide, ⟨by decide, by decide⟩, by decide, ⟨_, rfl⟩, by decide, List.all_eq_true.mp rp_41_c⟩
set_option maxRecDepth 100000 in
theorem rp_42_c : (rp_42_l.all fun q => mm_chk rp_K 6 prog_8_method_44_code rp_42_l q.1 q.2) = true := by decide +kernel
set_option maxRecDepth 100000 in
theorem rp_42_ok : mm_MOk ww_tbl ww_nm rp_K rp_42 := ⟨ww_c4 219 rfl rfl, ww_c1 7 rfl rfl, rfl, by decide, ⟨by decide, by decide⟩, by decide, ⟨_, rfl⟩, by decide, List.all_eq_true.mp rp_42_c⟩
set_option maxRecDepth 100000 in
theorem rp_43_c : (rp_43_l.all fun q => mm_chk rp_K 6 prog_8_method_45_code rp_43_l q.1 q.2) = true := by decide +kernel
set_option maxRecDepth 100000 in
theorem rp_43_ok : mm_MOk ww_tbl ww_nm rp_K rp_43 := ⟨ww_c4 172 rfl rfl, ww_c1 7 rfl rfl, rfl, by decide, ⟨by decide, by decide⟩, by decide, ⟨_, rfl⟩, by decide, List.all_eq_true.mp rp_43_c⟩
set_option maxRecDepth 100000 in
theorem rp_44_c : (rp_44_l.all fun q => mm_chk rp_K 6 prog_8_method_46_code rp_44_l q.1 q.2) = true := by decide +kernel
set_option maxRecDepth 100000 in
theorem rp_44_ok : mm_MOk ww_tbl ww_nm rp_K rp_44 := ⟨ww_c4 179 rfl rfl, ww_c1 7 rfl rfl, rfl, by decide, ⟨by decide, by decide⟩, by decide, ⟨_, rfl⟩, by decide, List.all_eq_true.mp rp_44_c⟩
set_option maxRecDepth 100000 in
theorem rp_45_c : (rp_45_l.all fun q => mm_chk rp_K 6 prog_8_method_47_code rp_45_l q.1 q.2) = true := by decide +kernel
set_option maxRecDepth 100000 in
theorem rp_45_ok : mm_MOk ww_tbl ww_nm rp_K rp_45 := ⟨ww_c4 191 rfl rfl, ww_c1 7 rfl rfl, rfl, by decide, ⟨by decide, by decide⟩, by decide, ⟨_, rfl⟩, by decide, List.all_eq_true.mp rp_45_c⟩
set_option maxRecDepth 100000 in
theorem rp_46_c : (rp_46_l.all fun q => mm_chk rp_K 6 prog_8_method_48_code rp_46_l q.1 q.2) = true := by decide +kernel
set_option maxRecDepth 100000 in
theorem rp_46_ok : mm_MOk ww_tbl ww_nm rp_K rp_46 := ⟨ww_c4 215 rfl rfl, ww_c1 7 rfl rfl, rfl, by decide, ⟨by decide, by decide⟩, by decide, ⟨_, rfl⟩, by decide, List.all_eq_true.mp rp_46_c⟩
set_option maxRecDepth 100000 in
theorem rp_47_c : (rp_47_l.all fun q => mm_chk rp_K 6 prog_8_method_49_code rp_47_l q.1 q.2) = true := by decide +kernel
set_option maxRecDepth 100000 in
theorem rp_47_ok : mm_MOk ww_tbl ww_nm rp_K rp_47 := ⟨ww_c4 223 rfl rfl, ww_c1 7 rfl rfl, rfl, by decide, ⟨by decide, by decide⟩, by decide, ⟨_, rfl⟩, by decide, List.all_eq_true.mp rp_47_c⟩
set_option maxRecDepth 100000 in
theorem rp_48_c : (rp_48_l.all fun q => mm_chk rp_K 6 prog_8_method_50_code rp_48_l q.1 q.2) = true := by decide +kernel
set_option maxRecDepth 100000 in
theorem rp_48_ok : mm_MOk ww_tbl ww_nm rp_K rp_48 := ⟨ww_c4 227 rfl rfl, ww_c1 7 rfl rfl, rfl, by decide, ⟨by decide, by decide⟩, by decide, ⟨_, rfl⟩, by decide, List.all_eq_true.mp rp_48_c⟩
set_option maxRecDepth 100000 in
theorem rp_49_c : (rp_49_l.all fun q => mm_chk rp_K 6 prog_8_method_51_code rp_49_l q.1 q.2) = true := by decide +kernel
set_option maxRecDepth 100000 in
theorem rp_49_ok : mm_MOk ww_tbl ww_nm rp_K rp_49 := ⟨ww_c4 231 rfl rfl, ww_c1 7 rfl rfl, rfl, by decide, ⟨by decide, by decide⟩, by decide, ⟨_, rfl⟩, by decide, List.all_eq_true.mp rp_49_c⟩
set_option maxRecDepth 100000 in
theorem rp_50_c : (rp_50_l.all fun q => mm_chk rp_K 6 prog_8_method_52_code rp_50_l q.1 q.2) = true := by decide +kernel
set_option maxRecDepth 100000 in
theorem rp_50_ok : mm_MOk ww_tbl ww_nm rp_K rp_50 := ⟨ww_c4 235 rfl rfl, ww_c1 7 rfl rfl, rfl, by decide, ⟨by decide, by decide⟩, by decide, ⟨_, rfl⟩, by decide, List.all_eq_true.mp rp_50_c⟩
set_option maxRecDepth 100000 in
theorem rp_51_c : (rp_51_l.all fun q => mm_chk rp_K 6 prog_8_method_53_code rp_51_l q.1 q.2) = true := by decide +kernel
set_option maxRecDepth 100000 in
theorem rp_51_ok : mm_MOk ww_tbl ww_nm rp_K rp_51 := ⟨ww_c4 239 rfl rfl, ww_c1 7 rfl rfl, rfl, by decide, ⟨by decide, by decide⟩, by decide, ⟨_, rfl⟩, by decide, List.all_eq_true.mp rp_51_c⟩
set_option maxRecDepth 100000 in
theorem rp_52_c : (rp_52_l.all fun q => mm_chk rp_K 6 prog_8_method_54_code rp_52_l q.1 q.2) = true := by decide +kernel
set_option maxRecDepth 100000 in
theorem rp_52_ok : mm_MOk ww_tbl ww_nm rp_K rp_52 := ⟨ww_c5 3 rfl rfl, ww_c1 7 rfl rfl, rfl, by decide, ⟨by decide, by decide⟩, by decide, ⟨_, rfl⟩, by decide, List.all_eq_true.mp rp_52_c⟩
set_option maxRecDepth 100000 in
theorem rp_Ms_0 : ∀ q ∈ ([rp_0, rp_1, rp_2, rp_3, rp_4, rp_5, rp_6, rp_7, rp_8, rp_9, rp_10, rp_11] : List _), mm_MOk ww_tbl ww_nm rp_K q := List.forall_mem_cons.mpr ⟨rp_0_ok, List.forall_mem_cons.mpr ⟨rp_1_ok, List.forall_mem_cons.mpr ⟨rp_2_ok, List.forall_mem_cons.mpr ⟨rp_3_ok, List.forall_mem_cons.mpr ⟨rp_4_ok, List.forall_mem_cons.mpr ⟨rp_5_ok, List.forall_mem_cons.mpr ⟨rp_6_ok, List.forall_mem_cons.mpr ⟨rp_7_ok, List.forall_mem_cons.mpr ⟨rp_8_ok, List.forall_mem_cons.mpr ⟨rp_9_ok, List.forall_mem_cons.mpr ⟨rp_10_ok, List.forall_mem_cons.mpr ⟨rp_11_ok, fun _ h => absurd h List.not_mem_nil⟩⟩⟩⟩⟩⟩⟩⟩⟩⟩⟩⟩
set_option maxRecDepth 100000 in
theorem rp_Ms_1 : ∀ q ∈ ([rp_12, rp_13, rp_14, rp_15, rp_16, rp_17, rp_18, rp_19, rp_20, rp_21, rp_22, rp_23] : List _), mm_MOk ww_tbl ww_nm rp_K q := List.forall_mem_cons.mpr ⟨rp_12_ok, List.forall_mem_cons.mpr ⟨rp_13_ok, List.forall_mem_cons.mpr ⟨rp_14_ok, List.forall_mem_cons.mpr ⟨rp_15_ok, List.forall_mem_cons.mpr ⟨rp_16_ok, List.forall_mem_cons.mpr ⟨rp_17_ok, List.forall_mem_cons.mpr ⟨rp_18_ok, List.forall_mem_cons.mpr ⟨rp_19_ok, List.forall_mem_cons.mpr ⟨rp_20_ok, List.forall_mem_cons.mpr ⟨rp_21_ok, List.forall_mem_cons.mpr ⟨rp_22_ok, List.forall_mem_cons.mpr ⟨rp_23_ok, fun _ h => absurd h List.not_mem_nil⟩⟩⟩⟩⟩⟩⟩⟩⟩⟩⟩⟩
set_option maxRecDepth 100000 in
theorem rp_Ms_2 : ∀ q ∈ ([rp_24, rp_25, rp_26, rp_27, rp_28, rp_29, rp_30, rp_31, rp_32, rp_33, rp_34, rp_35] : List _), mm_MOk ww_tbl ww_nm rp_K q := List.forall_mem_cons.mpr ⟨rp_24_ok, List.forall_mem_cons.mpr ⟨rp_25_ok, List.forall_mem_cons.mpr ⟨rp_26_ok, List.forall_mem_cons.mpr ⟨rp_27_ok, List.forall_mem_cons.mpr ⟨rp_28_ok, List.forall_mem_cons.mpr ⟨rp_29_ok, List.forall_mem_cons.mpr ⟨rp_30_ok, List.forall_mem_cons.mpr ⟨rp_31_ok, List.forall_mem_cons.mpr ⟨rp_32_ok, List.forall_mem_cons.mpr ⟨rp_33_ok, List.forall_mem_cons.mpr ⟨rp_34_ok, List.forall_mem_cons.mpr ⟨rp_35_ok, fun _ h => absurd h List.not_mem_nil⟩⟩⟩⟩⟩⟩⟩⟩⟩⟩⟩⟩
set_option maxRecDepth 100000 in
theorem rp_Ms_3 : ∀ q ∈ ([rp_36, rp_37, rp_38, rp_39, rp_40, rp_41, rp_42, rp_43, rp_44, rp_45, rp_46, rp_47] : List _), mm_MOk ww_tbl ww_nm rp_K q := List.forall_mem_cons.mpr ⟨rp_36_ok, List.forall_mem_cons.mpr ⟨rp_37_ok, List.forall_mem_cons.mpr ⟨rp_38_ok, List.forall_mem_cons.mpr ⟨rp_39_ok, List.forall_mem_cons.mpr ⟨rp_40_ok, List.forall_mem_cons.mpr ⟨rp_41_ok, List.forall_mem_cons.mpr ⟨rp_42_ok, List.forall_mem_cons.mpr ⟨rp_43_ok, List.forall_mem_cons.mpr ⟨rp_44_ok, List.forall_mem_cons.mpr ⟨rp_45_ok, List.forall_mem_cons.mpr ⟨rp_46_ok, List.forall_mem_cons.mpr ⟨rp_47_ok, fun _ h => absurd h List.not_mem_nil⟩⟩⟩⟩⟩⟩⟩⟩⟩⟩⟩⟩
set_option maxRecDepth 100000 in
theorem rp_Ms_4 : ∀ q ∈ ([rp_48, rp_49, rp_50, rp_51, rp_52] : List _), mm_MOk ww_tbl ww_nm rp_K q := List.forall_mem_cons.mpr ⟨rp_48_ok, List.forall_mem_cons.mpr ⟨rp_49_ok, List.forall_mem_cons.mpr ⟨rp_50_ok, List.forall_mem_cons.mpr ⟨rp_51_ok, List.forall_mem_cons.mpr ⟨rp_52_ok, fun _ h => absurd h List.not_mem_nil⟩⟩⟩⟩⟩
set_option maxRecDepth 100000 in
theorem rp_Ms : ∀ q ∈ (([rp_0, rp_1, rp_2, rp_3, rp_4, rp_5, rp_6, rp_7, rp_8, rp_9, rp_10, rp_11] : List _) ++ (([rp_12, rp_13, rp_14, rp_15, rp_16, rp_17, rp_18, rp_19, rp_20, rp_21, rp_22, rp_23] : List _) ++ (([rp_24, rp_25, rp_26, rp_27, rp_28, rp_29, rp_30, rp_31, rp_32, rp_33, rp_34, rp_35] : List _) ++ (([rp_36, rp_37, rp_38, rp_39, rp_40, rp_41, rp_42, rp_43, rp_44, rp_45, rp_46, rp_47] : List _) ++ (([rp_48, rp_49, rp_50, rp_51, rp_52] : List _)))))), mm_MOk ww_tbl ww_nm rp_K q := List.forall_mem_append.mpr ⟨rp_Ms_0, List.forall_mem_append.mpr ⟨rp_Ms_1, List.forall_mem_append.mpr ⟨rp_Ms_2, List.forall_mem_append.mpr ⟨rp_Ms_3, rp_Ms_4⟩⟩⟩⟩
set_option maxRecDepth 100000 in
theorem rp_Fs_0 : ∀ q ∈ ([(6, 7, 6, 0), (6, 13, 6, 1), (6, 17, 6, 2), (6, 20, 6, 3), (6, 24, 6, 4), (6, 27, 6, 6), (6, 30, 6, 7), (6, 33, 6, 8), (6, 36, 6, 9), (6, 39, 6, 10), (6, 42, 6, 11), (6, 45, 6, 12)] : List _), mm_FOk ww_tbl ww_cl ww_nm q := List.forall_mem_cons.mpr ⟨⟨_, _, _, rfl, by decide, ww_c3 148 rfl rfl⟩, List.forall_mem_cons.mpr ⟨⟨_, _, _, rfl, by decide, ww_c3 149 rfl rfl⟩, List.forall_mem_cons.mpr ⟨⟨_, _, _, rfl, by decide, ww_c3 150 rfl rfl⟩, List.forall_mem_cons.mpr ⟨⟨_, _, _, rfl, by decide, ww_c3 151 rfl rfl⟩, List.forall_mem_cons.mpr ⟨⟨_, _, _, rfl, by decide, ww_c3 152 rfl rfl⟩, List.forall_mem_cons.mpr ⟨⟨_, _, _, rfl, by decide, ww_c3 154 rfl rfl⟩, List.forall_mem_cons.mpr ⟨⟨_, _, _, rfl, by decide, ww_c3 155 rfl rfl⟩, List.forall_mem_cons.mpr ⟨⟨_, _, _, rfl, by decide, ww_c3 156 rfl rfl⟩, List.forall_mem_cons.mpr ⟨⟨_, _, _, rfl, by decide, ww_c3 157 rfl rfl⟩, List.forall_mem_cons.mpr ⟨⟨_, _, _, rfl, by decide, ww_c3 158 rfl rfl⟩, List.forall_mem_cons.mpr ⟨⟨_, _, _, rfl, by decide, ww_c3 159 rfl rfl⟩, List.forall_mem_cons.mpr ⟨⟨_, _, _, rfl, by decide, ww_c3 160 rfl rfl⟩, fun _ h => absurd h List.not_mem_nil⟩⟩⟩⟩⟩⟩⟩⟩⟩⟩⟩⟩
set_option maxRecDepth 100000 in
theorem rp_Fs_1 : ∀ q ∈ ([(6, 48, 6, 13), (6, 51, 6, 14), (6, 54, 6, 16), (6, 57, 6, 17), (6, 60, 6, 18), (6, 63, 6, 19), (6, 67, 6, 21), (6, 70, 6, 22), (6, 73, 6, 25), (6, 76, 6, 26), (6, 79, 6, 27), (6, 82, 6, 28)] : List _), mm_FOk ww_tbl ww_cl ww_nm q := List.forall_mem_cons.mpr ⟨⟨_, _, _, rfl, by decide, ww_c3 161 rfl rfl⟩, List.forall_mem_cons.mpr ⟨⟨_, _, _, rfl, by decide, ww_c3 162 rfl rfl⟩, List.forall_mem_cons.mpr ⟨⟨_, _, _, rfl, by decide, ww_c3 164 rfl rfl⟩, List.forall_mem_cons.mpr ⟨⟨_, _, _, rfl, by decide, ww_c3 165 rfl rfl⟩, List.forall_mem_cons.mpr ⟨⟨_, _, _, rfl, by decide, ww_c3 166 rfl rfl⟩, List.forall_mem_cons.mpr ⟨⟨_, _, _, rfl, by decide, ww_c3 167 rfl rfl⟩, List.forall_mem_cons.mpr ⟨⟨_, _, _, rfl, by decide, ww_c3 169 rfl rfl⟩, List.forall_mem_cons.mpr ⟨⟨_, _, _, rfl, by decide, ww_c3 170 rfl rfl⟩, List.forall_mem_cons.mpr ⟨⟨_, _, _, rfl, by decide, ww_c3 173 rfl rfl⟩, List.forall_mem_cons.mpr ⟨⟨_, _, _, rfl, by decide, ww_c3 174 rfl rfl⟩, List.forall_mem_cons.mpr ⟨⟨_, _, _, rfl, by decide, ww_c3 175 rfl rfl⟩, List.forall_mem_cons.mpr ⟨⟨_, _, _, rfl, by decide, ww_c3 176 rfl rfl⟩, fun _ h => absurd h List.not_mem_nil⟩⟩⟩⟩⟩⟩⟩⟩⟩⟩⟩⟩
set_option maxRecDepth 100000 in
theorem rp_Fs_2 : ∀ q ∈ ([(6, 85, 6, 29), (6, 88, 6, 30), (6, 91, 6, 32), (6, 94, 6, 33), (6, 97, 6, 34), (6, 100, 6, 35), (6, 103, 6, 36), (6, 106, 6, 38), (6, 109, 6, 39), (6, 112, 6, 40), (6, 123, 6, 15), (6, 131, 6, 5)] : List _), mm_FOk ww_tbl ww_cl ww_nm q := List.forall_mem_cons.mpr ⟨⟨_, _, _, rfl, by decide, ww_c3 177 rfl rfl⟩, List.forall_mem_cons.mpr ⟨⟨_, _, _, rfl, by decide, ww_c3 178 rfl rfl⟩, List.forall_mem_cons.mpr ⟨⟨_, _, _, rfl, by decide, ww_c3 180 rfl rfl⟩, List.forall_mem_cons.mpr ⟨⟨_, _, _, rfl, by decide, ww_c3 181 rfl rfl⟩, List.forall_mem_cons.mpr ⟨⟨_, _, _, rfl, by decide, ww_c3 182 rfl rfl⟩, List.forall_mem_cons.mpr ⟨⟨_, _, _, rfl, by decide, ww_c3 183 rfl rfl⟩, List.forall_mem_cons.mpr ⟨⟨_, _, _, rfl, by decide, ww_c3 184 rfl rfl⟩, List.forall_mem_cons.mpr ⟨⟨_, _, _, rfl, by decide, ww_c3 186 rfl rfl⟩, List.forall_mem_cons.mpr ⟨⟨_, _, _, rfl, by decide, ww_c3 187 rfl rfl⟩, List.forall_mem_cons.mpr ⟨⟨_, _, _, rfl, by decide, ww_c3 188 rfl rfl⟩, List.forall_mem_cons.mpr ⟨⟨_, _, _, rfl, by decide, ww_c3 163 rfl rfl⟩, List.forall_mem_cons.mpr ⟨⟨_, _, _, rfl, by decide, ww_c3 153 rfl rfl⟩, fun _ h => absurd h List.not_mem_nil⟩⟩⟩⟩⟩⟩⟩⟩⟩⟩⟩⟩
set_option maxRecDepth 100000 in
theorem rp_Fs_3 : ∀ q ∈ ([(6, 147, 6, 20), (6, 160, 6, 23), (6, 219, 6, 37), (6, 226, 6, 24), (6, 238, 6, 31)] : List _), mm_FOk ww_tbl ww_cl ww_nm q := List.forall_mem_cons.mpr ⟨⟨_, _, _, rfl, by decide, ww_c3 168 rfl rfl⟩, List.forall_mem_cons.mpr ⟨⟨_, _, _, rfl, by decide, ww_c3 171 rfl rfl⟩, List.forall_mem_cons.mpr ⟨⟨_, _, _, rfl, by decide, ww_c3 185 rfl rfl⟩, List.forall_mem_cons.mpr ⟨⟨_, _, _, rfl, by decide, ww_c3 172 rfl rfl⟩, List.forall_mem_cons.mpr ⟨⟨_, _, _, rfl, by decide, ww_c3 179 rfl rfl⟩, fun _ h => absurd h List.not_mem_nil⟩⟩⟩⟩⟩
set_option maxRecDepth 100000 in
theorem rp_Fs : ∀ q ∈ (([(6, 7, 6, 0), (6, 13, 6, 1), (6, 17, 6, 2), (6, 20, 6, 3), (6, 24, 6, 4), (6, 27, 6, 6), (6, 30, 6, 7), (6, 33, 6, 8), (6, 36, 6, 9), (6, 39, 6, 10), (6, 42, 6, 11), (6, 45, 6, 12)] : List _) ++ (([(6, 48, 6, 13), (6, 51, 6, 14), (6, 54, 6, 16), (6, 57, 6, 17), (6, 60, 6, 18), (6, 63, 6, 19), (6, 67, 6, 21), (6, 70, 6, 22), (6, 73, 6, 25), (6, 76, 6, 26), (6, 79, 6, 27), (6, 82, 6, 28)] : List _) ++ (([(6, 85, 6, 29), (6, 88, 6, 30), (6, 91, 6, 32), (6, 94, 6, 33), (6, 97, 6, 34), (6, 100, 6, 35), (6, 103, 6, 36), (6, 106, 6, 38), (6, 109, 6, 39), (6, 112, 6, 40), (6, 123, 6, 15), (6, 131, 6, 5)] : List _) ++ (([(6, 147, 6, 20), (6, 160, 6, 23), (6, 219, 6, 37), (6, 226, 6, 24), (6, 238, 6, 31)] : List _))))), mm_FOk ww_tbl ww_cl ww_nm q := List.forall_mem_append.mpr ⟨rp_Fs_0, List.forall_mem_append.mpr ⟨rp_Fs_1, List.forall_mem_append.mpr ⟨rp_Fs_2, rp_Fs_3⟩⟩⟩
set_option maxRecDepth 100000 in
theorem rp_Vs_0 : ∀ q ∈ ([(6, 115, 0, 437), (6, 127, 4, 435), (6, 134, 6, 406), (6, 138, 9, 434), (6, 141, 1, 434), (6, 152, 13, 386), (6, 156, 14, 419), (6, 163, 15, 386), (6, 166, 16, 387), (6, 175, 11, 434), (6, 178, 18, 435), (6, 182, 17, 435)] : List _), mm_VOk ww_tbl ww_cl ww_nm rp_P q := List.forall_mem_cons.mpr ⟨⟨_, _, _, 4, rfl, ww_c4 40 rfl rfl, ww_c4 42 rfl rfl, ww_inS 19 rfl rfl, rfl, by decide +kernel, rfl, rfl⟩, List.forall_mem_cons.mpr ⟨⟨_, _, _, 2, rfl, ww_c4 36 rfl rfl, ww_c4 38 rfl rfl, ww_inS 18 rfl rfl, rfl, by decide +kernel, rfl, rfl⟩, List.forall_mem_cons.mpr ⟨⟨_, _, _, 5, rfl, ww_c4 51 rfl rfl, ww_c4 53 rfl rfl, ww_inS 20 rfl rfl, rfl, by decide +kernel, rfl, rfl⟩, List.forall_mem_cons.mpr ⟨⟨_, _, _, 1, rfl, ww_c4 63 rfl rfl, ww_c4 65 rfl rfl, ww_inS 21 rfl rfl, rfl, by decide +kernel, rfl, rfl⟩, List.forall_mem_cons.mpr ⟨⟨_, _, _, 1, rfl, ww_c4 67 rfl rfl, ww_c4 69 rfl rfl, ww_inS 22 rfl rfl, rfl, by decide +kernel, rfl, rfl⟩, List.forall_mem_cons.mpr ⟨⟨_, _, _, 1, rfl, ww_c4 82 rfl rfl, ww_c4 84 rfl rfl, ww_inS 24 rfl rfl, rfl, by decide +kernel, rfl, rfl⟩, List.forall_mem_cons.mpr ⟨⟨_, _, _, 2, rfl, ww_c4 87 rfl rfl, ww_c4 89 rfl rfl, ww_inS 25 rfl rfl, rfl, by decide +kernel, rfl, rfl⟩, List.forall_mem_cons.mpr ⟨⟨_, _, _, 1, rfl, ww_c4 78 rfl rfl, ww_c4 80 rfl rfl, ww_inS 23 rfl rfl, rfl, by decide +kernel, rfl, rfl⟩, List.forall_mem_cons.mpr ⟨⟨_, _, _, 2, rfl, ww_c4 99 rfl rfl, ww_c4 101 rfl rfl, ww_inS 27 rfl rfl, rfl, by decide +kernel, rfl, rfl⟩, List.forall_mem_cons.mpr ⟨⟨_, _, _, 1, rfl, ww_c4 114 rfl rfl, ww_c4 116 rfl rfl, ww_inS 29 rfl rfl, rfl, by decide +kernel, rfl, rfl⟩, List.forall_mem_cons.mpr ⟨⟨_, _, _, 2, rfl, ww_c4 118 rfl rfl, ww_c4 120 rfl rfl, ww_inS 30 rfl rfl, rfl, by decide +kernel, rfl, rfl⟩, List.forall_mem_cons.mpr ⟨⟨_, _, _, 2, rfl, ww_c4 95 rfl rfl, ww_c4 97 rfl rfl, ww_inS 26 rfl rfl, rfl, by decide +kernel, rfl, rfl⟩, fun _ h => absurd h List.not_mem_nil⟩⟩⟩⟩⟩⟩⟩⟩⟩⟩⟩⟩
set_option maxRecDepth 100000 in
theorem rp_Vs_1 : ∀ q ∈ ([(6, 186, 12, 402), (6, 190, 19, 403), (6, 194, 21, 402), (6, 200, 22, 403), (6, 203, 27, 434), (6, 206, 28, 402), (6, 209, 29, 433), (6, 213, 30, 433), (6, 216, 31, 402), (6, 222, 34, 389), (6, 229, 35, 402), (6, 232, 37, 435)] : List _), mm_VOk ww_tbl ww_cl ww_nm rp_P q := List.forall_mem_cons.mpr ⟨⟨_, _, _, 1, rfl, ww_c4 137 rfl rfl, ww_c4 139 rfl rfl, ww_inS 33 rfl rfl, rfl, by decide +kernel, rfl, rfl⟩, List.forall_mem_cons.mpr ⟨⟨_, _, _, 2, rfl, ww_c4 110 rfl rfl, ww_c4 112 rfl rfl, ww_inS 28 rfl rfl, rfl, by decide +kernel, rfl, rfl⟩, List.forall_mem_cons.mpr ⟨⟨_, _, _, 1, rfl, ww_c4 133 rfl rfl, ww_c4 135 rfl rfl, ww_inS 32 rfl rfl, rfl, by decide +kernel, rfl, rfl⟩, List.forall_mem_cons.mpr ⟨⟨_, _, _, 2, rfl, ww_c4 129 rfl rfl, ww_c4 131 rfl rfl, ww_inS 31 rfl rfl, rfl, by decide +kernel, rfl, rfl⟩, List.forall_mem_cons.mpr ⟨⟨_, _, _, 1, rfl, ww_c4 149 rfl rfl, ww_c4 151 rfl rfl, ww_inS 35 rfl rfl, rfl, by decide +kernel, rfl, rfl⟩, List.forall_mem_cons.mpr ⟨⟨_, _, _, 1, rfl, ww_c4 145 rfl rfl, ww_c4 147 rfl rfl, ww_inS 34 rfl rfl, rfl, by decide +kernel, rfl, rfl⟩, List.forall_mem_cons.mpr ⟨⟨_, _, _, 0, rfl, ww_c4 153 rfl rfl, ww_c4 155 rfl rfl, ww_inS 36 rfl rfl, rfl, by decide +kernel, rfl, rfl⟩, List.forall_mem_cons.mpr ⟨⟨_, _, _, 0, rfl, ww_c4 157 rfl rfl, ww_c4 159 rfl rfl, ww_inS 37 rfl rfl, rfl, by decide +kernel, rfl, rfl⟩, List.forall_mem_cons.mpr ⟨⟨_, _, _, 1, rfl, ww_c4 161 rfl rfl, ww_c4 163 rfl rfl, ww_inS 38 rfl rfl, rfl, by decide +kernel, rfl, rfl⟩, List.forall_mem_cons.mpr ⟨⟨_, _, _, 4, rfl, ww_c4 200 rfl rfl, ww_c4 202 rfl rfl, ww_inS 43 rfl rfl, rfl, by decide +kernel, rfl, rfl⟩, List.forall_mem_cons.mpr ⟨⟨_, _, _, 1, rfl, ww_c4 204 rfl rfl, ww_c4 206 rfl rfl, ww_inS 44 rfl rfl, rfl, by decide +kernel, rfl, rfl⟩, List.forall_mem_cons.mpr ⟨⟨_, _, _, 2, rfl, ww_c4 208 rfl rfl, ww_c4 210 rfl rfl, ww_inS 45 rfl rfl, rfl, by decide +kernel, rfl, rfl⟩, fun _ h => absurd h List.not_mem_nil⟩⟩⟩⟩⟩⟩⟩⟩⟩⟩⟩⟩
set_option maxRecDepth 100000 in
theorem rp_Vs_2 : ∀ q ∈ ([(6, 235, 38, 403), (6, 241, 36, 402), (6, 247, 39, 402), (6, 250, 40, 403), (6, 253, 42, 434)] : List _), mm_VOk ww_tbl ww_cl ww_nm rp_P q := List.forall_mem_cons.mpr ⟨⟨_, _, _, 2, rfl, ww_c4 184 rfl rfl, ww_c4 186 rfl rfl, ww_inS 40 rfl rfl, rfl, by decide +kernel, rfl, rfl⟩, List.forall_mem_cons.mpr ⟨⟨_, _, _, 1, rfl, ww_c4 196 rfl rfl, ww_c4 198 rfl rfl, ww_inS 42 rfl rfl, rfl, by decide +kernel, rfl, rfl⟩, List.forall_mem_cons.mpr ⟨⟨_, _, _, 1, rfl, ww_c4 180 rfl rfl, ww_c4 182 rfl rfl, ww_inS 39 rfl rfl, rfl, by decide +kernel, rfl, rfl⟩, List.forall_mem_cons.mpr ⟨⟨_, _, _, 2, rfl, ww_c4 192 rfl rfl, ww_c4 194 rfl rfl, ww_inS 41 rfl rfl, rfl, by decide +kernel, rfl, rfl⟩, List.forall_mem_cons.mpr ⟨⟨_, _, _, 1, rfl, ww_c4 216 rfl rfl, ww_c4 218 rfl rfl, ww_inS 46 rfl rfl, rfl, by decide +kernel, rfl, rfl⟩, fun _ h => absurd h List.not_mem_nil⟩⟩⟩⟩⟩
set_option maxRecDepth 100000 in
theorem rp_Vs : ∀ q ∈ (([(6, 115, 0, 437), (6, 127, 4, 435), (6, 134, 6, 406), (6, 138, 9, 434), (6, 141, 1, 434), (6, 152, 13, 386), (6, 156, 14, 419), (6, 163, 15, 386), (6, 166, 16, 387), (6, 175, 11, 434), (6, 178, 18, 435), (6, 182, 17, 435)] : List _) ++ (([(6, 186, 12, 402), (6, 190, 19, 403), (6, 194, 21, 402), (6, 200, 22, 403), (6, 203, 27, 434), (6, 206, 28, 402), (6, 209, 29, 433), (6, 213, 30, 433), (6, 216, 31, 402), (6, 222, 34, 389), (6, 229, 35, 402), (6, 232, 37, 435)] : List _) ++ (([(6, 235, 38, 403), (6, 241, 36, 402), (6, 247, 39, 402), (6, 250, 40, 403), (6, 253, 42, 434)] : List _)))), mm_VOk ww_tbl ww_cl ww_nm rp_P q := List.forall_mem_append.mpr ⟨rp_Vs_0, List.forall_mem_append.mpr ⟨rp_Vs_1, rp_Vs_2⟩⟩
set_option maxRecDepth 100000 in
theorem rp_Ts_0 : ∀ q ∈ ([(6, 119, 2, 49), (6, 144, 3, 49), (6, 197, 20, 17), (6, 244, 41, 49)] : List _), mm_TOk ww_tbl ww_nst ww_nm rp_P q := List.forall_mem_cons.mpr ⟨Or.inr (Or.inr ⟨by decide, by decide, _, 1, rfl, Or.inl (ww_c4 48 rfl rfl), ww_c4 49 rfl rfl, by decide +kernel, rfl, rfl⟩), List.forall_mem_cons.mpr ⟨Or.inr (Or.inr ⟨by decide, by decide, _, 1, rfl, Or.inl (ww_c4 71 rfl rfl), ww_c4 72 rfl rfl, by decide +kernel, rfl, rfl⟩), List.forall_mem_cons.mpr ⟨Or.inr (Or.inr ⟨by decide, by decide, _, 1, rfl, Or.inl (ww_c4 122 rfl rfl), ww_c4 123 rfl rfl, by decide +kernel, rfl, rfl⟩), List.forall_mem_cons.mpr ⟨Or.inr (Or.inr ⟨by decide, by decide, _, 1, rfl, Or.inl (ww_c4 173 rfl rfl), ww_c4 174 rfl rfl, by decide +kernel, rfl, rfl⟩), fun _ h => absurd h List.not_mem_nil⟩⟩⟩⟩
set_option maxRecDepth 100000 in
theorem rp_Ts : ∀ q ∈ (([(6, 119, 2, 49), (6, 144, 3, 49), (6, 197, 20, 17), (6, 244, 41, 49)] : List _)), mm_TOk ww_tbl ww_nst ww_nm rp_P q := rp_Ts_0
set_option maxRecDepth 100000 in
theorem rp_Is_0 : ∀ q ∈ ([(6, 170, 1000000)] : List _), (fun q : Nat × Nat × Int32 => Jvm.Cond.constant (ww_nm q.1) q.2.1 q.2.2 ∈ ww_tbl) q := List.forall_mem_cons.mpr ⟨ww_c4 103 rfl rfl, fun _ h => absurd h List.not_mem_nil⟩
set_option maxRecDepth 100000 in
theorem rp_Is : ∀ q ∈ (([(6, 170, 1000000)] : List _)), (fun q : Nat × Nat × Int32 => Jvm.Cond.constant (ww_nm q.1) q.2.1 q.2.2 ∈ ww_tbl) q := rp_Is_0
set_option maxRecDepth 100000 in
theorem rp_Ls_0 : ∀ q ∈ ([(6, 150, 31), (6, 171, 30), (6, 173, 29)] : List _), (fun q : Nat × Nat × Int64 => Jvm.Cond.constantLong (ww_nm q.1) q.2.1 q.2.2 ∈ ww_tbl) q := List.forall_mem_cons.mpr ⟨ww_c4 86 rfl rfl, List.forall_mem_cons.mpr ⟨ww_c4 104 rfl rfl, List.forall_mem_cons.mpr ⟨ww_c4 105 rfl rfl, fun _ h => absurd h List.not_mem_nil⟩⟩⟩
set_option maxRecDepth 100000 in
theorem rp_Ls : ∀ q ∈ (([(6, 150, 31), (6, 171, 30), (6, 173, 29)] : List _)), (fun q : Nat × Nat × Int64 => Jvm.Cond.constantLong (ww_nm q.1) q.2.1 q.2.2 ∈ ww_tbl) q := rp_Ls_0
set_option maxRecDepth 100000 in
theorem rp_OK : mm_OK ww_tbl ww_nst ww_cl ww_nm sr rp_P rp_K := ⟨ww_good, ww_Cs, sr_ok, rp_Ms, rp_Fs, rp_Vs, rp_Ts, rp_Is, rp_Ls⟩
end
