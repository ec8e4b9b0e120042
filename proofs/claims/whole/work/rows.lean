section
/-! THE SMALL MACHINE. A fixed set of cells (objects and arrays, made by the constructors, never more), a pure state, an interpreter over it that is a function; its soundness against the machine is proved once, in 02. Refs are numbers of cells. -/
abbrev mm_S : Type := (Nat → Nat → Int32) × (Nat → Nat → Int64)
/-- a cell: an object (class, fields: (0,_) int, (1,_) boolean, (2,k) the cell k), or an array (0 int, 1 boolean, 2 long, 3 of rows; length; the rows' cells) -/
abbrev mm_Sh : Type := (Nat × List (Nat × Nat)) ⊕ (Nat × Nat × List Nat)
abbrev mm_Row : Type := Instr × Nat × Nat × Int32 × Int64
abbrev mm_R : Type := Int32 × Int64 × mm_S
def mm_w {α : Type} (f : Nat → Nat → α) (k j : Nat) (v : α) : Nat → Nat → α := fun k' => if k' = k then (fun j' => if j' = j then v else f k j') else f k'
abbrev mm_in (i : Int32) (n : Nat) : Prop := ¬ (i < 0 ∨ n ≤ i.toNatClampNeg)
def mm_i1 (st : List Value) (f : Int32 → List Value → Option mm_R) : Option mm_R := match st with
  | .int x :: s => f x s
  | _ => none
def mm_i2 (st : List Value) (f : Int32 → Int32 → List Value → Option mm_R) : Option mm_R := match st with
  | .int y :: .int x :: s => f x y s
  | _ => none
def mm_l1 (st : List Value) (f : Int64 → List Value → Option mm_R) : Option mm_R := match st with
  | .long x :: s => f x s
  | _ => none
def mm_l2 (st : List Value) (f : Int64 → Int64 → List Value → Option mm_R) : Option mm_R := match st with
  | .long y :: .long x :: s => f x y s
  | _ => none
def mm_li (st : List Value) (f : Int64 → Int32 → List Value → Option mm_R) : Option mm_R := match st with
  | .int y :: .long x :: s => f x y s
  | _ => none
def mm_a1 (st : List Value) (f : Nat → List Value → Option mm_R) : Option mm_R := match st with
  | .ref k :: s => f k s
  | _ => none
def mm_ai (st : List Value) (f : Nat → Int32 → List Value → Option mm_R) : Option mm_R := match st with
  | .int i :: .ref k :: s => f k i s
  | _ => none
def mm_aii (st : List Value) (f : Nat → Int32 → Int32 → List Value → Option mm_R) : Option mm_R := match st with
  | .int x :: .int i :: .ref k :: s => f k i x s
  | _ => none
def mm_ail (st : List Value) (f : Nat → Int32 → Int64 → List Value → Option mm_R) : Option mm_R := match st with
  | .long x :: .int i :: .ref k :: s => f k i x s
  | _ => none
def mm_e (st : List Value) (f : Option mm_R) : Option mm_R := match st with
  | [] => f
  | _ => none
theorem mm_i1_inv {st f r} (h : mm_i1 st f = some r) : ∃ x s, st = .int x :: s ∧ f x s = some r := by
  unfold mm_i1 at h; split at h
  · exact ⟨_, _, rfl, h⟩
  · cases h
theorem mm_i2_inv {st f r} (h : mm_i2 st f = some r) : ∃ x y s, st = .int y :: .int x :: s ∧ f x y s = some r := by
  unfold mm_i2 at h; split at h
  · exact ⟨_, _, _, rfl, h⟩
  · cases h
theorem mm_l1_inv {st f r} (h : mm_l1 st f = some r) : ∃ x s, st = .long x :: s ∧ f x s = some r := by
  unfold mm_l1 at h; split at h
  · exact ⟨_, _, rfl, h⟩
  · cases h
theorem mm_l2_inv {st f r} (h : mm_l2 st f = some r) : ∃ x y s, st = .long y :: .long x :: s ∧ f x y s = some r := by
  unfold mm_l2 at h; split at h
  · exact ⟨_, _, _, rfl, h⟩
  · cases h
theorem mm_li_inv {st f r} (h : mm_li st f = some r) : ∃ x y s, st = .int y :: .long x :: s ∧ f x y s = some r := by
  unfold mm_li at h; split at h
  · exact ⟨_, _, _, rfl, h⟩
  · cases h
theorem mm_a1_inv {st f r} (h : mm_a1 st f = some r) : ∃ k s, st = .ref k :: s ∧ f k s = some r := by
  unfold mm_a1 at h; split at h
  · exact ⟨_, _, rfl, h⟩
  · cases h
theorem mm_ai_inv {st f r} (h : mm_ai st f = some r) : ∃ k i s, st = .int i :: .ref k :: s ∧ f k i s = some r := by
  unfold mm_ai at h; split at h
  · exact ⟨_, _, _, rfl, h⟩
  · cases h
theorem mm_aii_inv {st f r} (h : mm_aii st f = some r) : ∃ k i x s, st = .int x :: .int i :: .ref k :: s ∧ f k i x s = some r := by
  unfold mm_aii at h; split at h
  · exact ⟨_, _, _, _, rfl, h⟩
  · cases h
theorem mm_ail_inv {st f r} (h : mm_ail st f = some r) : ∃ k i x s, st = .long x :: .int i :: .ref k :: s ∧ f k i x s = some r := by
  unfold mm_ail at h; split at h
  · exact ⟨_, _, _, _, rfl, h⟩
  · cases h
theorem mm_e_inv {st f r} (h : mm_e st f = some r) : st = [] ∧ f = some r := by
  unfold mm_e at h; split at h
  · exact ⟨rfl, h⟩
  · cases h
def mm_ldi (L : List Value) (k : Nat) : Option Int32 := match L[k]? with
  | some (.int x) => some x
  | _ => none
def mm_ldl (L : List Value) (k : Nat) : Option Int64 := match L[k]? with
  | some (.long x) => some x
  | _ => none
def mm_lda (L : List Value) (k : Nat) : Option Nat := match L[k]? with
  | some (.ref x) => some x
  | _ => none
def mm_kill (L : List Value) (i : Nat) : List Value := match i with
  | 0 => L
  | j + 1 => match L[j]? with
    | some v => if v.category = 2 then L.set j .null else L
    | none => L
def mm_st1 (L : List Value) (i : Nat) (v : Value) : Option (List Value) := if i < L.length then some ((mm_kill L i).set i v) else none
def mm_st2 (L : List Value) (i : Nat) (v : Value) : Option (List Value) := if i + 1 < L.length then some (((mm_kill L i).set i v).set (i + 1) .null) else none
theorem mm_ldi_inv {L k x} (h : mm_ldi L k = some x) : L[k]? = some (.int x) := by
  unfold mm_ldi at h; split at h
  · cases h; assumption
  · cases h
theorem mm_ldl_inv {L k x} (h : mm_ldl L k = some x) : L[k]? = some (.long x) := by
  unfold mm_ldl at h; split at h
  · cases h; assumption
  · cases h
theorem mm_lda_inv {L k x} (h : mm_lda L k = some x) : L[k]? = some (.ref x) := by
  unfold mm_lda at h; split at h
  · cases h; assumption
  · cases h
def mm_fld (sh : List mm_Sh) (σ : mm_S) (ci k j : Nat) : Option Value := match sh[k]? with
  | some (.inl (c, fs)) => if c = ci then (match fs[j]? with
    | some (t, q) => some (if t = 2 then .ref q else .int (σ.1 k j))
    | none => none) else none
  | _ => none
def mm_pf (sh : List mm_Sh) (ci k j : Nat) (x : Int32) : Option Unit := match sh[k]? with
  | some (.inl (c, fs)) => if c = ci then (match fs[j]? with
    | some (t, _) => if t = 0 then some () else if t = 1 then (if x = 0 ∨ x = 1 then some () else none) else none
    | none => none) else none
  | _ => none
def mm_arr (sh : List mm_Sh) (k kd : Nat) : Option Nat := match sh[k]? with
  | some (.inr (d, n, _)) => if d = kd then some n else none
  | _ => none
def mm_grid (sh : List mm_Sh) (k : Nat) (i : Int32) : Option Nat := match sh[k]? with
  | some (.inr (d, n, rw)) => if d = 3 then (if mm_in i n then rw[i.toNatClampNeg]? else none) else none
  | _ => none
def mm_cargs (sh : List mm_Sh) (na ci : Nat) (st : List Value) : Option (List Value × List Value) := match (st.take na).reverse with
  | .ref k :: As => match sh[k]? with
    | some (.inl (c, _)) => if (decide (c = ci) && (decide ((st.drop na).length ≤ 4) && decide (na ≤ st.length))) = true then some (.ref k :: As, st.drop na) else none
    | _ => none
  | _ => none
def mm_sargs (na : Nat) (st : List Value) : Option (List Value × List Value) := if (decide ((st.drop na).length ≤ 4) && decide (na ≤ st.length)) = true then some ((st.take na).reverse, st.drop na) else none
def mm_push (rk : Nat) (u : mm_R) (st : List Value) : List Value := match rk with
  | 0 => st
  | 2 => .long u.2.1 :: st
  | _ => .int u.1 :: st
def mm_ex (sh : List mm_Sh) (call : Nat → List Value → mm_S → Option mm_R) (rk : Nat) (labs : List (Nat × List mm_Row)) : Nat → List mm_Row → List Value → List Value → mm_S → Option mm_R
  | 0, _, _, _, _ => none
  | _ + 1, [], _, _, _ => none
  | n + 1, (i, r1, r2, v, w) :: rs, L, st, σ => match i with
    | .iconst _ => mm_ex sh call rk labs n rs L (.int v :: st) σ
    | .bipush _ => mm_ex sh call rk labs n rs L (.int v :: st) σ
    | .sipush _ => mm_ex sh call rk labs n rs L (.int v :: st) σ
    | .ldc _ => mm_ex sh call rk labs n rs L (.int v :: st) σ
    | .ldc_w _ => mm_ex sh call rk labs n rs L (.int v :: st) σ
    | .lconst _ => mm_ex sh call rk labs n rs L (.long w :: st) σ
    | .ldc2_w _ => mm_ex sh call rk labs n rs L (.long w :: st) σ
    | .iload k => (mm_ldi L k).bind fun x => mm_ex sh call rk labs n rs L (.int x :: st) σ
    | .iload_n k => (mm_ldi L k.val).bind fun x => mm_ex sh call rk labs n rs L (.int x :: st) σ
    | .lload k => (mm_ldl L k).bind fun x => mm_ex sh call rk labs n rs L (.long x :: st) σ
    | .lload_n k => (mm_ldl L k.val).bind fun x => mm_ex sh call rk labs n rs L (.long x :: st) σ
    | .aload k => (mm_lda L k).bind fun x => mm_ex sh call rk labs n rs L (.ref x :: st) σ
    | .aload_n k => (mm_lda L k.val).bind fun x => mm_ex sh call rk labs n rs L (.ref x :: st) σ
    | .istore k => mm_i1 st fun x s => (mm_st1 L k (.int x)).bind fun L' => mm_ex sh call rk labs n rs L' s σ
    | .istore_n k => mm_i1 st fun x s => (mm_st1 L k.val (.int x)).bind fun L' => mm_ex sh call rk labs n rs L' s σ
    | .lstore k => mm_l1 st fun x s => (mm_st2 L k (.long x)).bind fun L' => mm_ex sh call rk labs n rs L' s σ
    | .lstore_n k => mm_l1 st fun x s => (mm_st2 L k.val (.long x)).bind fun L' => mm_ex sh call rk labs n rs L' s σ
    | .iinc k _ => (mm_ldi L k).bind fun x => (mm_st1 L k (.int (x + v))).bind fun L' => mm_ex sh call rk labs n rs L' st σ
    | .iadd => mm_i2 st fun x y s => mm_ex sh call rk labs n rs L (.int (x + y) :: s) σ
    | .isub => mm_i2 st fun x y s => mm_ex sh call rk labs n rs L (.int (x - y) :: s) σ
    | .imul => mm_i2 st fun x y s => mm_ex sh call rk labs n rs L (.int (x * y) :: s) σ
    | .iand => mm_i2 st fun x y s => mm_ex sh call rk labs n rs L (.int (x &&& y) :: s) σ
    | .ior => mm_i2 st fun x y s => mm_ex sh call rk labs n rs L (.int (x ||| y) :: s) σ
    | .ixor => mm_i2 st fun x y s => mm_ex sh call rk labs n rs L (.int (x ^^^ y) :: s) σ
    | .ishl => mm_i2 st fun x y s => mm_ex sh call rk labs n rs L (.int (x <<< (y &&& 31)) :: s) σ
    | .ishr => mm_i2 st fun x y s => mm_ex sh call rk labs n rs L (.int (x >>> (y &&& 31)) :: s) σ
    | .iushr => mm_i2 st fun x y s => mm_ex sh call rk labs n rs L (.int ((x.toUInt32 >>> (y.toUInt32 &&& Int32.toUInt32 31)).toInt32) :: s) σ
    | .ladd => mm_l2 st fun x y s => mm_ex sh call rk labs n rs L (.long (x + y) :: s) σ
    | .land => mm_l2 st fun x y s => mm_ex sh call rk labs n rs L (.long (x &&& y) :: s) σ
    | .lor => mm_l2 st fun x y s => mm_ex sh call rk labs n rs L (.long (x ||| y) :: s) σ
    | .lcmp => mm_l2 st fun x y s => mm_ex sh call rk labs n rs L (.int (lg_cmp x y) :: s) σ
    | .lshl => mm_li st fun x y s => mm_ex sh call rk labs n rs L (.long (x <<< (y.toInt64 &&& 63)) :: s) σ
    | .lshr => mm_li st fun x y s => mm_ex sh call rk labs n rs L (.long (x >>> (y.toInt64 &&& 63)) :: s) σ
    | .i2l => mm_i1 st fun x s => mm_ex sh call rk labs n rs L (.long x.toInt64 :: s) σ
    | .l2i => mm_l1 st fun x s => mm_ex sh call rk labs n rs L (.int x.toInt32 :: s) σ
    | .dup => mm_a1 st fun k s => mm_ex sh call rk labs n rs L (.ref k :: .ref k :: s) σ
    | .dup2 => mm_ai st fun k i s => mm_ex sh call rk labs n rs L (.int i :: .ref k :: .int i :: .ref k :: s) σ
    | .pop => mm_i1 st fun _ s => mm_ex sh call rk labs n rs L s σ
    | .ifCond .eq _ => mm_i1 st fun x s => if x = 0 then (labs[r1]?).bind fun q => mm_ex sh call rk labs n q.2 L s σ else mm_ex sh call rk labs n rs L s σ
    | .ifCond .ne _ => mm_i1 st fun x s => if x = 0 then mm_ex sh call rk labs n rs L s σ else (labs[r1]?).bind fun q => mm_ex sh call rk labs n q.2 L s σ
    | .ifCond .lt _ => mm_i1 st fun x s => if x < 0 then (labs[r1]?).bind fun q => mm_ex sh call rk labs n q.2 L s σ else mm_ex sh call rk labs n rs L s σ
    | .ifCond .ge _ => mm_i1 st fun x s => if 0 ≤ x then (labs[r1]?).bind fun q => mm_ex sh call rk labs n q.2 L s σ else mm_ex sh call rk labs n rs L s σ
    | .ifCond .gt _ => mm_i1 st fun x s => if 0 < x then (labs[r1]?).bind fun q => mm_ex sh call rk labs n q.2 L s σ else mm_ex sh call rk labs n rs L s σ
    | .ifCond .le _ => mm_i1 st fun x s => if x ≤ 0 then (labs[r1]?).bind fun q => mm_ex sh call rk labs n q.2 L s σ else mm_ex sh call rk labs n rs L s σ
    | .if_icmp .eq _ => mm_i2 st fun x y s => if x = y then (labs[r1]?).bind fun q => mm_ex sh call rk labs n q.2 L s σ else mm_ex sh call rk labs n rs L s σ
    | .if_icmp .ne _ => mm_i2 st fun x y s => if x = y then mm_ex sh call rk labs n rs L s σ else (labs[r1]?).bind fun q => mm_ex sh call rk labs n q.2 L s σ
    | .if_icmp .lt _ => mm_i2 st fun x y s => if x < y then (labs[r1]?).bind fun q => mm_ex sh call rk labs n q.2 L s σ else mm_ex sh call rk labs n rs L s σ
    | .if_icmp .ge _ => mm_i2 st fun x y s => if y ≤ x then (labs[r1]?).bind fun q => mm_ex sh call rk labs n q.2 L s σ else mm_ex sh call rk labs n rs L s σ
    | .if_icmp .gt _ => mm_i2 st fun x y s => if y < x then (labs[r1]?).bind fun q => mm_ex sh call rk labs n q.2 L s σ else mm_ex sh call rk labs n rs L s σ
    | .if_icmp .le _ => mm_i2 st fun x y s => if x ≤ y then (labs[r1]?).bind fun q => mm_ex sh call rk labs n q.2 L s σ else mm_ex sh call rk labs n rs L s σ
    | .goto _ => (labs[r1]?).bind fun q => mm_ex sh call rk labs n q.2 L st σ
    | .tableswitch _ lo hi _ => mm_i1 st fun x s => if x.toInt < lo ∨ hi < x.toInt then (labs[r2]?).bind fun q => mm_ex sh call rk labs n q.2 L s σ else (labs[r1 + (x.toInt - lo).toNat]?).bind fun q => mm_ex sh call rk labs n q.2 L s σ
    | .getfield _ => mm_a1 st fun k s => (mm_fld sh σ r1 k r2).bind fun u => mm_ex sh call rk labs n rs L (u :: s) σ
    | .putfield _ => mm_ai st fun k x s => (mm_pf sh r1 k r2 x).bind fun _ => mm_ex sh call rk labs n rs L s (mm_w σ.1 k r2 x, σ.2)
    | .iaload => mm_ai st fun k i s => (mm_arr sh k 0).bind fun z => if mm_in i z then mm_ex sh call rk labs n rs L (.int (σ.1 k i.toNatClampNeg) :: s) σ else none
    | .baload => mm_ai st fun k i s => (mm_arr sh k 1).bind fun z => if mm_in i z then mm_ex sh call rk labs n rs L (.int (σ.1 k i.toNatClampNeg) :: s) σ else none
    | .laload => mm_ai st fun k i s => (mm_arr sh k 2).bind fun z => if mm_in i z then mm_ex sh call rk labs n rs L (.long (σ.2 k i.toNatClampNeg) :: s) σ else none
    | .aaload => mm_ai st fun k i s => (mm_grid sh k i).bind fun q => mm_ex sh call rk labs n rs L (.ref q :: s) σ
    | .iastore => mm_aii st fun k i x s => (mm_arr sh k 0).bind fun z => if mm_in i z then mm_ex sh call rk labs n rs L s (mm_w σ.1 k i.toNatClampNeg x, σ.2) else none
    | .bastore => mm_aii st fun k i x s => (mm_arr sh k 1).bind fun z => if mm_in i z then (if x = 0 ∨ x = 1 then mm_ex sh call rk labs n rs L s (mm_w σ.1 k i.toNatClampNeg x, σ.2) else none) else none
    | .lastore => mm_ail st fun k i x s => (mm_arr sh k 2).bind fun z => if mm_in i z then mm_ex sh call rk labs n rs L s (σ.1, mm_w σ.2 k i.toNatClampNeg x) else none
    | .invokevirtual _ => (mm_cargs sh (r2 % 16) (r2 / 64) st).bind fun q => (call r1 q.1 σ).bind fun u => mm_ex sh call rk labs n rs L (mm_push (r2 / 16 % 4) u q.2) u.2.2
    | .invokestatic _ => match r1 with
      | 1000 => mm_i2 st fun x y s => if s.length ≤ 4 then mm_ex sh call rk labs n rs L (.int (if x < y then y else x) :: s) σ else none
      | 1001 => mm_i2 st fun x y s => if s.length ≤ 4 then mm_ex sh call rk labs n rs L (.int (if y < x then y else x) :: s) σ else none
      | _ => (mm_sargs (r2 % 16) st).bind fun q => (call r1 q.1 σ).bind fun u => mm_ex sh call rk labs n rs L (mm_push (r2 / 16 % 4) u q.2) u.2.2
    | .ireturn => mm_i1 st fun x s => mm_e s (if rk = 1 then some (x, 0, σ) else if rk = 3 then (if x = 0 ∨ x = 1 then some (x, 0, σ) else none) else none)
    | .lreturn => mm_l1 st fun x s => mm_e s (if rk = 2 then some (0, x, σ) else none)
    | .return_ => mm_e st (if rk = 0 then some (0, 0, σ) else none)
    | _ => none
def mm_plain : Value → Bool
  | .int _ => true
  | .long _ => true
  | .ref _ => true
  | _ => false
def mm_ent : List Value → List Value
  | [] => []
  | .long x :: vs => .long x :: .null :: mm_ent vs
  | v :: vs => v :: mm_ent vs
def mm_loc (args : List Value) (maxL : Nat) : List Value := mm_ent args ++ List.replicate (maxL - (mm_ent args).length) .null
/-- a method: the number of its class, its name, code, locals, answer's type, its labels (first: the entry) with the rows from there on -/
abbrev mm_M : Type := Nat × MethodName × ByteArray × Nat × Option FieldType × List (Nat × List mm_Row)
def mm_rk (ret : Option FieldType) : Nat := match ret with
  | none => 0
  | some .int => 1
  | some .long => 2
  | some .boolean => 3
  | _ => 9
def mm_G (sh : List mm_Sh) (P : List mm_M) : Nat → Nat → List Value → mm_S → Option mm_R
  | 0, _, _, _ => none
  | d + 1, m, args, σ => (P[m]?).bind fun M => (M.2.2.2.2.2[0]?).bind fun q =>
    if (args.all mm_plain && decide ((mm_ent args).length ≤ M.2.2.2.1)) = true then mm_ex sh (mm_G sh P d) (mm_rk M.2.2.2.2.1) M.2.2.2.2.2 100000000 q.2 (mm_loc args M.2.2.2.1) [] σ else none
end
section
/-! THE SMALL MACHINE IS SOUND. Cells: mm_wo. A method's contract: mm_Pc, mm_Q. What the tables must say: mm_OK. Then mm_all: what mm_G answers, the machine does. -/
def mm_rho (a : Nat → Nat) (v : Value) : Value := match v with
  | .ref k => .ref (a k)
  | v => v
theorem mm_rho_cat (a : Nat → Nat) (v : Value) : (mm_rho a v).category = v.category := by cases v <;> rfl
def mm_lok (a : Nat → Nat) (ls : Array Slot) (nL : Nat) (L : List Value) : Prop := ls.size = nL ∧ lv_wf ls ∧ L.length = nL ∧ ∀ (i : Nat) (v : Value), L[i]? = some v → v ≠ .null → ls[i]? = some (.val (mm_rho a v))
def mm_prs (a : Nat → Nat) (L : List Value) : List (Nat × Value) := (List.range L.length).filterMap fun i => (L[i]?).bind fun v => if v = .null then none else some (i, mm_rho a v)
theorem mm_prs_mem {a : Nat → Nat} {L : List Value} {q : Nat × Value} : q ∈ mm_prs a L ↔ ∃ v, L[q.1]? = some v ∧ v ≠ .null ∧ q.2 = mm_rho a v := by
  unfold mm_prs
  rw [List.mem_filterMap]
  constructor
  · rintro ⟨i, -, h⟩
    cases hv : L[i]? with
    | none => rw [hv] at h; cases h
    | some v =>
      rw [hv] at h
      by_cases hn : v = .null
      · simp [hn] at h
      · simp [hn] at h
        subst h
        exact ⟨v, hv, hn, rfl⟩
  · rintro ⟨v, h1, h2, h3⟩
    refine ⟨q.1, List.mem_range.mpr (List.getElem?_eq_some_iff.mp h1).1, ?_⟩
    rw [h1]
    simp [h2, ← h3]
theorem mm_lok.has {a : Nat → Nat} {ls : Array Slot} {nL : Nat} {L : List Value} (h : mm_lok a ls nL L) : lv_has ls nL (mm_prs a L) := ⟨h.1, h.2.1, fun q hq => by
  obtain ⟨v, h1, h2, h3⟩ := mm_prs_mem.mp hq
  rw [h3]
  exact h.2.2.2 _ _ h1 h2⟩
theorem mm_lok.at {a : Nat → Nat} {ls : Array Slot} {nL : Nat} {L : List Value} (h : mm_lok a ls nL L) {i : Nat} {v : Value} (hv : L[i]? = some v) (hn : v ≠ .null) : ls[i]? = some (.val (mm_rho a v)) := h.2.2.2 i v hv hn
theorem mm_kill_len (L : List Value) (i : Nat) : (mm_kill L i).length = L.length := by
  unfold mm_kill
  split
  · rfl
  · split
    · split
      · rw [List.length_set]
      · rfl
    · rfl
theorem mm_kill_at {L : List Value} {i j : Nat} {u : Value} (h : (mm_kill L i)[j]? = some u) (hn : u ≠ .null) : L[j]? = some u ∧ ¬ (j + 1 = i ∧ u.category = 2) := by
  unfold mm_kill at h
  split at h
  · exact ⟨h, fun q => by omega⟩
  · rename_i i
    split at h
    · rename_i v hv
      split at h
      · rename_i hc
        by_cases hj : j = i
        · subst hj
          rw [List.getElem?_set_self (List.getElem?_eq_some_iff.mp hv).1] at h
          cases h
          exact absurd rfl hn
        · rw [List.getElem?_set_ne (Ne.symm hj)] at h
          exact ⟨h, fun q => hj (by omega)⟩
      · rename_i hc
        refine ⟨h, fun q => ?_⟩
        have : j = i := by omega
        subst this
        cases h.symm.trans hv
        exact hc q.2
    · rename_i hv
      refine ⟨h, fun q => ?_⟩
      have : j = i := by omega
      subst this
      cases h.symm.trans hv
theorem mm_st1_inv {L L' : List Value} {i : Nat} {v : Value} (h : mm_st1 L i v = some L') : i < L.length ∧ L' = (mm_kill L i).set i v := by
  unfold mm_st1 at h
  split at h
  · cases h
    exact ⟨by assumption, rfl⟩
  · cases h
theorem mm_st2_inv {L L' : List Value} {i : Nat} {v : Value} (h : mm_st2 L i v = some L') : i + 1 < L.length ∧ L' = ((mm_kill L i).set i v).set (i + 1) .null := by
  unfold mm_st2 at h
  split at h
  · cases h
    exact ⟨by assumption, rfl⟩
  · cases h
theorem mm_lok.st1 {a : Nat → Nat} {ls ls' : Array Slot} {nL i : Nat} {L L' : List Value} {v w : Value} (h : mm_lok a ls nL L) (hs : mm_st1 L i v = some L') (hw : w = mm_rho a v) (h' : lv_has ls' nL ((i, w) :: (mm_prs a L).filter (fun q => !(q.1 == i) && !(q.1 + 1 == i && q.2.category == 2)))) : mm_lok a ls' nL L' := by
  obtain ⟨h1, rfl⟩ := mm_st1_inv hs
  refine ⟨h'.1, h'.2.1, by rw [List.length_set, mm_kill_len]; exact h.2.2.1, fun j u hj hn => ?_⟩
  by_cases hji : j = i
  · subst hji
    rw [List.getElem?_set_self (by rw [mm_kill_len]; exact h1)] at hj
    cases hj
    exact h'.2.2 (j, mm_rho a v) (by rw [hw]; exact List.mem_cons_self)
  · rw [List.getElem?_set_ne (Ne.symm hji)] at hj
    obtain ⟨hj, hk⟩ := mm_kill_at hj hn
    refine h'.2.2 (j, mm_rho a u) (List.mem_cons_of_mem _ (List.mem_filter.mpr ⟨mm_prs_mem.mpr ⟨u, hj, hn, rfl⟩, ?_⟩))
    have : ¬ (j + 1 = i ∧ (mm_rho a u).category = 2) := by rw [mm_rho_cat]; exact hk
    simp [hji]
    rcases Classical.em (j + 1 = i) with q | q
    · exact Or.inr (fun z => this ⟨q, z⟩)
    · exact Or.inl q
theorem mm_lok.st2 {a : Nat → Nat} {ls ls' : Array Slot} {nL i : Nat} {L L' : List Value} {v w : Value} (h : mm_lok a ls nL L) (hs : mm_st2 L i v = some L') (hw : w = mm_rho a v) (h' : lv_has ls' nL ((i, w) :: (mm_prs a L).filter (fun q => !(q.1 == i) && (!(q.1 == i + 1) && !(q.1 + 1 == i && q.2.category == 2))))) : mm_lok a ls' nL L' := by
  obtain ⟨h1, rfl⟩ := mm_st2_inv hs
  refine ⟨h'.1, h'.2.1, by rw [List.length_set, List.length_set, mm_kill_len]; exact h.2.2.1, fun j u hj hn => ?_⟩
  by_cases hj1 : j = i + 1
  · subst hj1
    rw [List.getElem?_set_self (by rw [List.length_set, mm_kill_len]; exact h1)] at hj
    cases hj
    exact absurd rfl hn
  rw [List.getElem?_set_ne (Ne.symm hj1)] at hj
  by_cases hji : j = i
  · subst hji
    rw [List.getElem?_set_self (by rw [mm_kill_len]; omega)] at hj
    cases hj
    exact h'.2.2 (j, mm_rho a v) (by rw [hw]; exact List.mem_cons_self)
  · rw [List.getElem?_set_ne (Ne.symm hji)] at hj
    obtain ⟨hj, hk⟩ := mm_kill_at hj hn
    refine h'.2.2 (j, mm_rho a u) (List.mem_cons_of_mem _ (List.mem_filter.mpr ⟨mm_prs_mem.mpr ⟨u, hj, hn, rfl⟩, ?_⟩))
    have : ¬ (j + 1 = i ∧ (mm_rho a u).category = 2) := by rw [mm_rho_cat]; exact hk
    simp [hji, hj1]
    rcases Classical.em (j + 1 = i) with q | q
    · exact Or.inr (fun z => this ⟨q, z⟩)
    · exact Or.inl q
-- the world
def mm_fv (a : Nat → Nat) (σ : mm_S) (k j : Nat) (f : Nat × Nat) : Value := if f.1 = 2 then .ref (a f.2) else .int (σ.1 k j)
def mm_ce (ca : Nat → ClassId) (a : Nat → Nat) (σ : mm_S) (k : Nat) : mm_Sh → va_E
  | .inl (ci, fs) => .inr (ci, fs.mapIdx fun j f => mm_fv a σ k j f)
  | .inr (kd, n, rw) => .inl (ca kd, n, if kd = 2 then .inr (.inl (σ.2 k)) else if kd = 3 then .inr (.inr (.inr (.inr (fun i => (rw[i]?).map a)))) else .inl (σ.1 k))
def mm_wo (sh : List mm_Sh) (ca : Nat → ClassId) (a : Nat → Nat) (σ : mm_S) : va_W := sh.mapIdx fun k x => (a k, mm_ce ca a σ k x)
def mm_tys (ca : Nat → ClassId) : List (ClassId × FieldType) := [(ca 0, .int), (ca 1, .boolean), (ca 2, .long), (ca 3, .array .int)]
theorem mm_wo_at {sh : List mm_Sh} {ca : Nat → ClassId} {a : Nat → Nat} {σ : mm_S} {k : Nat} {x : mm_Sh} (h : sh[k]? = some x) : (mm_wo sh ca a σ)[k]? = some (a k, mm_ce ca a σ k x) := by
  unfold mm_wo
  rw [List.getElem?_mapIdx, h]
  rfl
theorem mm_wo_get {sh : List mm_Sh} {ca : Nat → ClassId} {a : Nat → Nat} {σ : mm_S} {k : Nat} {q : Nat × va_E} (h : (mm_wo sh ca a σ)[k]? = some q) : ∃ x, sh[k]? = some x ∧ q = (a k, mm_ce ca a σ k x) := by
  unfold mm_wo at h
  rw [List.getElem?_mapIdx] at h
  cases hx : sh[k]? with
  | none => rw [hx] at h; cases h
  | some x => rw [hx] at h; exact ⟨x, rfl, (Option.some.inj h).symm⟩
theorem mm_w_ne {α : Type} {f : Nat → Nat → α} {k j k' : Nat} {v : α} (h : k' ≠ k) : mm_w f k j v k' = f k' := by
  unfold mm_w; rw [if_neg h]
theorem mm_w_eq {α : Type} {f : Nat → Nat → α} {k j : Nat} {v : α} : mm_w f k j v k = fun j' => if j' = j then v else f k j' := by
  unfold mm_w; rw [if_pos rfl]
theorem mm_ce_eq {ca : Nat → ClassId} {a : Nat → Nat} {σ σ' : mm_S} {k : Nat} (h1 : σ'.1 k = σ.1 k) (h2 : σ'.2 k = σ.2 k) (x : mm_Sh) : mm_ce ca a σ' k x = mm_ce ca a σ k x := by
  rcases x with ⟨ci, fs⟩ | ⟨kd, n, rw⟩
  · simp only [mm_ce, mm_fv, h1]
  · simp only [mm_ce, h1, h2]
theorem mm_wo_set {sh : List mm_Sh} {ca : Nat → ClassId} {a : Nat → Nat} {σ σ' : mm_S} {k : Nat} {x : mm_Sh} {e : va_E} (h : sh[k]? = some x) (he : mm_ce ca a σ' k x = e) (ho : ∀ k', k' ≠ k → σ'.1 k' = σ.1 k' ∧ σ'.2 k' = σ.2 k') : (mm_wo sh ca a σ).set k (a k, e) = mm_wo sh ca a σ' := by
  have hl : k < (mm_wo sh ca a σ).length := (List.getElem?_eq_some_iff.mp (mm_wo_at (ca := ca) (a := a) (σ := σ) h)).1
  apply List.ext_getElem?
  intro i
  by_cases hi : i = k
  · subst hi
    rw [List.getElem?_set_self hl, mm_wo_at h, he]
  · rw [List.getElem?_set_ne (Ne.symm hi)]
    cases hx : sh[i]? with
    | none =>
      have e1 : (mm_wo sh ca a σ)[i]? = none := by unfold mm_wo; rw [List.getElem?_mapIdx, hx]; rfl
      have e2 : (mm_wo sh ca a σ')[i]? = none := by unfold mm_wo; rw [List.getElem?_mapIdx, hx]; rfl
      rw [e1, e2]
    | some y => rw [mm_wo_at hx, mm_wo_at hx, mm_ce_eq (ho i hi).1 (ho i hi).2]
theorem mm_A_eq {sh : List mm_Sh} {ca : Nat → ClassId} {a : Nat → Nat} {σ : mm_S} {sz q : Nat} : va_A (mm_wo sh ca a σ) sz q ↔ ((∃ k, k < sh.length ∧ q = a k) ∨ sz ≤ q) := by
  constructor
  · rintro (⟨k, e, h⟩ | h)
    · obtain ⟨x, h1, h2⟩ := mm_wo_get h
      exact Or.inl ⟨k, (List.getElem?_eq_some_iff.mp h1).1, congrArg Prod.fst h2⟩
    · exact Or.inr h
  · rintro (⟨k, h, rfl⟩ | h)
    · exact Or.inl ⟨k, _, mm_wo_at (List.getElem?_eq_getElem h)⟩
    · exact Or.inr h
-- contracts
def mm_rv (rk : Nat) (u : mm_R) : Option Value := match rk with
  | 0 => none
  | 2 => some (.long u.2.1)
  | _ => some (.int u.1)
theorem mm_push_rv (a : Nat → Nat) (rk : Nat) (u : mm_R) (st : List Value) : (mm_rv rk u).toList ++ st.map (mm_rho a) = (mm_push rk u st).map (mm_rho a) := by
  match rk with
  | 0 => rfl
  | 1 => rfl
  | 2 => rfl
  | n + 3 => rfl
abbrev mm_N : Type := List (String × Nat × MethodName × String)
def mm_Nk (nst : mm_N) (U : State) : Prop := ∀ q ∈ nst, va_Nw (.methodLinkNest q.1 q.2.1 q.2.2.1 q.2.2.2) U
def mm_Pc (nst : mm_N) (sh : List mm_Sh) (cl : List vw_C) (D : va_G) (ca : Nat → ClassId) (a : Nat → Nat) (args : List Value) (σ : mm_S) (sz : Nat) : Array Value → State → Prop :=
  va_Pc (args.map (mm_rho a)) (fun U => U.heap.size = sz ∧ va_P D cl (mm_wo sh ca a σ) U.heap ∧ va_K D cl (mm_tys ca) U ∧ va_D (fun _ => True) (mm_wo sh ca a σ) ∧ mm_Nk nst U)
def mm_Q (sh : List mm_Sh) (cl : List vw_C) (D : va_G) (ca : Nat → ClassId) (a : Nat → Nat) (rk : Nat) (u : mm_R) (A : Nat → Prop) : Array Value → State → Outcome → State → Prop :=
  fun _ st oc t => (oc = .returned (mm_rv rk u) ∧ va_P D cl (mm_wo sh ca a u.2.2) t.heap ∧ va_K D cl (mm_tys ca) t ∧ va_D A (mm_wo sh ca a u.2.2)) ∧ va_F A st t
def mm_ws (tbl : List Jvm.Cond) (M : mm_M) : List Jvm.Cond := Jvm.Cond.code M.2.1 M.2.2.1 M.2.2.2.1 M.2.2.2.2.1 :: tbl
def mm_Con (l : Launch) (tbl : List Jvm.Cond) (nst : mm_N) (sh : List mm_Sh) (cl : List vw_C) (D : va_G) (ca : Nat → ClassId) (a : Nat → Nat) (rm : Room) (M : mm_M) (args : List Value) (σ : mm_S) (u : mm_R) : Prop :=
  ∀ sz : Nat, Met l M.2.1 (mm_ws tbl M) rm (mm_Pc nst sh cl D ca a args σ sz) (mm_Q sh cl D ca a (mm_rk M.2.2.2.2.1) u (va_A (mm_wo sh ca a σ) sz)) 0 0 (va_A (mm_wo sh ca a σ) sz)
-- what the tables must say
def mm_len : Instr → Nat
  | .bipush _ => 2
  | .sipush _ => 3
  | .ldc _ => 2
  | .ldc_w _ => 3
  | .ldc2_w _ => 3
  | .iload _ => 2
  | .lload _ => 2
  | .aload _ => 2
  | .istore _ => 2
  | .lstore _ => 2
  | .iinc _ _ => 3
  | .ifCond _ _ => 3
  | .if_icmp _ _ => 3
  | .goto _ => 3
  | .getfield _ => 3
  | .putfield _ => 3
  | .invokevirtual _ => 3
  | .invokestatic _ => 3
  | .tableswitch _ _ _ _ => 0
  | _ => 1
abbrev mm_Lk : Type := List (Nat × Nat × Nat × Nat) × List (Nat × Nat × Nat × Nat) × List (Nat × Nat × Nat × Nat) × List (Nat × Nat × Int32) × List (Nat × Nat × Int64)
def mm_lab (labs : List (Nat × List mm_Row)) (r pc : Nat) (off : Int) : Bool := match labs[r]? with
  | some q => decide ((pc : Int) + off = (q.1 : Int))
  | none => false
def mm_side (K : mm_Lk) (o pc : Nat) (labs : List (Nat × List mm_Row)) : mm_Row → Bool
  | (.iconst k, _, _, v, _) => decide (Int32.ofInt k = v)
  | (.bipush k, _, _, v, _) => decide ((Int8.ofInt k).toInt32 = v)
  | (.sipush k, _, _, v, _) => decide ((Int16.ofInt k).toInt32 = v)
  | (.lconst k, _, _, _, w) => decide (Int64.ofNat k.val = w)
  | (.iinc _ c, _, _, v, _) => decide (Int32.ofInt c = v)
  | (.ldc k, _, _, v, _) => decide ((o, k, v) ∈ K.2.2.2.1)
  | (.ldc_w k, _, _, v, _) => decide ((o, k, v) ∈ K.2.2.2.1)
  | (.ldc2_w k, _, _, _, w) => decide ((o, k, w) ∈ K.2.2.2.2)
  | (.ifCond _ off, r1, _, _, _) => mm_lab labs r1 pc off
  | (.if_icmp _ off, r1, _, _, _) => mm_lab labs r1 pc off
  | (.goto off, r1, _, _, _) => mm_lab labs r1 pc off
  | (.tableswitch d lo hi offs, r1, r2, _, _) => mm_lab labs r2 pc d && (decide (hi - lo < offs.size) && (List.range offs.size).all fun i => match offs[i]? with
    | some off => mm_lab labs (r1 + i) pc off
    | none => false)
  | (.getfield k, r1, r2, _, _) => decide ((o, k, r1, r2) ∈ K.1)
  | (.putfield k, r1, r2, _, _) => decide ((o, k, r1, r2) ∈ K.1)
  | (.invokevirtual k, r1, r2, _, _) => decide ((o, k, r1, r2) ∈ K.2.1)
  | (.invokestatic k, r1, r2, _, _) => decide ((o, k, r1, r2) ∈ K.2.2.1)
  | _ => true
def mm_chk (K : mm_Lk) (o : Nat) (cc : ByteArray) (labs : List (Nat × List mm_Row)) : Nat → List mm_Row → Bool
  | _, [] => true
  | pc, x :: rs => match decode cc pc with
    | .ok (i, len) => decide (i = x.1) && (mm_side K o pc labs x && ((decide (len = mm_len i) || decide (mm_len i = 0)) && mm_chk K o cc labs (pc + len) rs))
    | .error _ => false
theorem mm_chk_inv {K : mm_Lk} {o : Nat} {cc : ByteArray} {labs : List (Nat × List mm_Row)} {pc : Nat} {x : mm_Row} {rs : List mm_Row} (h : mm_chk K o cc labs pc (x :: rs) = true) : ∃ len, decode cc pc = .ok (x.1, len) ∧ mm_side K o pc labs x = true ∧ (len = mm_len x.1 ∨ mm_len x.1 = 0) ∧ mm_chk K o cc labs (pc + len) rs = true := by
  unfold mm_chk at h
  split at h
  · rename_i i len hd
    simp only [Bool.and_eq_true, Bool.or_eq_true, decide_eq_true_eq] at h
    obtain ⟨h1, h2, h3, h4⟩ := h
    subst h1
    exact ⟨len, hd, h2, h3, h4⟩
  · cases h
theorem mm_lab_inv {labs : List (Nat × List mm_Row)} {r pc : Nat} {off : Int} (h : mm_lab labs r pc off = true) : ∃ q, labs[r]? = some q ∧ (pc : Int) + off = (q.1 : Int) := by
  unfold mm_lab at h
  split at h
  · exact ⟨_, by assumption, by simpa using h⟩
  · cases h
def mm_FOk (tbl : List Jvm.Cond) (cl : List vw_C) (nm : Nat → String) (q : Nat × Nat × Nat × Nat) : Prop :=
  ∃ (C : String) (T : u_T) (N : Nat), cl[q.2.2.1]? = some (C, T, N) ∧ q.2.2.2 < N ∧ Jvm.Cond.fieldLink (nm q.1) q.2.1 C (T q.2.2.2).2.1 (T q.2.2.2).2.2.1 ∈ tbl
def mm_COk (tbl : List Jvm.Cond) (r : vw_C) : Prop :=
  (∀ w ∈ u_ws r.1 r.2.1 r.2.2, w ∈ tbl) ∧ (∀ k, k < r.2.2 → (r.2.1 k).1 = r.1) ∧ ∃ ty0 : Nat → FieldType, (∀ k, k < r.2.2 → parseFieldDescriptor (r.2.1 k).2.2.1 = some (ty0 k)) ∧ (∀ a, a < r.2.2 → ∀ b, b < r.2.2 → a ≠ b → (r.2.1 a).2.1 ≠ (r.2.1 b).2.1)
def mm_SOk (cl : List vw_C) (x : mm_Sh) : Prop := ∀ (ci : Nat) (fs : List (Nat × Nat)), x = .inl (ci, fs) →
  ∃ (C : String) (T : u_T) (N : Nat), cl[ci]? = some (C, T, N) ∧ fs.length = N ∧ ∀ (j t q : Nat), fs[j]? = some (t, q) → (t = 0 → (T j).2.2.2 = false ∧ parseFieldDescriptor (T j).2.2.1 = some .int) ∧ (t = 1 → (T j).2.2.2 = false ∧ parseFieldDescriptor (T j).2.2.1 = some .boolean)
def mm_NoMH (y : MethodName) : Prop := y.cls ≠ "java/lang/invoke/MethodHandle" ∧ y.cls ≠ "java/lang/invoke/VarHandle"
def mm_MOk (tbl : List Jvm.Cond) (nm : Nat → String) (K : mm_Lk) (M : mm_M) : Prop :=
  Jvm.Cond.code M.2.1 M.2.2.1 M.2.2.2.1 M.2.2.2.2.1 ∈ tbl ∧ Jvm.Cond.initialized M.2.1.cls ∈ tbl ∧ M.2.1.cls = nm M.1 ∧ plainName M.2.1.cls = true ∧ mm_NoMH M.2.1 ∧ M.2.2.2.1 ≤ 20 ∧ (∃ rs, M.2.2.2.2.2[0]? = some (0, rs)) ∧ mm_rk M.2.2.2.2.1 ≤ 3 ∧ ∀ q ∈ M.2.2.2.2.2, mm_chk K M.1 M.2.2.1 M.2.2.2.2.2 q.1 q.2 = true
abbrev mm_par (y : MethodName) (n : Nat) : Prop := (parseMethodDescriptor y.desc).map (fun d => d.parameters.length) = some n
def mm_VOk (tbl : List Jvm.Cond) (cl : List vw_C) (nm : Nat → String) (P : List mm_M) (q : Nat × Nat × Nat × Nat) : Prop :=
  ∃ (M : mm_M) (T : u_T) (N n : Nat), P[q.2.2.1]? = some M ∧ Jvm.Cond.methodLink (nm q.1) q.2.1 M.2.1 ∈ tbl ∧ Jvm.Cond.instanceMethod M.2.1 ∈ tbl ∧ Jvm.Cond.selects M.2.1.cls M.2.1 M.2.1 ∈ tbl ∧ cl[q.2.2.2 / 64]? = some (M.2.1.cls, T, N) ∧ mm_par M.2.1 n ∧ q.2.2.2 % 16 = n + 1 ∧ q.2.2.2 / 16 % 4 = mm_rk M.2.2.2.2.1
def mm_JOk (tbl : List Jvm.Cond) (nm : Nat → String) (q : Nat × Nat × Nat × Nat) (y : MethodName) (cc : ByteArray) : Prop :=
  Jvm.Cond.methodLink (nm q.1) q.2.1 y ∈ tbl ∧ Jvm.Cond.static y ∈ tbl ∧ Jvm.Cond.initialized "java/lang/Math" ∈ tbl ∧ Jvm.Cond.code y cc 2 (some .int) ∈ tbl
def mm_TOk (tbl : List Jvm.Cond) (nst : mm_N) (nm : Nat → String) (P : List mm_M) (q : Nat × Nat × Nat × Nat) : Prop :=
  (q.2.2.1 = 1000 ∧ mm_JOk tbl nm q Lib.Math.max.name Lib.Math.max.code) ∨ (q.2.2.1 = 1001 ∧ mm_JOk tbl nm q Lib.Math.min.name Lib.Math.min.code) ∨
  (¬ q.2.2.1 = 1000 ∧ ¬ q.2.2.1 = 1001 ∧ ∃ (M : mm_M) (n : Nat), P[q.2.2.1]? = some M ∧ (Jvm.Cond.methodLink (nm q.1) q.2.1 M.2.1 ∈ tbl ∨ ∃ host, (nm q.1, q.2.1, M.2.1, host) ∈ nst) ∧ Jvm.Cond.static M.2.1 ∈ tbl ∧ mm_par M.2.1 n ∧ q.2.2.2 % 16 = n ∧ q.2.2.2 / 16 % 4 = mm_rk M.2.2.2.2.1)
def mm_OK (tbl : List Jvm.Cond) (nst : mm_N) (cl : List vw_C) (nm : Nat → String) (sh : List mm_Sh) (P : List mm_M) (K : mm_Lk) : Prop :=
  (∀ w ∈ tbl, goodWord w = true) ∧ (∀ r ∈ cl, mm_COk tbl r) ∧ (∀ x ∈ sh, mm_SOk cl x) ∧ (∀ M ∈ P, mm_MOk tbl nm K M) ∧ (∀ q ∈ K.1, mm_FOk tbl cl nm q) ∧ (∀ q ∈ K.2.1, mm_VOk tbl cl nm P q) ∧ (∀ q ∈ K.2.2.1, mm_TOk tbl nst nm P q) ∧ (∀ q ∈ K.2.2.2.1, Jvm.Cond.constant (nm q.1) q.2.1 q.2.2 ∈ tbl) ∧ (∀ q ∈ K.2.2.2.2, Jvm.Cond.constantLong (nm q.1) q.2.1 q.2.2 ∈ tbl)
theorem mm_bind {α β : Type} {x : Option α} {f : α → Option β} {r : β} (h : x.bind f = some r) : ∃ u, x = some u ∧ f u = some r := by
  cases x with
  | none => cases h
  | some u => exact ⟨u, rfl, h⟩
theorem mm_good {tbl : List Jvm.Cond} {M : mm_M} (h : ∀ w ∈ tbl, goodWord w = true) (hc : Jvm.Cond.code M.2.1 M.2.2.1 M.2.2.2.1 M.2.2.2.2.1 ∈ tbl) : GoodIn tbl (mm_ws tbl M) := fun w hw => by
  rcases List.mem_cons.mp hw with rfl | hw
  · exact ⟨hc, good_of_word (h _ hc)⟩
  · exact ⟨hw, good_of_word (h _ hw)⟩
theorem mm_fld_inv {sh : List mm_Sh} {σ : mm_S} {ci k j : Nat} {u : Value} (h : mm_fld sh σ ci k j = some u) : ∃ fs t q, sh[k]? = some (.inl (ci, fs)) ∧ fs[j]? = some (t, q) ∧ u = if t = 2 then .ref q else .int (σ.1 k j) := by
  unfold mm_fld at h
  split at h
  · rename_i c fs hs
    split at h
    · rename_i hc
      subst hc
      split at h
      · rename_i t q hf
        exact ⟨fs, t, q, hs, hf, (Option.some.inj h).symm⟩
      · cases h
    · cases h
  · cases h
theorem mm_pf_inv {sh : List mm_Sh} {ci k j : Nat} {x : Int32} {u : Unit} (h : mm_pf sh ci k j x = some u) : ∃ fs t q, sh[k]? = some (.inl (ci, fs)) ∧ fs[j]? = some (t, q) ∧ (t = 0 ∨ (t = 1 ∧ (x = 0 ∨ x = 1))) := by
  unfold mm_pf at h
  split at h
  · rename_i c fs hs
    split at h
    · rename_i hc
      subst hc
      split at h
      · rename_i t q hf
        refine ⟨fs, t, q, hs, hf, ?_⟩
        split at h
        · exact Or.inl (by assumption)
        · split at h
          · split at h
            · exact Or.inr ⟨by assumption, by assumption⟩
            · cases h
          · cases h
      · cases h
    · cases h
  · cases h
theorem mm_arr_inv {sh : List mm_Sh} {k kd n : Nat} (h : mm_arr sh k kd = some n) : ∃ rw, sh[k]? = some (.inr (kd, n, rw)) := by
  unfold mm_arr at h
  split at h
  · rename_i d n' rw hs
    split at h
    · rename_i hc
      subst hc
      cases h
      exact ⟨rw, hs⟩
    · cases h
  · cases h
theorem mm_grid_inv {sh : List mm_Sh} {k q : Nat} {i : Int32} (h : mm_grid sh k i = some q) : ∃ n rw, sh[k]? = some (.inr (3, n, rw)) ∧ mm_in i n ∧ rw[i.toNatClampNeg]? = some q := by
  unfold mm_grid at h
  split at h
  · rename_i d n rw hs
    split at h
    · rename_i hc
      subst hc
      split at h
      · exact ⟨n, rw, hs, by assumption, h⟩
      · cases h
    · cases h
  · cases h
theorem mm_cargs_inv {sh : List mm_Sh} {na ci : Nat} {st : List Value} {q : List Value × List Value} (h : mm_cargs sh na ci st = some q) : ∃ k As fs, q.1 = .ref k :: As ∧ sh[k]? = some (.inl (ci, fs)) ∧ st = As.reverse ++ .ref k :: q.2 ∧ q.2.length ≤ 4 ∧ As.length + 1 = na := by
  unfold mm_cargs at h
  split at h
  · rename_i k As he
    split at h
    · rename_i c fs hs
      split at h
      · rename_i hc
        simp only [Bool.and_eq_true, decide_eq_true_eq] at hc
        obtain ⟨rfl, h1, h2⟩ := hc
        cases h
        have e : st.take na = As.reverse ++ [.ref k] := by
          have := congrArg List.reverse he
          rw [List.reverse_reverse] at this
          rw [this]; simp
        have hl : As.length + 1 = na := by
          have := congrArg List.length he
          simp at this
          omega
        refine ⟨k, As, fs, rfl, hs, ?_, h1, hl⟩
        show st = As.reverse ++ .ref k :: st.drop na
        conv => lhs; rw [← List.take_append_drop na st, e]
        simp
      · cases h
    · cases h
  · cases h
theorem mm_sargs_inv {na : Nat} {st : List Value} {q : List Value × List Value} (h : mm_sargs na st = some q) : st = q.1.reverse ++ q.2 ∧ q.2.length ≤ 4 ∧ q.1.length = na := by
  unfold mm_sargs at h
  split at h
  · rename_i hc
    simp only [Bool.and_eq_true, decide_eq_true_eq] at hc
    cases h
    refine ⟨by simp, hc.1, ?_⟩
    simp
    omega
  · cases h
theorem mm_cats (a : Nat → Nat) (st : List Value) (h : st.length ≤ 4) : (((st.map (mm_rho a)).map fun v => v.category).sum) ≤ 8 := by
  have key : ∀ l : List Value, ((l.map fun v => v.category).sum) ≤ 2 * l.length := by
    intro l
    induction l with
    | nil => simp
    | cons v l ih =>
      rcases lv_cat v with h | h <;> simp [h] <;> omega
  have := key (st.map (mm_rho a))
  rw [List.length_map] at this
  omega
end
section
/-! the small machine's rows against the machine's: one theorem for all code -/
theorem mm_ce_i {ca : Nat → ClassId} {a : Nat → Nat} {σ : mm_S} {k n : Nat} {rw : List Nat} : mm_ce ca a σ k (.inr (0, n, rw)) = .inl (ca 0, n, .inl (σ.1 k)) := rfl
theorem mm_ce_b {ca : Nat → ClassId} {a : Nat → Nat} {σ : mm_S} {k n : Nat} {rw : List Nat} : mm_ce ca a σ k (.inr (1, n, rw)) = .inl (ca 1, n, .inl (σ.1 k)) := rfl
theorem mm_ce_l {ca : Nat → ClassId} {a : Nat → Nat} {σ : mm_S} {k n : Nat} {rw : List Nat} : mm_ce ca a σ k (.inr (2, n, rw)) = .inl (ca 2, n, .inr (.inl (σ.2 k))) := rfl
theorem mm_ce_g {ca : Nat → ClassId} {a : Nat → Nat} {σ : mm_S} {k n : Nat} {rw : List Nat} : mm_ce ca a σ k (.inr (3, n, rw)) = .inl (ca 3, n, .inr (.inr (.inr (.inr (fun i => (rw[i]?).map a))))) := rfl
theorem mm_ce_o {ca : Nat → ClassId} {a : Nat → Nat} {σ : mm_S} {k ci : Nat} {fs : List (Nat × Nat)} : mm_ce ca a σ k (.inl (ci, fs)) = .inr (ci, fs.mapIdx fun j f => mm_fv a σ k j f) := rfl
theorem mm_wo_i {sh : List mm_Sh} {ca : Nat → ClassId} {a : Nat → Nat} {σ : mm_S} {k n j : Nat} {rw : List Nat} {x : Int32} (h : sh[k]? = some (.inr (0, n, rw))) : (mm_wo sh ca a σ).set k (a k, .inl (ca 0, n, .inl (upd (σ.1 k) j x))) = mm_wo sh ca a (mm_w σ.1 k j x, σ.2) :=
  mm_wo_set h (by rw [mm_ce_i]; show _ = Sum.inl (ca 0, n, Sum.inl (upd (σ.1 k) j x)); rw [show (mm_w σ.1 k j x, σ.2).1 k = upd (σ.1 k) j x from mm_w_eq]) (fun k' hk => ⟨mm_w_ne hk, rfl⟩)
theorem mm_wo_b {sh : List mm_Sh} {ca : Nat → ClassId} {a : Nat → Nat} {σ : mm_S} {k n j : Nat} {rw : List Nat} {x : Int32} (h : sh[k]? = some (.inr (1, n, rw))) : (mm_wo sh ca a σ).set k (a k, .inl (ca 1, n, .inl (upd (σ.1 k) j x))) = mm_wo sh ca a (mm_w σ.1 k j x, σ.2) :=
  mm_wo_set h (by rw [mm_ce_b]; show _ = Sum.inl (ca 1, n, Sum.inl (upd (σ.1 k) j x)); rw [show (mm_w σ.1 k j x, σ.2).1 k = upd (σ.1 k) j x from mm_w_eq]) (fun k' hk => ⟨mm_w_ne hk, rfl⟩)
theorem mm_wo_l {sh : List mm_Sh} {ca : Nat → ClassId} {a : Nat → Nat} {σ : mm_S} {k n j : Nat} {rw : List Nat} {x : Int64} (h : sh[k]? = some (.inr (2, n, rw))) : (mm_wo sh ca a σ).set k (a k, .inl (ca 2, n, .inr (.inl (vp_updL (σ.2 k) j x)))) = mm_wo sh ca a (σ.1, mm_w σ.2 k j x) :=
  mm_wo_set h (by rw [mm_ce_l]; show _ = Sum.inl (ca 2, n, Sum.inr (Sum.inl (vp_updL (σ.2 k) j x))); rw [show (σ.1, mm_w σ.2 k j x).2 k = vp_updL (σ.2 k) j x from mm_w_eq]) (fun k' hk => ⟨rfl, mm_w_ne hk⟩)
theorem mm_wo_f {sh : List mm_Sh} {ca : Nat → ClassId} {a : Nat → Nat} {σ : mm_S} {k ci j t q : Nat} {fs : List (Nat × Nat)} {x : Int32} (h : sh[k]? = some (.inl (ci, fs))) (hf : fs[j]? = some (t, q)) (ht : ¬ t = 2) : (mm_wo sh ca a σ).set k (a k, .inr (ci, (fs.mapIdx fun j f => mm_fv a σ k j f).set j (.int x))) = mm_wo sh ca a (mm_w σ.1 k j x, σ.2) := by
  refine mm_wo_set h ?_ (fun k' hk => ⟨mm_w_ne hk, rfl⟩)
  rw [mm_ce_o]
  refine congrArg (fun z => Sum.inr (ci, z)) (List.ext_getElem? fun i => ?_)
  have hl : j < fs.length := (List.getElem?_eq_some_iff.mp hf).1
  have e : mm_w σ.1 k j x k = fun j' => if j' = j then x else σ.1 k j' := mm_w_eq
  by_cases hi : i = j
  · subst hi
    rw [List.getElem?_set_self (by rw [List.length_mapIdx]; exact hl), List.getElem?_mapIdx, hf]
    simp [mm_fv, ht, e]
  · rw [List.getElem?_set_ne (Ne.symm hi), List.getElem?_mapIdx, List.getElem?_mapIdx]
    cases fs[i]? with
    | none => rfl
    | some f => simp [mm_fv, e, hi]
theorem mm_nar1 {x : Int32} (h : x = 0 ∨ x = 1) : vp_nar .boolean x = x := by rcases h with rfl | rfl <;> decide +kernel
theorem mm_nar2 {x : Int32} (h : x = 0 ∨ x = 1) : narrow .boolean (.int x) = .int x := by rcases h with rfl | rfl <;> decide +kernel
theorem mm_fit2 {x : Int32} (h : x = 0 ∨ x = 1) : fits .boolean (.int x) = true := by rcases h with rfl | rfl <;> decide +kernel
theorem mm_rk_0 {ret : Option FieldType} (h : mm_rk ret = 0) : ret = none := by
  unfold mm_rk at h; split at h <;> first | rfl | cases h
theorem mm_rk_1 {ret : Option FieldType} (h : mm_rk ret = 1) : ret = some .int := by
  unfold mm_rk at h; split at h <;> first | rfl | cases h
theorem mm_rk_2 {ret : Option FieldType} (h : mm_rk ret = 2) : ret = some .long := by
  unfold mm_rk at h; split at h <;> first | rfl | cases h
theorem mm_rk_3 {ret : Option FieldType} (h : mm_rk ret = 3) : ret = some .boolean := by
  unfold mm_rk at h; split at h <;> first | rfl | cases h
theorem mm_blind {sh : List mm_Sh} {cl : List vw_C} {D : va_G} {ca : Nat → ClassId} {a : Nat → Nat} {nst : mm_N} {As : List Value} {σ : mm_S} {sz : Nat} : FrameBlind (mm_Pc nst sh cl D ca a As σ sz) := fun a U g mk q => by
  obtain ⟨q0, q1, qP, qK, qD, qN⟩ := q
  exact ⟨q0, q1, qP, va_K.moved (u := U) (U := U.calling g mk a) (Vm.Alike.refl U.vm) qK, qD, fun w hw => va_Nw.same (u := U) (U := U.calling g mk a) rfl rfl (qN w hw)⟩
section MMC
variable {p : Program} {l : Launch} {e : Env} {R : Room} {s : State} {m : MethodId} {args : Array Value} {below : List Frame} {meth : Method} {c : Code} {H : Heap} {locs : List Loc} {Q : State → Prop}
theorem mm_callW {sh : List mm_Sh} {cl : List vw_C} {D : va_G} {ca : Nat → ClassId} {a : Nat → Nat} {rk pc : Nat} {u : mm_R} {A A1 : Nat → Prop} {a2 : Array Value} {ls : Array Slot} {st0 rest : List Value} (hr : va_Run p l e R s m args below meth c H locs 0 0 0 0 (F0 m pc ls st0) rest (mm_Q sh cl D ca a rk u A1 a2) A1) (hS : va_S A s.heap H locs) (hAA : ∀ q, A1 q → A q)
    (kk : ∀ (H1 : Heap) (locs1 : List Loc), va_P D cl (mm_wo sh ca a u.2.2) H1 → va_D A1 (mm_wo sh ca a u.2.2) → va_S A s.heap H1 locs1 → W p l e R s m args below meth c H1 locs1 0 0 Q (F0 m (pc + 3) ls ((mm_rv rk u).toList ++ rest))) : W p l e R s m args below meth c H locs 0 0 Q (F0 m pc ls st0) := by
  intro T hT X
  obtain ⟨v, st₀, t, T', L, h0, X', hL, e1, e2, ⟨⟨hv, hp, hk, hd⟩, hz, hf⟩, st⟩ := hr T hT X
  cases hv
  rw [h0] at hz hf
  obtain ⟨t2, a1, b1⟩ := kk T'.heap (locs ++ L) (by rw [e1]; exact hp) hd
    ⟨Nat.le_trans hS.1 (by rw [e1]; exact hz), fun q h1 h2 => by rw [e1, hf q (Nat.lt_of_lt_of_le h1 hS.1) (fun z => h2 (hAA q z))]; exact hS.2.1 q h1 h2, fun q hq => by
      rcases List.mem_append.mp hq with h | h
      · exact hS.2.2 q h
      · exact hAA _ (hL q h)⟩ T' rfl X'
  exact ⟨t2, st t2 a1, b1⟩
end MMC
set_option maxHeartbeats 4000000 in
set_option maxRecDepth 100000 in
theorem mm_body {tbl : List Jvm.Cond} {nst : mm_N} {cl : List vw_C} {nm : Nat → String} {sh : List mm_Sh} {P : List mm_M} {K : mm_Lk} (hO : mm_OK tbl nst cl nm sh P K) {D : va_G} {ca : Nat → ClassId} {a : Nat → Nat} {p : Program} {l : Launch} {e : Env} {s : State} {m : MethodId} {args : Array Value} {below : List Frame} {meth : Method} {c : Code} {R rm : Room} {call : Nat → List Value → mm_S → Option mm_R} {o : Nat} {cc : ByteArray} {maxL : Nat} {ret : Option FieldType} {labs : List (Nat × List mm_Row)}
    (hx : p.tables.exec = Jvm.exec) (hb : c.code = cc) (hml : c.maxLocals = maxL) (hown : s.vm.findClass (nm o) = some m.cls) (hts : ∀ w ∈ tbl, w.before args s = true) (hr : meth.sig.returnType = ret) (hlocks : meth.locks = false) (hK : va_K D cl (mm_tys ca) s) (hN : mm_Nk nst s) (hR : rm.frames + 1 ≤ R.frames ∧ 39 + rm.locals ≤ R.locals) (hrc : rm.cells = 0 ∧ rm.slots = 0)
    (hcall : ∀ (k : Nat) (As : List Value) (σ : mm_S) (u : mm_R) (M : mm_M), call k As σ = some u → P[k]? = some M → mm_Con l tbl nst sh cl D ca a rm M As σ u)
    (hlab : ∀ q ∈ labs, mm_chk K o cc labs q.1 q.2 = true) {res : mm_R} {A : Nat → Prop} (hA : ∀ q, A q ↔ ((∃ k, k < sh.length ∧ q = a k) ∨ s.heap.size ≤ q)) :
    ∀ (n : Nat) (rows : List mm_Row) (pc : Nat) (L st : List Value) (σ : mm_S) (H : Heap) (locs : List Loc) (ls : Array Slot), mm_chk K o cc labs pc rows = true → mm_ex sh call (mm_rk ret) labs n rows L st σ = some res → va_P D cl (mm_wo sh ca a σ) H → va_D A (mm_wo sh ca a σ) → va_S A s.heap H locs → mm_lok a ls maxL L →
      W p l e R s m args below meth c H locs 0 0 (MQ below (mm_Q sh cl D ca a (mm_rk ret) res A) args s 0 0 A) (F0 m pc ls (st.map (mm_rho a))) := by
  obtain ⟨hgood, hCk, hSk, hMk, hFk, hVk, hTk, hIk, hLk⟩ := hO
  have hAA : ∀ (σ : mm_S) (H : Heap) (locs : List Loc), va_S A s.heap H locs → ∀ q, va_A (mm_wo sh ca a σ) H.size q → A q := fun σ H locs hS q h => (hA q).mpr ((mm_A_eq.mp h).imp id (fun z => Nat.le_trans hS.1 z))
  intro n
  induction n with
  | zero => intro rows pc L st σ H locs ls hc h; cases h
  | succ n ih =>
    intro rows pc L st σ H locs ls hc h hP hD hS hl
    match rows, hc, h with
    | [], _, h => cases h
    | (i, r1, r2, v, w) :: rs, hc, h =>
    obtain ⟨len, hd, hsd, hln, hcr⟩ := mm_chk_inv hc
    cases i with
    | iconst k =>
      have hln : len = 1 := by simpa [mm_len] using hln
      subst hln
      simp only [mm_ex] at h
      exact lv_iconst hx hb hd (of_decide_eq_true hsd) (ih rs _ L _ σ H locs ls hcr h hP hD hS hl)
    | bipush k =>
      have hln : len = 2 := by simpa [mm_len] using hln
      subst hln
      simp only [mm_ex] at h
      exact lv_bipush hx hb hd (of_decide_eq_true hsd) (ih rs _ L _ σ H locs ls hcr h hP hD hS hl)
    | sipush k =>
      have hln : len = 3 := by simpa [mm_len] using hln
      subst hln
      simp only [mm_ex] at h
      exact lv_sipush hx hb hd (of_decide_eq_true hsd) (ih rs _ L _ σ H locs ls hcr h hP hD hS hl)
    | lconst k =>
      have hln : len = 1 := by simpa [mm_len] using hln
      subst hln
      simp only [mm_ex] at h
      exact lv_lconst hx hb hd (of_decide_eq_true hsd) (ih rs _ L _ σ H locs ls hcr h hP hD hS hl)
    | ldc k =>
      have hln : len = 2 := by simpa [mm_len] using hln
      subst hln
      simp only [mm_ex] at h
      exact lv_ldc hx hb hown (hts _ (hIk _ (of_decide_eq_true hsd))) hd (ih rs _ L _ σ H locs ls hcr h hP hD hS hl)
    | ldc_w k =>
      have hln : len = 3 := by simpa [mm_len] using hln
      subst hln
      simp only [mm_ex] at h
      exact lv_ldcw hx hb hown (hts _ (hIk _ (of_decide_eq_true hsd))) hd (ih rs _ L _ σ H locs ls hcr h hP hD hS hl)
    | ldc2_w k =>
      have hln : len = 3 := by simpa [mm_len] using hln
      subst hln
      simp only [mm_ex] at h
      exact lv_ldc2 hx hb hown (hts _ (hLk _ (of_decide_eq_true hsd))) hd (ih rs _ L _ σ H locs ls hcr h hP hD hS hl)
    | iload k =>
      have hln : len = 2 := by simpa [mm_len] using hln
      subst hln
      simp only [mm_ex] at h
      obtain ⟨x, hx1, h⟩ := mm_bind h
      exact lv_iload hx hb hd (hl.at (mm_ldi_inv hx1) (by intro q; cases q)) (ih rs _ L _ σ H locs ls hcr h hP hD hS hl)
    | iload_n k =>
      have hln : len = 1 := by simpa [mm_len] using hln
      subst hln
      simp only [mm_ex] at h
      obtain ⟨x, hx1, h⟩ := mm_bind h
      exact lv_iload_n hx hb hd rfl (hl.at (mm_ldi_inv hx1) (by intro q; cases q)) (ih rs _ L _ σ H locs ls hcr h hP hD hS hl)
    | lload k =>
      have hln : len = 2 := by simpa [mm_len] using hln
      subst hln
      simp only [mm_ex] at h
      obtain ⟨x, hx1, h⟩ := mm_bind h
      exact lv_lload hx hb hd (hl.at (mm_ldl_inv hx1) (by intro q; cases q)) (ih rs _ L _ σ H locs ls hcr h hP hD hS hl)
    | lload_n k =>
      have hln : len = 1 := by simpa [mm_len] using hln
      subst hln
      simp only [mm_ex] at h
      obtain ⟨x, hx1, h⟩ := mm_bind h
      exact lv_lload_n hx hb hd rfl (hl.at (mm_ldl_inv hx1) (by intro q; cases q)) (ih rs _ L _ σ H locs ls hcr h hP hD hS hl)
    | aload k =>
      have hln : len = 2 := by simpa [mm_len] using hln
      subst hln
      simp only [mm_ex] at h
      obtain ⟨x, hx1, h⟩ := mm_bind h
      exact lv_aload hx hb hd (hl.at (mm_lda_inv hx1) (by intro q; cases q)) (ih rs _ L _ σ H locs ls hcr h hP hD hS hl)
    | aload_n k =>
      have hln : len = 1 := by simpa [mm_len] using hln
      subst hln
      simp only [mm_ex] at h
      obtain ⟨x, hx1, h⟩ := mm_bind h
      exact lv_aload_n hx hb hd rfl (hl.at (mm_lda_inv hx1) (by intro q; cases q)) (ih rs _ L _ σ H locs ls hcr h hP hD hS hl)
    | istore k =>
      have hln : len = 2 := by simpa [mm_len] using hln
      subst hln
      simp only [mm_ex] at h
      obtain ⟨x, s', hst, h7⟩ := mm_i1_inv h
      clear h
      subst hst
      have h := h7
      clear h7
      obtain ⟨L', hx1, h⟩ := mm_bind h
      exact lv_istore hx hb hd hl.has (by rw [← hl.2.2.1]; exact (mm_st1_inv hx1).1) rfl (fun ls' h' => ih rs _ L' _ σ H locs ls' hcr h hP hD hS (hl.st1 hx1 rfl h'))
    | istore_n k =>
      have hln : len = 1 := by simpa [mm_len] using hln
      subst hln
      simp only [mm_ex] at h
      obtain ⟨x, s', hst, h7⟩ := mm_i1_inv h
      clear h
      subst hst
      have h := h7
      clear h7
      obtain ⟨L', hx1, h⟩ := mm_bind h
      exact lv_istore_n hx hb hd rfl hl.has (by rw [← hl.2.2.1]; exact (mm_st1_inv hx1).1) rfl (fun ls' h' => ih rs _ L' _ σ H locs ls' hcr h hP hD hS (hl.st1 hx1 rfl h'))
    | lstore k =>
      have hln : len = 2 := by simpa [mm_len] using hln
      subst hln
      simp only [mm_ex] at h
      obtain ⟨x, s', hst, h7⟩ := mm_l1_inv h
      clear h
      subst hst
      have h := h7
      clear h7
      obtain ⟨L', hx1, h⟩ := mm_bind h
      exact lv_lstore hx hb hd hl.has (by rw [← hl.2.2.1]; exact (mm_st2_inv hx1).1) rfl (fun ls' h' => ih rs _ L' _ σ H locs ls' hcr h hP hD hS (hl.st2 hx1 rfl h'))
    | lstore_n k =>
      have hln : len = 1 := by simpa [mm_len] using hln
      subst hln
      simp only [mm_ex] at h
      obtain ⟨x, s', hst, h7⟩ := mm_l1_inv h
      clear h
      subst hst
      have h := h7
      clear h7
      obtain ⟨L', hx1, h⟩ := mm_bind h
      exact lv_lstore_n hx hb hd rfl hl.has (by rw [← hl.2.2.1]; exact (mm_st2_inv hx1).1) rfl (fun ls' h' => ih rs _ L' _ σ H locs ls' hcr h hP hD hS (hl.st2 hx1 rfl h'))
    | iinc k cst =>
      have hln : len = 3 := by simpa [mm_len] using hln
      subst hln
      simp only [mm_ex] at h
      obtain ⟨x, hx1, h⟩ := mm_bind h
      obtain ⟨L', hx2, h⟩ := mm_bind h
      obtain ⟨k9, hk9⟩ := List.getElem?_of_mem ((mm_prs_mem (a := a) (L := L) (q := (k, .int x))).mpr ⟨.int x, mm_ldi_inv hx1, (by intro q; cases q), rfl⟩)
      exact lv_iinc hx hb hd hl.has hk9 (by rw [of_decide_eq_true hsd]) (by rw [← hl.2.2.1]; exact (mm_st1_inv hx2).1) rfl (fun ls' h' => ih rs _ L' _ σ H locs ls' hcr h hP hD hS (hl.st1 hx2 rfl h'))
    | iadd =>
      have hln : len = 1 := by simpa [mm_len] using hln
      subst hln
      simp only [mm_ex] at h
      obtain ⟨x, y, s', hst, h7⟩ := mm_i2_inv h
      clear h
      subst hst
      have h := h7
      clear h7
      exact lv_iadd hx hb hd (ih rs _ L _ σ H locs ls hcr h hP hD hS hl)
    | isub =>
      have hln : len = 1 := by simpa [mm_len] using hln
      subst hln
      simp only [mm_ex] at h
      obtain ⟨x, y, s', hst, h7⟩ := mm_i2_inv h
      clear h
      subst hst
      have h := h7
      clear h7
      exact lv_isub hx hb hd (ih rs _ L _ σ H locs ls hcr h hP hD hS hl)
    | imul =>
      have hln : len = 1 := by simpa [mm_len] using hln
      subst hln
      simp only [mm_ex] at h
      obtain ⟨x, y, s', hst, h7⟩ := mm_i2_inv h
      clear h
      subst hst
      have h := h7
      clear h7
      exact lv_imul hx hb hd (ih rs _ L _ σ H locs ls hcr h hP hD hS hl)
    | iand =>
      have hln : len = 1 := by simpa [mm_len] using hln
      subst hln
      simp only [mm_ex] at h
      obtain ⟨x, y, s', hst, h7⟩ := mm_i2_inv h
      clear h
      subst hst
      have h := h7
      clear h7
      exact lv_iand hx hb hd (ih rs _ L _ σ H locs ls hcr h hP hD hS hl)
    | ior =>
      have hln : len = 1 := by simpa [mm_len] using hln
      subst hln
      simp only [mm_ex] at h
      obtain ⟨x, y, s', hst, h7⟩ := mm_i2_inv h
      clear h
      subst hst
      have h := h7
      clear h7
      exact lv_ior hx hb hd (ih rs _ L _ σ H locs ls hcr h hP hD hS hl)
    | ixor =>
      have hln : len = 1 := by simpa [mm_len] using hln
      subst hln
      simp only [mm_ex] at h
      obtain ⟨x, y, s', hst, h7⟩ := mm_i2_inv h
      clear h
      subst hst
      have h := h7
      clear h7
      exact lv_ixor hx hb hd (ih rs _ L _ σ H locs ls hcr h hP hD hS hl)
    | ishl =>
      have hln : len = 1 := by simpa [mm_len] using hln
      subst hln
      simp only [mm_ex] at h
      obtain ⟨x, y, s', hst, h7⟩ := mm_i2_inv h
      clear h
      subst hst
      have h := h7
      clear h7
      exact lv_ishl hx hb hd (ih rs _ L _ σ H locs ls hcr h hP hD hS hl)
    | ishr =>
      have hln : len = 1 := by simpa [mm_len] using hln
      subst hln
      simp only [mm_ex] at h
      obtain ⟨x, y, s', hst, h7⟩ := mm_i2_inv h
      clear h
      subst hst
      have h := h7
      clear h7
      exact lv_ishr hx hb hd (ih rs _ L _ σ H locs ls hcr h hP hD hS hl)
    | iushr =>
      have hln : len = 1 := by simpa [mm_len] using hln
      subst hln
      simp only [mm_ex] at h
      obtain ⟨x, y, s', hst, h7⟩ := mm_i2_inv h
      clear h
      subst hst
      have h := h7
      clear h7
      exact lv_iushr hx hb hd rfl (ih rs _ L _ σ H locs ls hcr h hP hD hS hl)
    | ladd =>
      have hln : len = 1 := by simpa [mm_len] using hln
      subst hln
      simp only [mm_ex] at h
      obtain ⟨x, y, s', hst, h7⟩ := mm_l2_inv h
      clear h
      subst hst
      have h := h7
      clear h7
      exact lv_ladd hx hb hd (ih rs _ L _ σ H locs ls hcr h hP hD hS hl)
    | land =>
      have hln : len = 1 := by simpa [mm_len] using hln
      subst hln
      simp only [mm_ex] at h
      obtain ⟨x, y, s', hst, h7⟩ := mm_l2_inv h
      clear h
      subst hst
      have h := h7
      clear h7
      exact lv_land hx hb hd (ih rs _ L _ σ H locs ls hcr h hP hD hS hl)
    | lor =>
      have hln : len = 1 := by simpa [mm_len] using hln
      subst hln
      simp only [mm_ex] at h
      obtain ⟨x, y, s', hst, h7⟩ := mm_l2_inv h
      clear h
      subst hst
      have h := h7
      clear h7
      exact lv_lor hx hb hd (ih rs _ L _ σ H locs ls hcr h hP hD hS hl)
    | lcmp =>
      have hln : len = 1 := by simpa [mm_len] using hln
      subst hln
      simp only [mm_ex] at h
      obtain ⟨x, y, s', hst, h7⟩ := mm_l2_inv h
      clear h
      subst hst
      have h := h7
      clear h7
      exact W.lcmp hx hb hd (ih rs _ L _ σ H locs ls hcr h hP hD hS hl)
    | lshl =>
      have hln : len = 1 := by simpa [mm_len] using hln
      subst hln
      simp only [mm_ex] at h
      obtain ⟨x, y, s', hst, h7⟩ := mm_li_inv h
      clear h
      subst hst
      have h := h7
      clear h7
      exact lv_lshl hx hb hd rfl (ih rs _ L _ σ H locs ls hcr h hP hD hS hl)
    | lshr =>
      have hln : len = 1 := by simpa [mm_len] using hln
      subst hln
      simp only [mm_ex] at h
      obtain ⟨x, y, s', hst, h7⟩ := mm_li_inv h
      clear h
      subst hst
      have h := h7
      clear h7
      exact lv_lshr hx hb hd rfl (ih rs _ L _ σ H locs ls hcr h hP hD hS hl)
    | i2l =>
      have hln : len = 1 := by simpa [mm_len] using hln
      subst hln
      simp only [mm_ex] at h
      obtain ⟨x, s', hst, h7⟩ := mm_i1_inv h
      clear h
      subst hst
      have h := h7
      clear h7
      exact lv_i2l hx hb hd rfl (ih rs _ L _ σ H locs ls hcr h hP hD hS hl)
    | l2i =>
      have hln : len = 1 := by simpa [mm_len] using hln
      subst hln
      simp only [mm_ex] at h
      obtain ⟨x, s', hst, h7⟩ := mm_l1_inv h
      clear h
      subst hst
      have h := h7
      clear h7
      exact lv_l2i hx hb hd rfl (ih rs _ L _ σ H locs ls hcr h hP hD hS hl)
    | dup =>
      have hln : len = 1 := by simpa [mm_len] using hln
      subst hln
      simp only [mm_ex] at h
      obtain ⟨k, s', hst, h7⟩ := mm_a1_inv h
      clear h
      subst hst
      have h := h7
      clear h7
      exact lv_dup hx hb hd rfl (ih rs _ L _ σ H locs ls hcr h hP hD hS hl)
    | dup2 =>
      have hln : len = 1 := by simpa [mm_len] using hln
      subst hln
      simp only [mm_ex] at h
      obtain ⟨k, i9, s', hst, h7⟩ := mm_ai_inv h
      clear h
      subst hst
      have h := h7
      clear h7
      exact lv_dup2_11 hx hb hd rfl rfl (ih rs _ L _ σ H locs ls hcr h hP hD hS hl)
    | pop =>
      have hln : len = 1 := by simpa [mm_len] using hln
      subst hln
      simp only [mm_ex] at h
      obtain ⟨x, s', hst, h7⟩ := mm_i1_inv h
      clear h
      subst hst
      have h := h7
      clear h7
      exact lv_pop hx hb hd rfl (ih rs _ L _ σ H locs ls hcr h hP hD hS hl)
    | ifCond cnd off =>
      have hln : len = 3 := by simpa [mm_len] using hln
      subst hln
      cases cnd with
      | eq =>
        simp only [mm_ex] at h
        obtain ⟨x, s', hst, h7⟩ := mm_i1_inv h
        clear h
        subst hst
        have h := h7
        clear h7
        obtain ⟨q', hq', ht⟩ := mm_lab_inv hsd
        refine lv_if_eq hx hb hd ht (fun hc9 => ?_) (fun hc9 => ?_)
        · rw [if_pos hc9] at h
          obtain ⟨q, hq, h⟩ := mm_bind h
          cases hq.symm.trans hq'
          exact ih q'.2 q'.1 L _ σ H locs ls (hlab q' (List.mem_of_getElem? hq)) h hP hD hS hl
        · rw [if_neg hc9] at h
          exact ih rs _ L _ σ H locs ls hcr h hP hD hS hl
      | ne =>
        simp only [mm_ex] at h
        obtain ⟨x, s', hst, h7⟩ := mm_i1_inv h
        clear h
        subst hst
        have h := h7
        clear h7
        obtain ⟨q', hq', ht⟩ := mm_lab_inv hsd
        refine lv_if_ne hx hb hd ht (fun hc9 => ?_) (fun hc9 => ?_)
        · rw [if_neg hc9] at h
          obtain ⟨q, hq, h⟩ := mm_bind h
          cases hq.symm.trans hq'
          exact ih q'.2 q'.1 L _ σ H locs ls (hlab q' (List.mem_of_getElem? hq)) h hP hD hS hl
        · rw [if_pos hc9] at h
          exact ih rs _ L _ σ H locs ls hcr h hP hD hS hl
      | lt =>
        simp only [mm_ex] at h
        obtain ⟨x, s', hst, h7⟩ := mm_i1_inv h
        clear h
        subst hst
        have h := h7
        clear h7
        obtain ⟨q', hq', ht⟩ := mm_lab_inv hsd
        refine lv_if_lt hx hb hd ht (fun hc9 => ?_) (fun hc9 => ?_)
        · rw [if_pos hc9] at h
          obtain ⟨q, hq, h⟩ := mm_bind h
          cases hq.symm.trans hq'
          exact ih q'.2 q'.1 L _ σ H locs ls (hlab q' (List.mem_of_getElem? hq)) h hP hD hS hl
        · rw [if_neg hc9] at h
          exact ih rs _ L _ σ H locs ls hcr h hP hD hS hl
      | ge =>
        simp only [mm_ex] at h
        obtain ⟨x, s', hst, h7⟩ := mm_i1_inv h
        clear h
        subst hst
        have h := h7
        clear h7
        obtain ⟨q', hq', ht⟩ := mm_lab_inv hsd
        refine lv_if_ge hx hb hd ht (fun hc9 => ?_) (fun hc9 => ?_)
        · rw [if_pos hc9] at h
          obtain ⟨q, hq, h⟩ := mm_bind h
          cases hq.symm.trans hq'
          exact ih q'.2 q'.1 L _ σ H locs ls (hlab q' (List.mem_of_getElem? hq)) h hP hD hS hl
        · rw [if_neg hc9] at h
          exact ih rs _ L _ σ H locs ls hcr h hP hD hS hl
      | gt =>
        simp only [mm_ex] at h
        obtain ⟨x, s', hst, h7⟩ := mm_i1_inv h
        clear h
        subst hst
        have h := h7
        clear h7
        obtain ⟨q', hq', ht⟩ := mm_lab_inv hsd
        refine lv_if_gt hx hb hd ht (fun hc9 => ?_) (fun hc9 => ?_)
        · rw [if_pos hc9] at h
          obtain ⟨q, hq, h⟩ := mm_bind h
          cases hq.symm.trans hq'
          exact ih q'.2 q'.1 L _ σ H locs ls (hlab q' (List.mem_of_getElem? hq)) h hP hD hS hl
        · rw [if_neg hc9] at h
          exact ih rs _ L _ σ H locs ls hcr h hP hD hS hl
      | le =>
        simp only [mm_ex] at h
        obtain ⟨x, s', hst, h7⟩ := mm_i1_inv h
        clear h
        subst hst
        have h := h7
        clear h7
        obtain ⟨q', hq', ht⟩ := mm_lab_inv hsd
        refine lv_if_le hx hb hd ht (fun hc9 => ?_) (fun hc9 => ?_)
        · rw [if_pos hc9] at h
          obtain ⟨q, hq, h⟩ := mm_bind h
          cases hq.symm.trans hq'
          exact ih q'.2 q'.1 L _ σ H locs ls (hlab q' (List.mem_of_getElem? hq)) h hP hD hS hl
        · rw [if_neg hc9] at h
          exact ih rs _ L _ σ H locs ls hcr h hP hD hS hl
    | if_icmp cnd off =>
      have hln : len = 3 := by simpa [mm_len] using hln
      subst hln
      cases cnd with
      | eq =>
        simp only [mm_ex] at h
        obtain ⟨x, y, s', hst, h7⟩ := mm_i2_inv h
        clear h
        subst hst
        have h := h7
        clear h7
        obtain ⟨q', hq', ht⟩ := mm_lab_inv hsd
        refine lv_icmp_eq hx hb hd ht (fun hc9 => ?_) (fun hc9 => ?_)
        · rw [if_pos hc9] at h
          obtain ⟨q, hq, h⟩ := mm_bind h
          cases hq.symm.trans hq'
          exact ih q'.2 q'.1 L _ σ H locs ls (hlab q' (List.mem_of_getElem? hq)) h hP hD hS hl
        · rw [if_neg hc9] at h
          exact ih rs _ L _ σ H locs ls hcr h hP hD hS hl
      | ne =>
        simp only [mm_ex] at h
        obtain ⟨x, y, s', hst, h7⟩ := mm_i2_inv h
        clear h
        subst hst
        have h := h7
        clear h7
        obtain ⟨q', hq', ht⟩ := mm_lab_inv hsd
        refine lv_icmp_ne hx hb hd ht (fun hc9 => ?_) (fun hc9 => ?_)
        · rw [if_neg hc9] at h
          obtain ⟨q, hq, h⟩ := mm_bind h
          cases hq.symm.trans hq'
          exact ih q'.2 q'.1 L _ σ H locs ls (hlab q' (List.mem_of_getElem? hq)) h hP hD hS hl
        · rw [if_pos hc9] at h
          exact ih rs _ L _ σ H locs ls hcr h hP hD hS hl
      | lt =>
        simp only [mm_ex] at h
        obtain ⟨x, y, s', hst, h7⟩ := mm_i2_inv h
        clear h
        subst hst
        have h := h7
        clear h7
        obtain ⟨q', hq', ht⟩ := mm_lab_inv hsd
        refine lv_icmp_lt hx hb hd ht (fun hc9 => ?_) (fun hc9 => ?_)
        · rw [if_pos hc9] at h
          obtain ⟨q, hq, h⟩ := mm_bind h
          cases hq.symm.trans hq'
          exact ih q'.2 q'.1 L _ σ H locs ls (hlab q' (List.mem_of_getElem? hq)) h hP hD hS hl
        · rw [if_neg hc9] at h
          exact ih rs _ L _ σ H locs ls hcr h hP hD hS hl
      | ge =>
        simp only [mm_ex] at h
        obtain ⟨x, y, s', hst, h7⟩ := mm_i2_inv h
        clear h
        subst hst
        have h := h7
        clear h7
        obtain ⟨q', hq', ht⟩ := mm_lab_inv hsd
        refine lv_icmp_ge hx hb hd ht (fun hc9 => ?_) (fun hc9 => ?_)
        · rw [if_pos hc9] at h
          obtain ⟨q, hq, h⟩ := mm_bind h
          cases hq.symm.trans hq'
          exact ih q'.2 q'.1 L _ σ H locs ls (hlab q' (List.mem_of_getElem? hq)) h hP hD hS hl
        · rw [if_neg hc9] at h
          exact ih rs _ L _ σ H locs ls hcr h hP hD hS hl
      | gt =>
        simp only [mm_ex] at h
        obtain ⟨x, y, s', hst, h7⟩ := mm_i2_inv h
        clear h
        subst hst
        have h := h7
        clear h7
        obtain ⟨q', hq', ht⟩ := mm_lab_inv hsd
        refine lv_icmp_gt hx hb hd ht (fun hc9 => ?_) (fun hc9 => ?_)
        · rw [if_pos hc9] at h
          obtain ⟨q, hq, h⟩ := mm_bind h
          cases hq.symm.trans hq'
          exact ih q'.2 q'.1 L _ σ H locs ls (hlab q' (List.mem_of_getElem? hq)) h hP hD hS hl
        · rw [if_neg hc9] at h
          exact ih rs _ L _ σ H locs ls hcr h hP hD hS hl
      | le =>
        simp only [mm_ex] at h
        obtain ⟨x, y, s', hst, h7⟩ := mm_i2_inv h
        clear h
        subst hst
        have h := h7
        clear h7
        obtain ⟨q', hq', ht⟩ := mm_lab_inv hsd
        refine lv_icmp_le hx hb hd ht (fun hc9 => ?_) (fun hc9 => ?_)
        · rw [if_pos hc9] at h
          obtain ⟨q, hq, h⟩ := mm_bind h
          cases hq.symm.trans hq'
          exact ih q'.2 q'.1 L _ σ H locs ls (hlab q' (List.mem_of_getElem? hq)) h hP hD hS hl
        · rw [if_neg hc9] at h
          exact ih rs _ L _ σ H locs ls hcr h hP hD hS hl
    | goto off =>
      have hln : len = 3 := by simpa [mm_len] using hln
      subst hln
      simp only [mm_ex] at h
      obtain ⟨q, hq, h⟩ := mm_bind h
      obtain ⟨q', hq', ht⟩ := mm_lab_inv hsd
      have eq9 : q = q' := Option.some.inj (hq.symm.trans hq')
      subst eq9
      exact lv_goto hx hb hd ht (ih q.2 q.1 L _ σ H locs ls (hlab q (List.mem_of_getElem? hq)) h hP hD hS hl)
    | tableswitch dflt lo hi offs =>
      simp only [mm_ex] at h
      obtain ⟨x, s', hst, h7⟩ := mm_i1_inv h
      clear h
      subst hst
      have h := h7
      clear h7
      simp only [mm_side, Bool.and_eq_true, decide_eq_true_eq] at hsd
      obtain ⟨hs1, hs2, hs3⟩ := hsd
      split at h
      · rename_i hc9
        obtain ⟨q, hq, h⟩ := mm_bind h
        obtain ⟨q', hq', ht⟩ := mm_lab_inv hs1
        have eq9 : q = q' := Option.some.inj (hq.symm.trans hq')
        subst eq9
        exact lv_tableOut hx hb hd hc9 ht (ih q.2 q.1 L _ σ H locs ls (hlab q (List.mem_of_getElem? hq)) h hP hD hS hl)
      · rename_i hc9
        obtain ⟨q, hq, h⟩ := mm_bind h
        have g1 : ¬ x.toInt < lo := fun z => hc9 (Or.inl z)
        have g2 : ¬ hi < x.toInt := fun z => hc9 (Or.inr z)
        have hi9 : (x.toInt - lo).toNat < offs.size := by omega
        have h9 := List.all_eq_true.mp hs3 _ (List.mem_range.mpr hi9)
        have ho : offs[(x.toInt - lo).toNat]? = some (offs[(x.toInt - lo).toNat]) := Array.getElem?_eq_getElem hi9
        rw [ho] at h9
        obtain ⟨q', hq', ht⟩ := mm_lab_inv h9
        have eq9 : q = q' := Option.some.inj (hq.symm.trans hq')
        subst eq9
        exact lv_tableIn hx hb hd g1 g2 ho ht (ih q.2 q.1 L _ σ H locs ls (hlab q (List.mem_of_getElem? hq)) h hP hD hS hl)
    | getfield k =>
      have hln : len = 3 := by simpa [mm_len] using hln
      subst hln
      simp only [mm_ex] at h
      obtain ⟨k0, s', hst, h7⟩ := mm_a1_inv h
      clear h
      subst hst
      have h := h7
      clear h7
      obtain ⟨u, hu, h⟩ := mm_bind h
      obtain ⟨fs, t, q, hs, hf, hu2⟩ := mm_fld_inv hu
      obtain ⟨C, T, N, hcl, hjN, hlk⟩ := hFk _ (of_decide_eq_true hsd)
      obtain ⟨hcw, hcn, -⟩ := hCk _ (List.mem_of_getElem? hcl)
      refine va_get (v := mm_rho a u) (ref := C) hx hb hts hcw hown hK hP k0 (mm_wo_at hs) hcl r2 hjN (hts _ hlk) (fun x9 h9 => by have h8 : s.fieldFound? (T r2).1 (T r2).2.1 (T r2).2.2.1 = some x9 := h9; rw [show (T r2).1 = C from hcn r2 hjN] at h8; exact h8) ?_ hd (ih rs _ L _ σ H locs ls hcr h hP hD hS hl)
      rw [List.getElem?_mapIdx, hf]
      show some (mm_fv a σ k0 r2 (t, q)) = _
      rw [hu2]
      unfold mm_fv
      by_cases h2 : t = 2
      · rw [if_pos h2, if_pos h2]; rfl
      · rw [if_neg h2, if_neg h2]; rfl
    | putfield k =>
      have hln : len = 3 := by simpa [mm_len] using hln
      subst hln
      simp only [mm_ex] at h
      obtain ⟨k0, x, s', hst, h7⟩ := mm_ai_inv h
      clear h
      subst hst
      have h := h7
      clear h7
      obtain ⟨u, hu, h⟩ := mm_bind h
      obtain ⟨fs, t, q, hs, hf, hu2⟩ := mm_pf_inv hu
      obtain ⟨C, T, N, hcl, hjN, hlk⟩ := hFk _ (of_decide_eq_true hsd)
      obtain ⟨hcw, hcn, ty0, hty, hnm⟩ := hCk _ (List.mem_of_getElem? hcl)
      obtain ⟨C2, T2, N2, hcl2, hfl, hty2⟩ := hSk _ (List.mem_of_getElem? hs) _ _ rfl
      cases hcl.symm.trans hcl2
      have hln2 : r2 < (fs.mapIdx fun j f => mm_fv a σ k0 j f).length := by rw [List.length_mapIdx]; exact (List.getElem?_eq_some_iff.mp hf).1
      have fin : ∀ (H1 : Heap) (locs1 : List Loc), va_P D cl ((mm_wo sh ca a σ).set k0 (a k0, .inr (r1, (fs.mapIdx fun j f => mm_fv a σ k0 j f).set r2 (.int x)))) H1 → va_D A ((mm_wo sh ca a σ).set k0 (a k0, .inr (r1, (fs.mapIdx fun j f => mm_fv a σ k0 j f).set r2 (.int x)))) → va_S A s.heap H1 locs1 → W p l e R s m args below meth c H1 locs1 0 0 (MQ below (mm_Q sh cl D ca a (mm_rk ret) res A) args s 0 0 A) (F0 m (pc + 3) ls (s'.map (mm_rho a))) := by
        intro H1 locs1 hP1 hD1 hS1
        rw [mm_wo_f hs hf (by rcases hu2 with z | ⟨z, -⟩ <;> omega)] at hP1 hD1
        exact ih rs _ L _ _ H1 locs1 ls hcr h hP1 hD1 hS1 hl
      rcases hu2 with ht | ⟨ht, hx01⟩
      · obtain ⟨g1, g2⟩ := (hty2 r2 t q hf).1 ht
        exact va_put (v := .int x) (ty := .int) (ref := C) hx hb hts hcw ty0 hty hnm hown hK hP hD hS k0 (mm_wo_at hs) hcl r2 hjN (hts _ hlk) (fun x9 h9 => by have h8 : s.fieldFound? (T r2).1 (T r2).2.1 (T r2).2.2.1 = some x9 := h9; rw [show (T r2).1 = C from hcn r2 hjN] at h8; exact h8) g1 g2 rfl rfl hln2 hd fin
      · obtain ⟨g1, g2⟩ := (hty2 r2 t q hf).2 ht
        exact va_put (v := .int x) (ty := .boolean) (ref := C) hx hb hts hcw ty0 hty hnm hown hK hP hD hS k0 (mm_wo_at hs) hcl r2 hjN (hts _ hlk) (fun x9 h9 => by have h8 : s.fieldFound? (T r2).1 (T r2).2.1 (T r2).2.2.1 = some x9 := h9; rw [show (T r2).1 = C from hcn r2 hjN] at h8; exact h8) g1 g2 (mm_nar2 hx01) (mm_fit2 hx01) hln2 hd fin
    | iaload =>
      have hln : len = 1 := by simpa [mm_len] using hln
      subst hln
      simp only [mm_ex] at h
      obtain ⟨k0, i9, s', hst, h7⟩ := mm_ai_inv h
      clear h
      subst hst
      have h := h7
      clear h7
      obtain ⟨z, hz, h⟩ := mm_bind h
      obtain ⟨rw9, hs⟩ := mm_arr_inv hz
      split at h
      · rename_i hin
        exact va_iald hx hb hK hP k0 0 (mm_wo_at hs) rfl hin hd (ih rs _ L _ σ H locs ls hcr h hP hD hS hl)
      · cases h
    | baload =>
      have hln : len = 1 := by simpa [mm_len] using hln
      subst hln
      simp only [mm_ex] at h
      obtain ⟨k0, i9, s', hst, h7⟩ := mm_ai_inv h
      clear h
      subst hst
      have h := h7
      clear h7
      obtain ⟨z, hz, h⟩ := mm_bind h
      obtain ⟨rw9, hs⟩ := mm_arr_inv hz
      split at h
      · rename_i hin
        exact va_zald hx hb hK hP k0 1 (mm_wo_at hs) rfl hin hd (ih rs _ L _ σ H locs ls hcr h hP hD hS hl)
      · cases h
    | laload =>
      have hln : len = 1 := by simpa [mm_len] using hln
      subst hln
      simp only [mm_ex] at h
      obtain ⟨k0, i9, s', hst, h7⟩ := mm_ai_inv h
      clear h
      subst hst
      have h := h7
      clear h7
      obtain ⟨z, hz, h⟩ := mm_bind h
      obtain ⟨rw9, hs⟩ := mm_arr_inv hz
      split at h
      · rename_i hin
        exact va_lald hx hb hK hP k0 2 (mm_wo_at hs) rfl hin hd (ih rs _ L _ σ H locs ls hcr h hP hD hS hl)
      · cases h
    | aaload =>
      have hln : len = 1 := by simpa [mm_len] using hln
      subst hln
      simp only [mm_ex] at h
      obtain ⟨k0, i9, s', hst, h7⟩ := mm_ai_inv h
      clear h
      subst hst
      have h := h7
      clear h7
      obtain ⟨q, hq, h⟩ := mm_bind h
      obtain ⟨n9, rw9, hs, hin, hrw⟩ := mm_grid_inv hq
      have hlt : i9.toNatClampNeg < n9 := Nat.not_le.mp fun q => hin (Or.inr q)
      have hcell := hP k0 _ (mm_wo_at hs)
      exact W.aald (v := .ref (a q)) (ty := .array .int) hx hb hcell ((hK.2 3 _ rfl).1 n9 (fun j => va_rf ((rw9[j]?).map a))) rfl (fun q => by cases q) (by show ¬ (i9 < 0 ∨ (arrV _ _ _).slots.size ≤ _); rw [arrV_size]; exact hin) (by show (arrV _ _ _).slots[_]? = _; rw [arrV_read _ _ hlt]; show some (va_rf ((rw9[i9.toNatClampNeg]?).map a)) = _; rw [hrw]; rfl) rfl rfl hd (ih rs _ L _ σ H locs ls hcr h hP hD hS hl)
    | iastore =>
      have hln : len = 1 := by simpa [mm_len] using hln
      subst hln
      simp only [mm_ex] at h
      obtain ⟨k0, i9, x, s', hst, h7⟩ := mm_aii_inv h
      clear h
      subst hst
      have h := h7
      clear h7
      obtain ⟨z, hz, h⟩ := mm_bind h
      obtain ⟨rw9, hs⟩ := mm_arr_inv hz
      split at h
      · rename_i hin
        refine va_iast hx hb hK hP hD hS k0 0 (mm_wo_at hs) rfl hin hd (fun H1 locs1 hP1 hD1 hS1 => ?_)
        rw [mm_wo_i hs] at hP1 hD1
        exact ih rs _ L _ _ H1 locs1 ls hcr h hP1 hD1 hS1 hl
      · cases h
    | bastore =>
      have hln : len = 1 := by simpa [mm_len] using hln
      subst hln
      simp only [mm_ex] at h
      obtain ⟨k0, i9, x, s', hst, h7⟩ := mm_aii_inv h
      clear h
      subst hst
      have h := h7
      clear h7
      obtain ⟨z, hz, h⟩ := mm_bind h
      obtain ⟨rw9, hs⟩ := mm_arr_inv hz
      split at h
      · rename_i hin
        split at h
        · rename_i hx01
          refine va_zast hx hb hK hP hD hS k0 1 (mm_wo_at hs) rfl hin hd (fun H1 locs1 hP1 hD1 hS1 => ?_)
          rw [mm_nar1 hx01, mm_wo_b hs] at hP1 hD1
          exact ih rs _ L _ _ H1 locs1 ls hcr h hP1 hD1 hS1 hl
        · cases h
      · cases h
    | lastore =>
      have hln : len = 1 := by simpa [mm_len] using hln
      subst hln
      simp only [mm_ex] at h
      obtain ⟨k0, i9, x, s', hst, h7⟩ := mm_ail_inv h
      clear h
      subst hst
      have h := h7
      clear h7
      obtain ⟨z, hz, h⟩ := mm_bind h
      obtain ⟨rw9, hs⟩ := mm_arr_inv hz
      split at h
      · rename_i hin
        refine va_last hx hb hK hP hD hS k0 2 (mm_wo_at hs) rfl hin hd (fun H1 locs1 hP1 hD1 hS1 => ?_)
        rw [mm_wo_l hs] at hP1 hD1
        exact ih rs _ L _ _ H1 locs1 ls hcr h hP1 hD1 hS1 hl
      · cases h
    | invokevirtual k =>
      have hln : len = 3 := by simpa [mm_len] using hln
      subst hln
      simp only [mm_ex] at h
      obtain ⟨⟨qa, qr⟩, hq, h7⟩ := mm_bind h
      clear h
      obtain ⟨u, hu, h8⟩ := mm_bind h7
      clear h7
      obtain ⟨k0, As, fs, e1, hs, e2, h4, hna⟩ := mm_cargs_inv hq
      dsimp only at e1 e2 h4 hu h8
      subst e1
      subst e2
      obtain ⟨M, T, N, np, hM, w1, w2, w3, hcl, hpar, hn1, hrk⟩ := hVk _ (of_decide_eq_true hsd)
      obtain ⟨m1, m2, m3, m4, m5, m6, -, -, -⟩ := hMk M (List.mem_of_getElem? hM)
      have hcon := hcall _ _ _ _ M hu hM H.size
      dsimp only at hn1 hrk hcl
      have hrun := va_runV (e := e) (below := below) (meth := meth) (g := F0 m pc ls ((As.reverse ++ .ref k0 :: qr).map (mm_rho a))) (C := M.2.1.cls) (As := As.map (mm_rho a)) (rest := qr.map (mm_rho a)) (b := a k0) (locs := locs) (cells := 0) (slots := 0) ⟨hx, hb, hml, hown, hts⟩ hcon ⟨callB_of np hts (mm_good hgood m1) rfl hrc.1 hrc.2 (hts _ m2) (hts _ w1) ⟨m5.1, m5.2, hpar⟩ ⟨hR.1, by omega⟩, hts _ w2, hts _ w3⟩
        ⟨mm_blind, va_recv hK hP hcl (mm_wo_at hs), fun U hU hW => ⟨rfl, by rw [hU], by rw [hU]; exact hP, va_K.moved hW.alike hK, hD.weaken (fun _ _ _ _ => trivial), fun w hw => va_Nw.warmM hW (hN w hw)⟩⟩ rfl (by rw [List.length_map]; omega) hl.1 (by simp [mm_rho]) (lv_room (mm_cats a _ h4)) hd ⟨Nat.zero_le _, Nat.zero_le _⟩
      refine mm_callW hrun hS (hAA σ H locs hS) (fun H1 locs1 hP1 hD1 hS1 => ?_)
      rw [mm_push_rv, ← hrk]
      exact ih rs _ L _ _ H1 locs1 ls hcr h8 hP1 (hD1.weaken (fun k9 q9 _ z => hAA σ H locs hS _ z)) hS1 hl
    | invokestatic k =>
      have hln : len = 3 := by simpa [mm_len] using hln
      subst hln
      rcases hTk _ (of_decide_eq_true hsd) with ⟨hj, w1, w2, w3, w4⟩ | ⟨hj, w1, w2, w3, w4⟩ | ⟨hj0, hj1, M, np, hM, w1, w2, hpar, hn1, hrk⟩
      · dsimp only at hj
        subst hj
        simp only [mm_ex] at h
        obtain ⟨x, y, s', hst, h7⟩ := mm_i2_inv h
        clear h
        subst hst
        have h := h7
        clear h7
        split at h
        · rename_i h4
          exact va_mmax hx hb (by rw [hml]; exact hl.1.symm) hown (hts _ w1) (hts _ w2) (hts _ w3) (hts _ w4) (by omega) (by have := mm_cats a s' h4; omega) (Nat.zero_le _) (Nat.zero_le _) hd (ih rs _ L _ σ H locs ls hcr h hP hD hS hl)
        · cases h
      · dsimp only at hj
        subst hj
        simp only [mm_ex] at h
        obtain ⟨x, y, s', hst, h7⟩ := mm_i2_inv h
        clear h
        subst hst
        have h := h7
        clear h7
        split at h
        · rename_i h4
          exact va_mmin hx hb (by rw [hml]; exact hl.1.symm) hown (hts _ w1) (hts _ w2) (hts _ w3) (hts _ w4) (by omega) (by have := mm_cats a s' h4; omega) (Nat.zero_le _) (Nat.zero_le _) hd (ih rs _ L _ σ H locs ls hcr h hP hD hS hl)
        · cases h
      · dsimp only at hj0 hj1
        have h : ((mm_sargs (r2 % 16) st).bind fun q => (call r1 q.1 σ).bind fun u => mm_ex sh call (mm_rk ret) labs n rs L (mm_push (r2 / 16 % 4) u q.2) u.2.2) = some res := by
          have e : mm_ex sh call (mm_rk ret) labs (n + 1) ((.invokestatic k, r1, r2, v, w) :: rs) L st σ = ((mm_sargs (r2 % 16) st).bind fun q => (call r1 q.1 σ).bind fun u => mm_ex sh call (mm_rk ret) labs n rs L (mm_push (r2 / 16 % 4) u q.2) u.2.2) := by
            show (match r1 with
              | 1000 => _
              | 1001 => _
              | _ => _) = _
            split
            · exact absurd rfl hj0
            · exact absurd rfl hj1
            · rfl
          exact e.symm.trans h
        obtain ⟨⟨qa, qr⟩, hq, h7⟩ := mm_bind h
        clear h
        obtain ⟨u, hu, h8⟩ := mm_bind h7
        clear h7
        obtain ⟨e2, h4, hna⟩ := mm_sargs_inv hq
        dsimp only at e2 h4 hna hu h8
        subst e2
        obtain ⟨m1, m2, m3, m4, m5, m6, -, -, -⟩ := hMk M (List.mem_of_getElem? hM)
        have hcon := hcall _ _ _ _ M hu hM H.size
        dsimp only at hn1 hrk
        have hrun : va_Run p l e R s m args below meth c H locs 0 0 0 0 (F0 m pc ls ((qa.reverse ++ qr).map (mm_rho a))) (qr.map (mm_rho a)) (mm_Q sh cl D ca a (mm_rk M.2.2.2.2.1) u (va_A (mm_wo sh ca a σ) H.size) (qa.map (mm_rho a)).toArray) (va_A (mm_wo sh ca a σ) H.size) := by
          rcases w1 with w1 | ⟨host, w1⟩
          · exact va_runS (As := qa.map (mm_rho a)) (rest := qr.map (mm_rho a)) ⟨hx, hb, hml, hown, hts⟩ hcon ⟨callB_of np hts (mm_good hgood m1) rfl hrc.1 hrc.2 (hts _ m2) (hts _ w1) ⟨m5.1, m5.2, hpar⟩ ⟨hR.1, by omega⟩, hts _ w2⟩
              ⟨mm_blind, fun U hU hW => ⟨rfl, by rw [hU], by rw [hU]; exact hP, va_K.moved hW.alike hK, hD.weaken (fun _ _ _ _ => trivial), fun w hw => va_Nw.warmM hW (hN w hw)⟩⟩ rfl (by rw [List.length_map]; omega) hl.1 (by simp) (lv_room (mm_cats a _ h4)) hd ⟨Nat.zero_le _, Nat.zero_le _⟩
          · exact va_runSN (As := qa.map (mm_rho a)) (rest := qr.map (mm_rho a)) ⟨hx, hb, hml, hown, hts⟩ hcon ⟨va_cnB np hts (mm_good hgood m1) rfl hrc.1 hrc.2 (hN _ w1) (hts _ m2) ⟨m5.1, m5.2, hpar⟩ ⟨hR.1, by omega⟩, hts _ w2, trivial⟩
              ⟨mm_blind, fun U hU hW => ⟨rfl, by rw [hU], by rw [hU]; exact hP, va_K.moved hW.alike hK, hD.weaken (fun _ _ _ _ => trivial), fun w hw => va_Nw.warmM hW (hN w hw)⟩⟩ rfl (by rw [List.length_map]; omega) hl.1 (by simp) (lv_room (mm_cats a _ h4)) hd ⟨Nat.zero_le _, Nat.zero_le _⟩
        refine mm_callW hrun hS (hAA σ H locs hS) (fun H1 locs1 hP1 hD1 hS1 => ?_)
        rw [mm_push_rv, ← hrk]
        exact ih rs _ L _ _ H1 locs1 ls hcr h8 hP1 (hD1.weaken (fun k9 q9 _ z => hAA σ H locs hS _ z)) hS1 hl
    | ireturn =>
      have hln : len = 1 := by simpa [mm_len] using hln
      subst hln
      simp only [mm_ex] at h
      obtain ⟨x, s', hst, h7⟩ := mm_i1_inv h
      clear h
      subst hst
      have h := h7
      clear h7
      obtain ⟨hst, h7⟩ := mm_e_inv h
      clear h
      subst hst
      have h := h7
      clear h7
      split at h
      · rename_i hk1
        cases h
        exact W.iret hx hb (hr.trans (mm_rk_1 hk1)) (fun t ht hW => ⟨⟨by rw [hk1]; rfl, by rw [ht]; exact hP, va_K.moved hW.alike hK, hD⟩, hS.F ht⟩) hS.2.2 hd
      · split at h
        · rename_i hk1
          split at h
          · rename_i hx01
            cases h
            exact W.zret (ty := .boolean) hx hb (hr.trans (mm_rk_3 hk1)) (mm_nar2 hx01) (fun t ht hW => ⟨⟨by rw [hk1]; rfl, by rw [ht]; exact hP, va_K.moved hW.alike hK, hD⟩, hS.F ht⟩) hS.2.2 hd
          · cases h
        · cases h
    | lreturn =>
      have hln : len = 1 := by simpa [mm_len] using hln
      subst hln
      simp only [mm_ex] at h
      obtain ⟨x, s', hst, h7⟩ := mm_l1_inv h
      clear h
      subst hst
      have h := h7
      clear h7
      obtain ⟨hst, h7⟩ := mm_e_inv h
      clear h
      subst hst
      have h := h7
      clear h7
      split at h
      · rename_i hk1
        cases h
        exact W.lret hx hb (hr.trans (mm_rk_2 hk1)) (fun t ht hW => ⟨⟨by rw [hk1]; rfl, by rw [ht]; exact hP, va_K.moved hW.alike hK, hD⟩, hS.F ht⟩) hS.2.2 hd
      · cases h
    | return_ =>
      have hln : len = 1 := by simpa [mm_len] using hln
      subst hln
      simp only [mm_ex] at h
      obtain ⟨hst, h7⟩ := mm_e_inv h
      clear h
      subst hst
      have h := h7
      clear h7
      split at h
      · rename_i hk1
        cases h
        exact W.vret hx hb (hr.trans (mm_rk_0 hk1)) (fun t ht hW => ⟨⟨by rw [hk1]; rfl, by rw [ht]; exact hP, va_K.moved hW.alike hK, hD⟩, hS.F ht⟩) hS.2.2 hd
      · cases h
    | _ =>
      have h9 : (none : Option mm_R) = some res := h
      cases h9
/-- the entry's locals -/
theorem mm_ent_mem (a : Nat → Nat) : ∀ (vs : List Value), vs.all mm_plain = true → ∀ (o i : Nat) (v : Value), (mm_ent vs)[i]? = some v → v ≠ .null → (o + i, mm_rho a v) ∈ lv_args o (vs.map (mm_rho a))
  | [], _, o, i, v, h, _ => by simp [mm_ent] at h
  | x :: vs, hp, o, i, v, h, hn => by
    simp only [List.all_cons, Bool.and_eq_true] at hp
    obtain ⟨hx, hvs⟩ := hp
    have ih := mm_ent_mem a vs hvs
    cases x with
    | int z =>
      simp only [mm_ent] at h
      simp only [List.map_cons, lv_args]
      rw [if_neg (by rw [mm_rho_cat]; simp [Value.category])]
      cases i with
      | zero => simp at h; subst h; exact List.mem_cons_self
      | succ i =>
        simp at h
        have := ih (o + 1) i v h hn
        rw [show o + 1 + i = o + (i + 1) by omega] at this
        exact List.mem_cons_of_mem _ this
    | long z =>
      simp only [mm_ent] at h
      simp only [List.map_cons, lv_args]
      rw [if_pos (by rw [mm_rho_cat]; rfl)]
      cases i with
      | zero => simp at h; subst h; exact List.mem_cons_self
      | succ i =>
        cases i with
        | zero => simp at h; exact absurd h.symm hn
        | succ i =>
          simp at h
          have := ih (o + 2) i v h hn
          rw [show o + 2 + i = o + (i + 1 + 1) by omega] at this
          exact List.mem_cons_of_mem _ this
    | ref z =>
      simp only [mm_ent] at h
      simp only [List.map_cons, lv_args]
      rw [if_neg (by rw [mm_rho_cat]; simp [Value.category])]
      cases i with
      | zero => simp at h; subst h; exact List.mem_cons_self
      | succ i =>
        simp at h
        have := ih (o + 1) i v h hn
        rw [show o + 1 + i = o + (i + 1) by omega] at this
        exact List.mem_cons_of_mem _ this
    | _ => cases hx
theorem mm_ent_len (a : Nat → Nat) : ∀ (vs : List Value), vs.all mm_plain = true → (lg_sl (vs.map (mm_rho a))).length = (mm_ent vs).length
  | [], _ => rfl
  | x :: vs, hp => by
    simp only [List.all_cons, Bool.and_eq_true] at hp
    obtain ⟨hx, hvs⟩ := hp
    have ih := mm_ent_len a vs hvs
    unfold lg_sl at ih
    cases x with
    | int z => simp [lg_sl, mm_ent, mm_rho_cat, mm_rho, Value.category] at ih ⊢; exact ih
    | long z => simp [lg_sl, mm_ent, mm_rho_cat, mm_rho, Value.category] at ih ⊢; omega
    | ref z => simp [lg_sl, mm_ent, mm_rho_cat, mm_rho, Value.category] at ih ⊢; exact ih
    | _ => cases hx
def mm_room (d : Nat) : Room := { frames := d, cells := 0, slots := 0, locals := 40 * d }
set_option maxHeartbeats 4000000 in
set_option maxRecDepth 100000 in
/-- what the small machine answers, the machine does -/
theorem mm_all {tbl : List Jvm.Cond} {nst : mm_N} {cl : List vw_C} {nm : Nat → String} {sh : List mm_Sh} {P : List mm_M} {K : mm_Lk} (hO : mm_OK tbl nst cl nm sh P K) (l : Launch) (D : va_G) (ca : Nat → ClassId) (a : Nat → Nat) : ∀ (d k : Nat) (As : List Value) (σ : mm_S) (u : mm_R) (M : mm_M), mm_G sh P d k As σ = some u → P[k]? = some M → mm_Con l tbl nst sh cl D ca a (mm_room d) M As σ u := by
  intro d
  induction d with
  | zero => intro k As σ u M h; cases h
  | succ d ih =>
    intro k As σ u M h hM sz
    simp only [mm_G] at h
    rw [hM] at h
    obtain ⟨M', hM', h⟩ := mm_bind h
    cases hM'
    obtain ⟨q, hq, h⟩ := mm_bind h
    split at h
    · rename_i hpl
      simp only [Bool.and_eq_true, decide_eq_true_eq] at hpl
      obtain ⟨hp1, hp2⟩ := hpl
      obtain ⟨m1, m2, m3, m4, m5, m6, ⟨rs0, m7⟩, m8, m9⟩ := hO.2.2.2.1 M (List.mem_of_getElem? hM)
      cases hq.symm.trans m7
      refine Met.ofW (cc := M.2.2.1) (maxL := M.2.2.2.1) (ret := M.2.2.2.2.1) m4 rfl ?_
      intro p e s m args below meth c s₁ B hml hv
      obtain ⟨rfl, hsz, hP, hK, hD0, hN⟩ := hv
      have hts0 := atoms_spec (ws := mm_ws tbl M) B.pre
      have hown : s.vm.findClass (nm M.1) = some m.cls := by rw [← m3]; exact findClass_of_methodNamed B.named
      subst hsz
      have hD := hD0.self (sz := s.heap.size)
      have hlen : (lg_sl (As.map (mm_rho a))).length ≤ M.2.2.2.1 := by rw [mm_ent_len a As hp1]; exact hp2
      have hle := lv_entry (As.map (mm_rho a)) (n := M.2.2.2.1) hlen
      rw [lg_entry_eq]
      generalize (lg_sl (As.map (mm_rho a)) ++ List.replicate (M.2.2.2.1 - (lg_sl (As.map (mm_rho a))).length) Slot.unset).toArray = ls at hle ⊢
      have hl : mm_lok a ls M.2.2.2.1 (mm_loc As M.2.2.2.1) := by
        refine ⟨hle.1, hle.2.1, ?_, fun i v hi hn => ?_⟩
        · unfold mm_loc
          rw [List.length_append, List.length_replicate]
          omega
        · unfold mm_loc at hi
          by_cases hlt : i < (mm_ent As).length
          · rw [List.getElem?_append_left hlt] at hi
            have := mm_ent_mem a As hp1 0 i v hi hn
            rw [Nat.zero_add] at this
            exact hle.2.2 _ this
          · rw [List.getElem?_append_right (by omega)] at hi
            have := List.eq_of_mem_replicate (List.mem_of_getElem? hi)
            exact absurd this hn
      exact mm_body hO (rm := mm_room d) (call := mm_G sh P d) B.exec B.bytes hml hown (fun w hw => hts0 w (List.mem_cons_of_mem _ hw)) B.returns B.notSynchronized hK hN ⟨Nat.le_refl _, by show 39 + 40 * d ≤ 40 * (d + 1); omega⟩ ⟨rfl, rfl⟩ (fun k As σ u M h hM => ih k As σ u M h hM) m9 (fun q => mm_A_eq) _ rs0 0 _ [] σ s.heap [] ls (m9 _ (List.mem_of_getElem? m7)) h hP hD va_S.rf hl
    · cases h
end
section
/-! more known locals change no answer: a loop is proved with its own locals known, and met with more -/
def mm_rf : List Value → List Value → Prop
  | [], [] => True
  | v :: vs, w :: ws => (v = .null ∨ v = w) ∧ mm_rf vs ws
  | _, _ => False
theorem mm_rf_iff : ∀ {L L' : List Value}, mm_rf L L' ↔ (L.length = L'.length ∧ ∀ (i : Nat) (v : Value), L[i]? = some v → v = .null ∨ L'[i]? = some v)
  | [], [] => by simp [mm_rf]
  | [], w :: ws => by simp [mm_rf]
  | v :: vs, [] => by simp [mm_rf]
  | v :: vs, w :: ws => by
    simp only [mm_rf, mm_rf_iff (L := vs) (L' := ws), List.length_cons]
    constructor
    · rintro ⟨h1, h2, h3⟩
      refine ⟨by omega, fun i u hi => ?_⟩
      cases i with
      | zero =>
        simp at hi
        subst hi
        rcases h1 with h | h
        · exact Or.inl h
        · exact Or.inr (by simp [h])
      | succ i => simp at hi; simpa using h3 i u hi
    · rintro ⟨h1, h2⟩
      refine ⟨?_, by omega, fun i u hi => ?_⟩
      · rcases h2 0 v (by simp) with h | h
        · exact Or.inl h
        · exact Or.inr (by simpa using h.symm)
      · simpa using h2 (i + 1) u (by simpa using hi)
theorem mm_rf_at {L L' : List Value} (h : mm_rf L L') {i : Nat} {v : Value} (hv : L[i]? = some v) (hn : v ≠ .null) : L'[i]? = some v := ((mm_rf_iff.mp h).2 i v hv).resolve_left hn
theorem mm_rf_set {L L' : List Value} (h : mm_rf L L') (i : Nat) (v : Value) : mm_rf (L.set i v) (L'.set i v) := by
  obtain ⟨h1, h2⟩ := mm_rf_iff.mp h
  refine mm_rf_iff.mpr ⟨by simp [h1], fun j u hj => ?_⟩
  by_cases hij : j = i
  · subst hij
    have hl : j < L.length := by have := (List.getElem?_eq_some_iff.mp hj).1; simpa using this
    rw [List.getElem?_set_self hl] at hj
    rw [List.getElem?_set_self (by omega)]
    exact Or.inr hj
  · rw [List.getElem?_set_ne (Ne.symm hij)] at hj ⊢
    exact h2 j u hj
theorem mm_rf_kill {L L' : List Value} (h : mm_rf L L') (i : Nat) : mm_rf (mm_kill L i) (mm_kill L' i) := by
  obtain ⟨h1, h2⟩ := mm_rf_iff.mp h
  cases i with
  | zero => exact h
  | succ j =>
    simp only [mm_kill]
    cases hL : L[j]? with
    | none =>
      have : L'[j]? = none := by
        have := List.getElem?_eq_none_iff.mp hL
        exact List.getElem?_eq_none_iff.mpr (by omega)
      rw [this]
      exact h
    | some v =>
      rcases h2 j v hL with hv | hv
      · subst hv
        have hj : j < L'.length := by have := (List.getElem?_eq_some_iff.mp hL).1; omega
        obtain ⟨w, hw⟩ : ∃ w, L'[j]? = some w := ⟨_, List.getElem?_eq_getElem hj⟩
        rw [hw]
        dsimp only
        rw [if_neg (show ¬ Value.null.category = 2 by decide)]
        split
        · refine mm_rf_iff.mpr ⟨by simp [h1], fun k u hk => ?_⟩
          by_cases hkj : k = j
          · subst hkj
            cases hL.symm.trans hk
            exact Or.inl rfl
          · rw [List.getElem?_set_ne (Ne.symm hkj)]
            exact h2 k u hk
        · exact h
      · rw [hv]
        dsimp only
        split
        · exact mm_rf_set h j .null
        · exact h
theorem mm_rf_st1 {L L' L1 : List Value} (h : mm_rf L L') {i : Nat} {v : Value} (hs : mm_st1 L i v = some L1) : ∃ L2, mm_st1 L' i v = some L2 ∧ mm_rf L1 L2 := by
  obtain ⟨h1, rfl⟩ := mm_st1_inv hs
  refine ⟨(mm_kill L' i).set i v, ?_, mm_rf_set (mm_rf_kill h i) i v⟩
  unfold mm_st1
  rw [if_pos (by rw [← (mm_rf_iff.mp h).1]; exact h1)]
theorem mm_rf_st2 {L L' L1 : List Value} (h : mm_rf L L') {i : Nat} {v : Value} (hs : mm_st2 L i v = some L1) : ∃ L2, mm_st2 L' i v = some L2 ∧ mm_rf L1 L2 := by
  obtain ⟨h1, rfl⟩ := mm_st2_inv hs
  refine ⟨((mm_kill L' i).set i v).set (i + 1) .null, ?_, mm_rf_set (mm_rf_set (mm_rf_kill h i) i v) (i + 1) .null⟩
  unfold mm_st2
  rw [if_pos (by rw [← (mm_rf_iff.mp h).1]; exact h1)]
theorem mm_rf_ldi {L L' : List Value} (h : mm_rf L L') {k : Nat} {x : Int32} (hx : mm_ldi L k = some x) : mm_ldi L' k = some x := by
  have := mm_rf_at h (mm_ldi_inv hx) (by intro q; cases q)
  unfold mm_ldi
  rw [this]
theorem mm_rf_ldl {L L' : List Value} (h : mm_rf L L') {k : Nat} {x : Int64} (hx : mm_ldl L k = some x) : mm_ldl L' k = some x := by
  have := mm_rf_at h (mm_ldl_inv hx) (by intro q; cases q)
  unfold mm_ldl
  rw [this]
theorem mm_rf_lda {L L' : List Value} (h : mm_rf L L') {k : Nat} {x : Nat} (hx : mm_lda L k = some x) : mm_lda L' k = some x := by
  have := mm_rf_at h (mm_lda_inv hx) (by intro q; cases q)
  unfold mm_lda
  rw [this]
set_option maxHeartbeats 4000000 in
set_option maxRecDepth 100000 in
theorem mm_ref {sh : List mm_Sh} {call : Nat → List Value → mm_S → Option mm_R} {rk : Nat} {labs : List (Nat × List mm_Row)} {res : mm_R} : ∀ (n : Nat) (rows : List mm_Row) (L L' st : List Value) (σ : mm_S), mm_rf L L' → mm_ex sh call rk labs n rows L st σ = some res → mm_ex sh call rk labs n rows L' st σ = some res := by
  intro n
  induction n with
  | zero => intro rows L L' st σ hr h; cases h
  | succ n ih =>
    intro rows L L' st σ hr h
    match rows, h with
    | [], h => cases h
    | (i, r1, r2, v, w) :: rs, h =>
    cases i with
    | iconst k =>
      simp only [mm_ex] at h ⊢
      exact ih _ _ _ _ _ hr h
    | bipush k =>
      simp only [mm_ex] at h ⊢
      exact ih _ _ _ _ _ hr h
    | sipush k =>
      simp only [mm_ex] at h ⊢
      exact ih _ _ _ _ _ hr h
    | lconst k =>
      simp only [mm_ex] at h ⊢
      exact ih _ _ _ _ _ hr h
    | ldc k =>
      simp only [mm_ex] at h ⊢
      exact ih _ _ _ _ _ hr h
    | ldc_w k =>
      simp only [mm_ex] at h ⊢
      exact ih _ _ _ _ _ hr h
    | ldc2_w k =>
      simp only [mm_ex] at h ⊢
      exact ih _ _ _ _ _ hr h
    | iload k =>
      simp only [mm_ex] at h ⊢
      obtain ⟨x, hx1, h⟩ := mm_bind h
      rw [mm_rf_ldi hr hx1]
      exact ih _ _ _ _ _ hr h
    | iload_n k =>
      simp only [mm_ex] at h ⊢
      obtain ⟨x, hx1, h⟩ := mm_bind h
      rw [mm_rf_ldi hr hx1]
      exact ih _ _ _ _ _ hr h
    | lload k =>
      simp only [mm_ex] at h ⊢
      obtain ⟨x, hx1, h⟩ := mm_bind h
      rw [mm_rf_ldl hr hx1]
      exact ih _ _ _ _ _ hr h
    | lload_n k =>
      simp only [mm_ex] at h ⊢
      obtain ⟨x, hx1, h⟩ := mm_bind h
      rw [mm_rf_ldl hr hx1]
      exact ih _ _ _ _ _ hr h
    | aload k =>
      simp only [mm_ex] at h ⊢
      obtain ⟨x, hx1, h⟩ := mm_bind h
      rw [mm_rf_lda hr hx1]
      exact ih _ _ _ _ _ hr h
    | aload_n k =>
      simp only [mm_ex] at h ⊢
      obtain ⟨x, hx1, h⟩ := mm_bind h
      rw [mm_rf_lda hr hx1]
      exact ih _ _ _ _ _ hr h
    | istore k =>
      simp only [mm_ex] at h ⊢
      obtain ⟨x, s', hst, h7⟩ := mm_i1_inv h
      clear h
      subst hst
      have h := h7
      clear h7
      obtain ⟨L1, hx1, h⟩ := mm_bind h
      obtain ⟨L2, hx2, hr2⟩ := mm_rf_st1 hr hx1
      show (Option.bind _ _) = _
      rw [hx2]
      exact ih _ _ _ _ _ hr2 h
    | istore_n k =>
      simp only [mm_ex] at h ⊢
      obtain ⟨x, s', hst, h7⟩ := mm_i1_inv h
      clear h
      subst hst
      have h := h7
      clear h7
      obtain ⟨L1, hx1, h⟩ := mm_bind h
      obtain ⟨L2, hx2, hr2⟩ := mm_rf_st1 hr hx1
      show (Option.bind _ _) = _
      rw [hx2]
      exact ih _ _ _ _ _ hr2 h
    | lstore k =>
      simp only [mm_ex] at h ⊢
      obtain ⟨x, s', hst, h7⟩ := mm_l1_inv h
      clear h
      subst hst
      have h := h7
      clear h7
      obtain ⟨L1, hx1, h⟩ := mm_bind h
      obtain ⟨L2, hx2, hr2⟩ := mm_rf_st2 hr hx1
      show (Option.bind _ _) = _
      rw [hx2]
      exact ih _ _ _ _ _ hr2 h
    | lstore_n k =>
      simp only [mm_ex] at h ⊢
      obtain ⟨x, s', hst, h7⟩ := mm_l1_inv h
      clear h
      subst hst
      have h := h7
      clear h7
      obtain ⟨L1, hx1, h⟩ := mm_bind h
      obtain ⟨L2, hx2, hr2⟩ := mm_rf_st2 hr hx1
      show (Option.bind _ _) = _
      rw [hx2]
      exact ih _ _ _ _ _ hr2 h
    | iinc k c =>
      simp only [mm_ex] at h ⊢
      obtain ⟨x, hx1, h⟩ := mm_bind h
      obtain ⟨L1, hx2, h⟩ := mm_bind h
      obtain ⟨L2, hx3, hr2⟩ := mm_rf_st1 hr hx2
      rw [mm_rf_ldi hr hx1, Option.bind_some, hx3]
      exact ih _ _ _ _ _ hr2 h
    | iadd =>
      simp only [mm_ex] at h ⊢
      obtain ⟨x, y, s', hst, h7⟩ := mm_i2_inv h
      clear h
      subst hst
      have h := h7
      clear h7
      exact ih _ _ _ _ _ hr h
    | isub =>
      simp only [mm_ex] at h ⊢
      obtain ⟨x, y, s', hst, h7⟩ := mm_i2_inv h
      clear h
      subst hst
      have h := h7
      clear h7
      exact ih _ _ _ _ _ hr h
    | imul =>
      simp only [mm_ex] at h ⊢
      obtain ⟨x, y, s', hst, h7⟩ := mm_i2_inv h
      clear h
      subst hst
      have h := h7
      clear h7
      exact ih _ _ _ _ _ hr h
    | iand =>
      simp only [mm_ex] at h ⊢
      obtain ⟨x, y, s', hst, h7⟩ := mm_i2_inv h
      clear h
      subst hst
      have h := h7
      clear h7
      exact ih _ _ _ _ _ hr h
    | ior =>
      simp only [mm_ex] at h ⊢
      obtain ⟨x, y, s', hst, h7⟩ := mm_i2_inv h
      clear h
      subst hst
      have h := h7
      clear h7
      exact ih _ _ _ _ _ hr h
    | ixor =>
      simp only [mm_ex] at h ⊢
      obtain ⟨x, y, s', hst, h7⟩ := mm_i2_inv h
      clear h
      subst hst
      have h := h7
      clear h7
      exact ih _ _ _ _ _ hr h
    | ishl =>
      simp only [mm_ex] at h ⊢
      obtain ⟨x, y, s', hst, h7⟩ := mm_i2_inv h
      clear h
      subst hst
      have h := h7
      clear h7
      exact ih _ _ _ _ _ hr h
    | ishr =>
      simp only [mm_ex] at h ⊢
      obtain ⟨x, y, s', hst, h7⟩ := mm_i2_inv h
      clear h
      subst hst
      have h := h7
      clear h7
      exact ih _ _ _ _ _ hr h
    | iushr =>
      simp only [mm_ex] at h ⊢
      obtain ⟨x, y, s', hst, h7⟩ := mm_i2_inv h
      clear h
      subst hst
      have h := h7
      clear h7
      exact ih _ _ _ _ _ hr h
    | ladd =>
      simp only [mm_ex] at h ⊢
      obtain ⟨x, y, s', hst, h7⟩ := mm_l2_inv h
      clear h
      subst hst
      have h := h7
      clear h7
      exact ih _ _ _ _ _ hr h
    | land =>
      simp only [mm_ex] at h ⊢
      obtain ⟨x, y, s', hst, h7⟩ := mm_l2_inv h
      clear h
      subst hst
      have h := h7
      clear h7
      exact ih _ _ _ _ _ hr h
    | lor =>
      simp only [mm_ex] at h ⊢
      obtain ⟨x, y, s', hst, h7⟩ := mm_l2_inv h
      clear h
      subst hst
      have h := h7
      clear h7
      exact ih _ _ _ _ _ hr h
    | lcmp =>
      simp only [mm_ex] at h ⊢
      obtain ⟨x, y, s', hst, h7⟩ := mm_l2_inv h
      clear h
      subst hst
      have h := h7
      clear h7
      exact ih _ _ _ _ _ hr h
    | lshl =>
      simp only [mm_ex] at h ⊢
      obtain ⟨x, y, s', hst, h7⟩ := mm_li_inv h
      clear h
      subst hst
      have h := h7
      clear h7
      exact ih _ _ _ _ _ hr h
    | lshr =>
      simp only [mm_ex] at h ⊢
      obtain ⟨x, y, s', hst, h7⟩ := mm_li_inv h
      clear h
      subst hst
      have h := h7
      clear h7
      exact ih _ _ _ _ _ hr h
    | i2l =>
      simp only [mm_ex] at h ⊢
      obtain ⟨x, s', hst, h7⟩ := mm_i1_inv h
      clear h
      subst hst
      have h := h7
      clear h7
      exact ih _ _ _ _ _ hr h
    | l2i =>
      simp only [mm_ex] at h ⊢
      obtain ⟨x, s', hst, h7⟩ := mm_l1_inv h
      clear h
      subst hst
      have h := h7
      clear h7
      exact ih _ _ _ _ _ hr h
    | dup =>
      simp only [mm_ex] at h ⊢
      obtain ⟨k, s', hst, h7⟩ := mm_a1_inv h
      clear h
      subst hst
      have h := h7
      clear h7
      exact ih _ _ _ _ _ hr h
    | dup2 =>
      simp only [mm_ex] at h ⊢
      obtain ⟨k, i9, s', hst, h7⟩ := mm_ai_inv h
      clear h
      subst hst
      have h := h7
      clear h7
      exact ih _ _ _ _ _ hr h
    | pop =>
      simp only [mm_ex] at h ⊢
      obtain ⟨x, s', hst, h7⟩ := mm_i1_inv h
      clear h
      subst hst
      have h := h7
      clear h7
      exact ih _ _ _ _ _ hr h
    | ifCond cnd off =>
      cases cnd with
      | eq =>
        simp only [mm_ex] at h ⊢
        obtain ⟨x, s', hst, h7⟩ := mm_i1_inv h
        clear h
        subst hst
        have h := h7
        clear h7
        show (if _ then _ else _) = _
        split at h
        · rename_i hc
          rw [if_pos hc]
          obtain ⟨q, hq, h⟩ := mm_bind h
          rw [hq]
          exact ih _ _ _ _ _ hr h
        · rename_i hc
          rw [if_neg hc]
          exact ih _ _ _ _ _ hr h
      | ne =>
        simp only [mm_ex] at h ⊢
        obtain ⟨x, s', hst, h7⟩ := mm_i1_inv h
        clear h
        subst hst
        have h := h7
        clear h7
        show (if _ then _ else _) = _
        split at h
        · rename_i hc
          rw [if_pos hc]
          exact ih _ _ _ _ _ hr h
        · rename_i hc
          rw [if_neg hc]
          obtain ⟨q, hq, h⟩ := mm_bind h
          rw [hq]
          exact ih _ _ _ _ _ hr h
      | lt =>
        simp only [mm_ex] at h ⊢
        obtain ⟨x, s', hst, h7⟩ := mm_i1_inv h
        clear h
        subst hst
        have h := h7
        clear h7
        show (if _ then _ else _) = _
        split at h
        · rename_i hc
          rw [if_pos hc]
          obtain ⟨q, hq, h⟩ := mm_bind h
          rw [hq]
          exact ih _ _ _ _ _ hr h
        · rename_i hc
          rw [if_neg hc]
          exact ih _ _ _ _ _ hr h
      | ge =>
        simp only [mm_ex] at h ⊢
        obtain ⟨x, s', hst, h7⟩ := mm_i1_inv h
        clear h
        subst hst
        have h := h7
        clear h7
        show (if _ then _ else _) = _
        split at h
        · rename_i hc
          rw [if_pos hc]
          obtain ⟨q, hq, h⟩ := mm_bind h
          rw [hq]
          exact ih _ _ _ _ _ hr h
        · rename_i hc
          rw [if_neg hc]
          exact ih _ _ _ _ _ hr h
      | gt =>
        simp only [mm_ex] at h ⊢
        obtain ⟨x, s', hst, h7⟩ := mm_i1_inv h
        clear h
        subst hst
        have h := h7
        clear h7
        show (if _ then _ else _) = _
        split at h
        · rename_i hc
          rw [if_pos hc]
          obtain ⟨q, hq, h⟩ := mm_bind h
          rw [hq]
          exact ih _ _ _ _ _ hr h
        · rename_i hc
          rw [if_neg hc]
          exact ih _ _ _ _ _ hr h
      | le =>
        simp only [mm_ex] at h ⊢
        obtain ⟨x, s', hst, h7⟩ := mm_i1_inv h
        clear h
        subst hst
        have h := h7
        clear h7
        show (if _ then _ else _) = _
        split at h
        · rename_i hc
          rw [if_pos hc]
          obtain ⟨q, hq, h⟩ := mm_bind h
          rw [hq]
          exact ih _ _ _ _ _ hr h
        · rename_i hc
          rw [if_neg hc]
          exact ih _ _ _ _ _ hr h
    | if_icmp cnd off =>
      cases cnd with
      | eq =>
        simp only [mm_ex] at h ⊢
        obtain ⟨x, y, s', hst, h7⟩ := mm_i2_inv h
        clear h
        subst hst
        have h := h7
        clear h7
        show (if _ then _ else _) = _
        split at h
        · rename_i hc
          rw [if_pos hc]
          obtain ⟨q, hq, h⟩ := mm_bind h
          rw [hq]
          exact ih _ _ _ _ _ hr h
        · rename_i hc
          rw [if_neg hc]
          exact ih _ _ _ _ _ hr h
      | ne =>
        simp only [mm_ex] at h ⊢
        obtain ⟨x, y, s', hst, h7⟩ := mm_i2_inv h
        clear h
        subst hst
        have h := h7
        clear h7
        show (if _ then _ else _) = _
        split at h
        · rename_i hc
          rw [if_pos hc]
          exact ih _ _ _ _ _ hr h
        · rename_i hc
          rw [if_neg hc]
          obtain ⟨q, hq, h⟩ := mm_bind h
          rw [hq]
          exact ih _ _ _ _ _ hr h
      | lt =>
        simp only [mm_ex] at h ⊢
        obtain ⟨x, y, s', hst, h7⟩ := mm_i2_inv h
        clear h
        subst hst
        have h := h7
        clear h7
        show (if _ then _ else _) = _
        split at h
        · rename_i hc
          rw [if_pos hc]
          obtain ⟨q, hq, h⟩ := mm_bind h
          rw [hq]
          exact ih _ _ _ _ _ hr h
        · rename_i hc
          rw [if_neg hc]
          exact ih _ _ _ _ _ hr h
      | ge =>
        simp only [mm_ex] at h ⊢
        obtain ⟨x, y, s', hst, h7⟩ := mm_i2_inv h
        clear h
        subst hst
        have h := h7
        clear h7
        show (if _ then _ else _) = _
        split at h
        · rename_i hc
          rw [if_pos hc]
          obtain ⟨q, hq, h⟩ := mm_bind h
          rw [hq]
          exact ih _ _ _ _ _ hr h
        · rename_i hc
          rw [if_neg hc]
          exact ih _ _ _ _ _ hr h
      | gt =>
        simp only [mm_ex] at h ⊢
        obtain ⟨x, y, s', hst, h7⟩ := mm_i2_inv h
        clear h
        subst hst
        have h := h7
        clear h7
        show (if _ then _ else _) = _
        split at h
        · rename_i hc
          rw [if_pos hc]
          obtain ⟨q, hq, h⟩ := mm_bind h
          rw [hq]
          exact ih _ _ _ _ _ hr h
        · rename_i hc
          rw [if_neg hc]
          exact ih _ _ _ _ _ hr h
      | le =>
        simp only [mm_ex] at h ⊢
        obtain ⟨x, y, s', hst, h7⟩ := mm_i2_inv h
        clear h
        subst hst
        have h := h7
        clear h7
        show (if _ then _ else _) = _
        split at h
        · rename_i hc
          rw [if_pos hc]
          obtain ⟨q, hq, h⟩ := mm_bind h
          rw [hq]
          exact ih _ _ _ _ _ hr h
        · rename_i hc
          rw [if_neg hc]
          exact ih _ _ _ _ _ hr h
    | goto off =>
      simp only [mm_ex] at h ⊢
      obtain ⟨q, hq, h⟩ := mm_bind h
      rw [hq]
      exact ih _ _ _ _ _ hr h
    | tableswitch d lo hi offs =>
      simp only [mm_ex] at h ⊢
      obtain ⟨x, s', hst, h7⟩ := mm_i1_inv h
      clear h
      subst hst
      have h := h7
      clear h7
      show (if _ then _ else _) = _
      split at h
      · rename_i hc
        rw [if_pos hc]
        obtain ⟨q, hq, h⟩ := mm_bind h
        rw [hq]
        exact ih _ _ _ _ _ hr h
      · rename_i hc
        rw [if_neg hc]
        obtain ⟨q, hq, h⟩ := mm_bind h
        rw [hq]
        exact ih _ _ _ _ _ hr h
    | getfield k =>
      simp only [mm_ex] at h ⊢
      obtain ⟨k0, s', hst, h7⟩ := mm_a1_inv h
      clear h
      subst hst
      have h := h7
      clear h7
      obtain ⟨z, hz, h⟩ := mm_bind h
      show (Option.bind _ _) = _
      rw [hz]
      exact ih _ _ _ _ _ hr h
    | putfield k =>
      simp only [mm_ex] at h ⊢
      obtain ⟨k0, x, s', hst, h7⟩ := mm_ai_inv h
      clear h
      subst hst
      have h := h7
      clear h7
      obtain ⟨z, hz, h⟩ := mm_bind h
      show (Option.bind _ _) = _
      rw [hz]
      exact ih _ _ _ _ _ hr h
    | iaload =>
      simp only [mm_ex] at h ⊢
      obtain ⟨k0, i9, s', hst, h7⟩ := mm_ai_inv h
      clear h
      subst hst
      have h := h7
      clear h7
      obtain ⟨z, hz, h⟩ := mm_bind h
      show (Option.bind _ _) = _
      rw [hz]
      show (if _ then _ else _) = _
      split at h
      · rename_i hc
        rw [if_pos hc]
        exact ih _ _ _ _ _ hr h
      · cases h
    | baload =>
      simp only [mm_ex] at h ⊢
      obtain ⟨k0, i9, s', hst, h7⟩ := mm_ai_inv h
      clear h
      subst hst
      have h := h7
      clear h7
      obtain ⟨z, hz, h⟩ := mm_bind h
      show (Option.bind _ _) = _
      rw [hz]
      show (if _ then _ else _) = _
      split at h
      · rename_i hc
        rw [if_pos hc]
        exact ih _ _ _ _ _ hr h
      · cases h
    | laload =>
      simp only [mm_ex] at h ⊢
      obtain ⟨k0, i9, s', hst, h7⟩ := mm_ai_inv h
      clear h
      subst hst
      have h := h7
      clear h7
      obtain ⟨z, hz, h⟩ := mm_bind h
      show (Option.bind _ _) = _
      rw [hz]
      show (if _ then _ else _) = _
      split at h
      · rename_i hc
        rw [if_pos hc]
        exact ih _ _ _ _ _ hr h
      · cases h
    | aaload =>
      simp only [mm_ex] at h ⊢
      obtain ⟨k0, i9, s', hst, h7⟩ := mm_ai_inv h
      clear h
      subst hst
      have h := h7
      clear h7
      obtain ⟨z, hz, h⟩ := mm_bind h
      show (Option.bind _ _) = _
      rw [hz]
      exact ih _ _ _ _ _ hr h
    | iastore =>
      simp only [mm_ex] at h ⊢
      obtain ⟨k0, i9, x, s', hst, h7⟩ := mm_aii_inv h
      clear h
      subst hst
      have h := h7
      clear h7
      obtain ⟨z, hz, h⟩ := mm_bind h
      show (Option.bind _ _) = _
      rw [hz]
      show (if _ then _ else _) = _
      split at h
      · rename_i hc
        rw [if_pos hc]
        exact ih _ _ _ _ _ hr h
      · cases h
    | lastore =>
      simp only [mm_ex] at h ⊢
      obtain ⟨k0, i9, x, s', hst, h7⟩ := mm_ail_inv h
      clear h
      subst hst
      have h := h7
      clear h7
      obtain ⟨z, hz, h⟩ := mm_bind h
      show (Option.bind _ _) = _
      rw [hz]
      show (if _ then _ else _) = _
      split at h
      · rename_i hc
        rw [if_pos hc]
        exact ih _ _ _ _ _ hr h
      · cases h
    | bastore =>
      simp only [mm_ex] at h ⊢
      obtain ⟨k0, i9, x, s', hst, h7⟩ := mm_aii_inv h
      clear h
      subst hst
      have h := h7
      clear h7
      obtain ⟨z, hz, h⟩ := mm_bind h
      show (Option.bind _ _) = _
      rw [hz]
      show (if _ then _ else _) = _
      split at h
      · rename_i hc
        rw [if_pos hc]
        split at h
        · rename_i hc2
          rw [if_pos hc2]
          exact ih _ _ _ _ _ hr h
        · cases h
      · cases h
    | invokevirtual k =>
      simp only [mm_ex] at h ⊢
      obtain ⟨q, hq, h⟩ := mm_bind h
      obtain ⟨u, hu, h⟩ := mm_bind h
      rw [hq, Option.bind_some, hu]
      exact ih _ _ _ _ _ hr h
    | invokestatic k =>
      by_cases e0 : r1 = 1000
      · subst e0
        simp only [mm_ex] at h ⊢
        obtain ⟨x, y, s', hst, h7⟩ := mm_i2_inv h
        clear h
        subst hst
        have h := h7
        clear h7
        show (if _ then _ else _) = _
        split at h
        · rename_i hc
          rw [if_pos hc]
          exact ih _ _ _ _ _ hr h
        · cases h
      by_cases e1 : r1 = 1001
      · subst e1
        simp only [mm_ex] at h ⊢
        obtain ⟨x, y, s', hst, h7⟩ := mm_i2_inv h
        clear h
        subst hst
        have h := h7
        clear h7
        show (if _ then _ else _) = _
        split at h
        · rename_i hc
          rw [if_pos hc]
          exact ih _ _ _ _ _ hr h
        · cases h
      have e : ∀ M : List Value, mm_ex sh call rk labs (n + 1) ((.invokestatic k, r1, r2, v, w) :: rs) M st σ = ((mm_sargs (r2 % 16) st).bind fun q => (call r1 q.1 σ).bind fun u => mm_ex sh call rk labs n rs M (mm_push (r2 / 16 % 4) u q.2) u.2.2) := by
        intro M
        show (match r1 with
          | 1000 => _
          | 1001 => _
          | _ => _) = _
        split
        · exact absurd rfl e0
        · exact absurd rfl e1
        · rfl
      rw [e] at h ⊢
      obtain ⟨q, hq, h⟩ := mm_bind h
      obtain ⟨u, hu, h⟩ := mm_bind h
      rw [hq, Option.bind_some, hu]
      exact ih _ _ _ _ _ hr h
    | ireturn =>
      simp only [mm_ex] at h ⊢
      exact h
    | lreturn =>
      simp only [mm_ex] at h ⊢
      exact h
    | return_ =>
      simp only [mm_ex] at h ⊢
      exact h
    | _ =>
      have h9 : (none : Option mm_R) = some res := h
      cases h9
end
