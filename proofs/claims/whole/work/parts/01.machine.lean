/-! THE SMALL MACHINE. A fixed set of cells (objects and arrays, made by the constructors, never more), a pure state, an interpreter over it that is a function; its soundness against the machine is proved once, in 02. Refs are numbers of cells. -/
abbrev mm_S : Type := (Nat → Nat → Int32) × (Nat → Nat → Int64)
/-- a cell: an object (class, fields: (0,_) int, (1,_) boolean, (2,k) the cell k), or an array (0 int, 1 boolean, 2 long, 3 of rows; length; the rows' cells) -/
abbrev mm_Sh : Type := (Nat × List (Nat × Nat)) ⊕ (Nat × Nat × List Nat)
abbrev mm_Row : Type := Instr × Nat × Nat × Int32 × Int64
abbrev mm_R : Type := Int32 × Int64 × mm_S
def mm_w {α : Type} (f : Nat → Nat → α) (k j : Nat) (v : α) : Nat → Nat → α := fun k' => if k' = k then (fun j' => if j' = j then v else f k j') else f k'
abbrev mm_in (i : Int32) (n : Nat) : Prop := ¬ (i < 0 ∨ n ≤ i.toNatClampNeg)
def mm_i1 (st : List Value) (f : Int32 → List Value → Option mm_R) : Option mm_R := match st with
  | .int x :: s => f x s
  | _ => none
def mm_i2 (st : List Value) (f : Int32 → Int32 → List Value → Option mm_R) : Option mm_R := match st with
  | .int y :: .int x :: s => f x y s
  | _ => none
def mm_l1 (st : List Value) (f : Int64 → List Value → Option mm_R) : Option mm_R := match st with
  | .long x :: s => f x s
  | _ => none
def mm_l2 (st : List Value) (f : Int64 → Int64 → List Value → Option mm_R) : Option mm_R := match st with
  | .long y :: .long x :: s => f x y s
  | _ => none
def mm_li (st : List Value) (f : Int64 → Int32 → List Value → Option mm_R) : Option mm_R := match st with
  | .int y :: .long x :: s => f x y s
  | _ => none
def mm_a1 (st : List Value) (f : Nat → List Value → Option mm_R) : Option mm_R := match st with
  | .ref k :: s => f k s
  | _ => none
def mm_ai (st : List Value) (f : Nat → Int32 → List Value → Option mm_R) : Option mm_R := match st with
  | .int i :: .ref k :: s => f k i s
  | _ => none
def mm_aii (st : List Value) (f : Nat → Int32 → Int32 → List Value → Option mm_R) : Option mm_R := match st with
  | .int x :: .int i :: .ref k :: s => f k i x s
  | _ => none
def mm_ail (st : List Value) (f : Nat → Int32 → Int64 → List Value → Option mm_R) : Option mm_R := match st with
  | .long x :: .int i :: .ref k :: s => f k i x s
  | _ => none
def mm_e (st : List Value) (f : Option mm_R) : Option mm_R := match st with
  | [] => f
  | _ => none
theorem mm_i1_inv {st f r} (h : mm_i1 st f = some r) : ∃ x s, st = .int x :: s ∧ f x s = some r := by
  unfold mm_i1 at h; split at h
  · exact ⟨_, _, rfl, h⟩
  · cases h
theorem mm_i2_inv {st f r} (h : mm_i2 st f = some r) : ∃ x y s, st = .int y :: .int x :: s ∧ f x y s = some r := by
  unfold mm_i2 at h; split at h
  · exact ⟨_, _, _, rfl, h⟩
  · cases h
theorem mm_l1_inv {st f r} (h : mm_l1 st f = some r) : ∃ x s, st = .long x :: s ∧ f x s = some r := by
  unfold mm_l1 at h; split at h
  · exact ⟨_, _, rfl, h⟩
  · cases h
theorem mm_l2_inv {st f r} (h : mm_l2 st f = some r) : ∃ x y s, st = .long y :: .long x :: s ∧ f x y s = some r := by
  unfold mm_l2 at h; split at h
  · exact ⟨_, _, _, rfl, h⟩
  · cases h
theorem mm_li_inv {st f r} (h : mm_li st f = some r) : ∃ x y s, st = .int y :: .long x :: s ∧ f x y s = some r := by
  unfold mm_li at h; split at h
  · exact ⟨_, _, _, rfl, h⟩
  · cases h
theorem mm_a1_inv {st f r} (h : mm_a1 st f = some r) : ∃ k s, st = .ref k :: s ∧ f k s = some r := by
  unfold mm_a1 at h; split at h
  · exact ⟨_, _, rfl, h⟩
  · cases h
theorem mm_ai_inv {st f r} (h : mm_ai st f = some r) : ∃ k i s, st = .int i :: .ref k :: s ∧ f k i s = some r := by
  unfold mm_ai at h; split at h
  · exact ⟨_, _, _, rfl, h⟩
  · cases h
theorem mm_aii_inv {st f r} (h : mm_aii st f = some r) : ∃ k i x s, st = .int x :: .int i :: .ref k :: s ∧ f k i x s = some r := by
  unfold mm_aii at h; split at h
  · exact ⟨_, _, _, _, rfl, h⟩
  · cases h
theorem mm_ail_inv {st f r} (h : mm_ail st f = some r) : ∃ k i x s, st = .long x :: .int i :: .ref k :: s ∧ f k i x s = some r := by
  unfold mm_ail at h; split at h
  · exact ⟨_, _, _, _, rfl, h⟩
  · cases h
theorem mm_e_inv {st f r} (h : mm_e st f = some r) : st = [] ∧ f = some r := by
  unfold mm_e at h; split at h
  · exact ⟨rfl, h⟩
  · cases h
def mm_ldi (L : List Value) (k : Nat) : Option Int32 := match L[k]? with
  | some (.int x) => some x
  | _ => none
def mm_ldl (L : List Value) (k : Nat) : Option Int64 := match L[k]? with
  | some (.long x) => some x
  | _ => none
def mm_lda (L : List Value) (k : Nat) : Option Nat := match L[k]? with
  | some (.ref x) => some x
  | _ => none
def mm_kill (L : List Value) (i : Nat) : List Value := match i with
  | 0 => L
  | j + 1 => match L[j]? with
    | some v => if v.category = 2 then L.set j .null else L
    | none => L
def mm_st1 (L : List Value) (i : Nat) (v : Value) : Option (List Value) := if i < L.length then some ((mm_kill L i).set i v) else none
def mm_st2 (L : List Value) (i : Nat) (v : Value) : Option (List Value) := if i + 1 < L.length then some (((mm_kill L i).set i v).set (i + 1) .null) else none
theorem mm_ldi_inv {L k x} (h : mm_ldi L k = some x) : L[k]? = some (.int x) := by
  unfold mm_ldi at h; split at h
  · cases h; assumption
  · cases h
theorem mm_ldl_inv {L k x} (h : mm_ldl L k = some x) : L[k]? = some (.long x) := by
  unfold mm_ldl at h; split at h
  · cases h; assumption
  · cases h
theorem mm_lda_inv {L k x} (h : mm_lda L k = some x) : L[k]? = some (.ref x) := by
  unfold mm_lda at h; split at h
  · cases h; assumption
  · cases h
def mm_fld (sh : List mm_Sh) (σ : mm_S) (ci k j : Nat) : Option Value := match sh[k]? with
  | some (.inl (c, fs)) => if c = ci then (match fs[j]? with
    | some (t, q) => some (if t = 2 then .ref q else .int (σ.1 k j))
    | none => none) else none
  | _ => none
def mm_pf (sh : List mm_Sh) (ci k j : Nat) (x : Int32) : Option Unit := match sh[k]? with
  | some (.inl (c, fs)) => if c = ci then (match fs[j]? with
    | some (t, _) => if t = 0 then some () else if t = 1 then (if x = 0 ∨ x = 1 then some () else none) else none
    | none => none) else none
  | _ => none
def mm_arr (sh : List mm_Sh) (k kd : Nat) : Option Nat := match sh[k]? with
  | some (.inr (d, n, _)) => if d = kd then some n else none
  | _ => none
def mm_grid (sh : List mm_Sh) (k : Nat) (i : Int32) : Option Nat := match sh[k]? with
  | some (.inr (d, n, rw)) => if d = 3 then (if mm_in i n then rw[i.toNatClampNeg]? else none) else none
  | _ => none
def mm_cargs (sh : List mm_Sh) (na ci : Nat) (st : List Value) : Option (List Value × List Value) := match (st.take na).reverse with
  | .ref k :: As => match sh[k]? with
    | some (.inl (c, _)) => if (decide (c = ci) && (decide ((st.drop na).length ≤ 4) && decide (na ≤ st.length))) = true then some (.ref k :: As, st.drop na) else none
    | _ => none
  | _ => none
def mm_sargs (na : Nat) (st : List Value) : Option (List Value × List Value) := if (decide ((st.drop na).length ≤ 4) && decide (na ≤ st.length)) = true then some ((st.take na).reverse, st.drop na) else none
def mm_push (rk : Nat) (u : mm_R) (st : List Value) : List Value := match rk with
  | 0 => st
  | 2 => .long u.2.1 :: st
  | _ => .int u.1 :: st
def mm_ex (sh : List mm_Sh) (call : Nat → List Value → mm_S → Option mm_R) (rk : Nat) (labs : List (Nat × List mm_Row)) : Nat → List mm_Row → List Value → List Value → mm_S → Option mm_R
  | 0, _, _, _, _ => none
  | _ + 1, [], _, _, _ => none
  | n + 1, (i, r1, r2, v, w) :: rs, L, st, σ => match i with
    | .iconst _ => mm_ex sh call rk labs n rs L (.int v :: st) σ
    | .bipush _ => mm_ex sh call rk labs n rs L (.int v :: st) σ
    | .sipush _ => mm_ex sh call rk labs n rs L (.int v :: st) σ
    | .ldc _ => mm_ex sh call rk labs n rs L (.int v :: st) σ
    | .ldc_w _ => mm_ex sh call rk labs n rs L (.int v :: st) σ
    | .lconst _ => mm_ex sh call rk labs n rs L (.long w :: st) σ
    | .ldc2_w _ => mm_ex sh call rk labs n rs L (.long w :: st) σ
    | .iload k => (mm_ldi L k).bind fun x => mm_ex sh call rk labs n rs L (.int x :: st) σ
    | .iload_n k => (mm_ldi L k.val).bind fun x => mm_ex sh call rk labs n rs L (.int x :: st) σ
    | .lload k => (mm_ldl L k).bind fun x => mm_ex sh call rk labs n rs L (.long x :: st) σ
    | .lload_n k => (mm_ldl L k.val).bind fun x => mm_ex sh call rk labs n rs L (.long x :: st) σ
    | .aload k => (mm_lda L k).bind fun x => mm_ex sh call rk labs n rs L (.ref x :: st) σ
    | .aload_n k => (mm_lda L k.val).bind fun x => mm_ex sh call rk labs n rs L (.ref x :: st) σ
    | .istore k => mm_i1 st fun x s => (mm_st1 L k (.int x)).bind fun L' => mm_ex sh call rk labs n rs L' s σ
    | .istore_n k => mm_i1 st fun x s => (mm_st1 L k.val (.int x)).bind fun L' => mm_ex sh call rk labs n rs L' s σ
    | .lstore k => mm_l1 st fun x s => (mm_st2 L k (.long x)).bind fun L' => mm_ex sh call rk labs n rs L' s σ
    | .lstore_n k => mm_l1 st fun x s => (mm_st2 L k.val (.long x)).bind fun L' => mm_ex sh call rk labs n rs L' s σ
    | .iinc k _ => (mm_ldi L k).bind fun x => (mm_st1 L k (.int (x + v))).bind fun L' => mm_ex sh call rk labs n rs L' st σ
    | .iadd => mm_i2 st fun x y s => mm_ex sh call rk labs n rs L (.int (x + y) :: s) σ
    | .isub => mm_i2 st fun x y s => mm_ex sh call rk labs n rs L (.int (x - y) :: s) σ
    | .imul => mm_i2 st fun x y s => mm_ex sh call rk labs n rs L (.int (x * y) :: s) σ
    | .iand => mm_i2 st fun x y s => mm_ex sh call rk labs n rs L (.int (x &&& y) :: s) σ
    | .ior => mm_i2 st fun x y s => mm_ex sh call rk labs n rs L (.int (x ||| y) :: s) σ
    | .ixor => mm_i2 st fun x y s => mm_ex sh call rk labs n rs L (.int (x ^^^ y) :: s) σ
    | .ishl => mm_i2 st fun x y s => mm_ex sh call rk labs n rs L (.int (x <<< (y &&& 31)) :: s) σ
    | .ishr => mm_i2 st fun x y s => mm_ex sh call rk labs n rs L (.int (x >>> (y &&& 31)) :: s) σ
    | .iushr => mm_i2 st fun x y s => mm_ex sh call rk labs n rs L (.int ((x.toUInt32 >>> (y.toUInt32 &&& Int32.toUInt32 31)).toInt32) :: s) σ
    | .ladd => mm_l2 st fun x y s => mm_ex sh call rk labs n rs L (.long (x + y) :: s) σ
    | .land => mm_l2 st fun x y s => mm_ex sh call rk labs n rs L (.long (x &&& y) :: s) σ
    | .lor => mm_l2 st fun x y s => mm_ex sh call rk labs n rs L (.long (x ||| y) :: s) σ
    | .lcmp => mm_l2 st fun x y s => mm_ex sh call rk labs n rs L (.int (lg_cmp x y) :: s) σ
    | .lshl => mm_li st fun x y s => mm_ex sh call rk labs n rs L (.long (x <<< (y.toInt64 &&& 63)) :: s) σ
    | .lshr => mm_li st fun x y s => mm_ex sh call rk labs n rs L (.long (x >>> (y.toInt64 &&& 63)) :: s) σ
    | .i2l => mm_i1 st fun x s => mm_ex sh call rk labs n rs L (.long x.toInt64 :: s) σ
    | .l2i => mm_l1 st fun x s => mm_ex sh call rk labs n rs L (.int x.toInt32 :: s) σ
    | .dup => mm_a1 st fun k s => mm_ex sh call rk labs n rs L (.ref k :: .ref k :: s) σ
    | .dup2 => mm_ai st fun k i s => mm_ex sh call rk labs n rs L (.int i :: .ref k :: .int i :: .ref k :: s) σ
    | .pop => mm_i1 st fun _ s => mm_ex sh call rk labs n rs L s σ
    | .ifCond .eq _ => mm_i1 st fun x s => if x = 0 then (labs[r1]?).bind fun q => mm_ex sh call rk labs n q.2 L s σ else mm_ex sh call rk labs n rs L s σ
    | .ifCond .ne _ => mm_i1 st fun x s => if x = 0 then mm_ex sh call rk labs n rs L s σ else (labs[r1]?).bind fun q => mm_ex sh call rk labs n q.2 L s σ
    | .ifCond .lt _ => mm_i1 st fun x s => if x < 0 then (labs[r1]?).bind fun q => mm_ex sh call rk labs n q.2 L s σ else mm_ex sh call rk labs n rs L s σ
    | .ifCond .ge _ => mm_i1 st fun x s => if 0 ≤ x then (labs[r1]?).bind fun q => mm_ex sh call rk labs n q.2 L s σ else mm_ex sh call rk labs n rs L s σ
    | .ifCond .gt _ => mm_i1 st fun x s => if 0 < x then (labs[r1]?).bind fun q => mm_ex sh call rk labs n q.2 L s σ else mm_ex sh call rk labs n rs L s σ
    | .ifCond .le _ => mm_i1 st fun x s => if x ≤ 0 then (labs[r1]?).bind fun q => mm_ex sh call rk labs n q.2 L s σ else mm_ex sh call rk labs n rs L s σ
    | .if_icmp .eq _ => mm_i2 st fun x y s => if x = y then (labs[r1]?).bind fun q => mm_ex sh call rk labs n q.2 L s σ else mm_ex sh call rk labs n rs L s σ
    | .if_icmp .ne _ => mm_i2 st fun x y s => if x = y then mm_ex sh call rk labs n rs L s σ else (labs[r1]?).bind fun q => mm_ex sh call rk labs n q.2 L s σ
    | .if_icmp .lt _ => mm_i2 st fun x y s => if x < y then (labs[r1]?).bind fun q => mm_ex sh call rk labs n q.2 L s σ else mm_ex sh call rk labs n rs L s σ
    | .if_icmp .ge _ => mm_i2 st fun x y s => if y ≤ x then (labs[r1]?).bind fun q => mm_ex sh call rk labs n q.2 L s σ else mm_ex sh call rk labs n rs L s σ
    | .if_icmp .gt _ => mm_i2 st fun x y s => if y < x then (labs[r1]?).bind fun q => mm_ex sh call rk labs n q.2 L s σ else mm_ex sh call rk labs n rs L s σ
    | .if_icmp .le _ => mm_i2 st fun x y s => if x ≤ y then (labs[r1]?).bind fun q => mm_ex sh call rk labs n q.2 L s σ else mm_ex sh call rk labs n rs L s σ
    | .goto _ => (labs[r1]?).bind fun q => mm_ex sh call rk labs n q.2 L st σ
    | .tableswitch _ lo hi _ => mm_i1 st fun x s => if x.toInt < lo ∨ hi < x.toInt then (labs[r2]?).bind fun q => mm_ex sh call rk labs n q.2 L s σ else (labs[r1 + (x.toInt - lo).toNat]?).bind fun q => mm_ex sh call rk labs n q.2 L s σ
    | .getfield _ => mm_a1 st fun k s => (mm_fld sh σ r1 k r2).bind fun u => mm_ex sh call rk labs n rs L (u :: s) σ
    | .putfield _ => mm_ai st fun k x s => (mm_pf sh r1 k r2 x).bind fun _ => mm_ex sh call rk labs n rs L s (mm_w σ.1 k r2 x, σ.2)
    | .iaload => mm_ai st fun k i s => (mm_arr sh k 0).bind fun z => if mm_in i z then mm_ex sh call rk labs n rs L (.int (σ.1 k i.toNatClampNeg) :: s) σ else none
    | .baload => mm_ai st fun k i s => (mm_arr sh k 1).bind fun z => if mm_in i z then mm_ex sh call rk labs n rs L (.int (σ.1 k i.toNatClampNeg) :: s) σ else none
    | .laload => mm_ai st fun k i s => (mm_arr sh k 2).bind fun z => if mm_in i z then mm_ex sh call rk labs n rs L (.long (σ.2 k i.toNatClampNeg) :: s) σ else none
    | .aaload => mm_ai st fun k i s => (mm_grid sh k i).bind fun q => mm_ex sh call rk labs n rs L (.ref q :: s) σ
    | .iastore => mm_aii st fun k i x s => (mm_arr sh k 0).bind fun z => if mm_in i z then mm_ex sh call rk labs n rs L s (mm_w σ.1 k i.toNatClampNeg x, σ.2) else none
    | .bastore => mm_aii st fun k i x s => (mm_arr sh k 1).bind fun z => if mm_in i z then (if x = 0 ∨ x = 1 then mm_ex sh call rk labs n rs L s (mm_w σ.1 k i.toNatClampNeg x, σ.2) else none) else none
    | .lastore => mm_ail st fun k i x s => (mm_arr sh k 2).bind fun z => if mm_in i z then mm_ex sh call rk labs n rs L s (σ.1, mm_w σ.2 k i.toNatClampNeg x) else none
    | .invokevirtual _ => (mm_cargs sh (r2 % 16) (r2 / 64) st).bind fun q => (call r1 q.1 σ).bind fun u => mm_ex sh call rk labs n rs L (mm_push (r2 / 16 % 4) u q.2) u.2.2
    | .invokestatic _ => match r1 with
      | 1000 => mm_i2 st fun x y s => if s.length ≤ 4 then mm_ex sh call rk labs n rs L (.int (if x < y then y else x) :: s) σ else none
      | 1001 => mm_i2 st fun x y s => if s.length ≤ 4 then mm_ex sh call rk labs n rs L (.int (if y < x then y else x) :: s) σ else none
      | _ => (mm_sargs (r2 % 16) st).bind fun q => (call r1 q.1 σ).bind fun u => mm_ex sh call rk labs n rs L (mm_push (r2 / 16 % 4) u q.2) u.2.2
    | .ireturn => mm_i1 st fun x s => mm_e s (if rk = 1 then some (x, 0, σ) else if rk = 3 then (if x = 0 ∨ x = 1 then some (x, 0, σ) else none) else none)
    | .lreturn => mm_l1 st fun x s => mm_e s (if rk = 2 then some (0, x, σ) else none)
    | .return_ => mm_e st (if rk = 0 then some (0, 0, σ) else none)
    | _ => none
def mm_plain : Value → Bool
  | .int _ => true
  | .long _ => true
  | .ref _ => true
  | _ => false
def mm_ent : List Value → List Value
  | [] => []
  | .long x :: vs => .long x :: .null :: mm_ent vs
  | v :: vs => v :: mm_ent vs
def mm_loc (args : List Value) (maxL : Nat) : List Value := mm_ent args ++ List.replicate (maxL - (mm_ent args).length) .null
/-- a method: the number of its class, its name, code, locals, answer's type, its labels (first: the entry) with the rows from there on -/
abbrev mm_M : Type := Nat × MethodName × ByteArray × Nat × Option FieldType × List (Nat × List mm_Row)
def mm_rk (ret : Option FieldType) : Nat := match ret with
  | none => 0
  | some .int => 1
  | some .long => 2
  | some .boolean => 3
  | _ => 9
def mm_G (sh : List mm_Sh) (P : List mm_M) : Nat → Nat → List Value → mm_S → Option mm_R
  | 0, _, _, _ => none
  | d + 1, m, args, σ => (P[m]?).bind fun M => (M.2.2.2.2.2[0]?).bind fun q =>
    if (args.all mm_plain && decide ((mm_ent args).length ≤ M.2.2.2.1)) = true then mm_ex sh (mm_G sh P d) (mm_rk M.2.2.2.2.1) M.2.2.2.2.2 100000000 q.2 (mm_loc args M.2.2.2.1) [] σ else none
