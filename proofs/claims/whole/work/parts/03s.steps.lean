/-! one row of the small machine, as an equation: to walk a stretch of code left to right -/
set_option maxRecDepth 20000 in
theorem ex_iconst {sh : List mm_Sh} {call : Nat → List Value → mm_S → Option mm_R} {rk n r1 r2 : Nat} {labs : List (Nat × List mm_Row)} {rs : List mm_Row} {L st : List Value} {σ : mm_S} {v : Int32} {w : Int64} {k : Int} : mm_ex sh call rk labs (n + 1) ((.iconst k, r1, r2, v, w) :: rs) L (st) σ = mm_ex sh call rk labs n rs L (.int v :: st) σ := rfl
set_option maxRecDepth 20000 in
theorem ex_bipush {sh : List mm_Sh} {call : Nat → List Value → mm_S → Option mm_R} {rk n r1 r2 : Nat} {labs : List (Nat × List mm_Row)} {rs : List mm_Row} {L st : List Value} {σ : mm_S} {v : Int32} {w : Int64} {k : Int} : mm_ex sh call rk labs (n + 1) ((.bipush k, r1, r2, v, w) :: rs) L (st) σ = mm_ex sh call rk labs n rs L (.int v :: st) σ := rfl
set_option maxRecDepth 20000 in
theorem ex_sipush {sh : List mm_Sh} {call : Nat → List Value → mm_S → Option mm_R} {rk n r1 r2 : Nat} {labs : List (Nat × List mm_Row)} {rs : List mm_Row} {L st : List Value} {σ : mm_S} {v : Int32} {w : Int64} {k : Int} : mm_ex sh call rk labs (n + 1) ((.sipush k, r1, r2, v, w) :: rs) L (st) σ = mm_ex sh call rk labs n rs L (.int v :: st) σ := rfl
set_option maxRecDepth 20000 in
theorem ex_ldc {sh : List mm_Sh} {call : Nat → List Value → mm_S → Option mm_R} {rk n r1 r2 : Nat} {labs : List (Nat × List mm_Row)} {rs : List mm_Row} {L st : List Value} {σ : mm_S} {v : Int32} {w : Int64} {k : Nat} : mm_ex sh call rk labs (n + 1) ((.ldc k, r1, r2, v, w) :: rs) L (st) σ = mm_ex sh call rk labs n rs L (.int v :: st) σ := rfl
set_option maxRecDepth 20000 in
theorem ex_ldc_w {sh : List mm_Sh} {call : Nat → List Value → mm_S → Option mm_R} {rk n r1 r2 : Nat} {labs : List (Nat × List mm_Row)} {rs : List mm_Row} {L st : List Value} {σ : mm_S} {v : Int32} {w : Int64} {k : Nat} : mm_ex sh call rk labs (n + 1) ((.ldc_w k, r1, r2, v, w) :: rs) L (st) σ = mm_ex sh call rk labs n rs L (.int v :: st) σ := rfl
set_option maxRecDepth 20000 in
theorem ex_lconst {sh : List mm_Sh} {call : Nat → List Value → mm_S → Option mm_R} {rk n r1 r2 : Nat} {labs : List (Nat × List mm_Row)} {rs : List mm_Row} {L st : List Value} {σ : mm_S} {v : Int32} {w : Int64} {k : Fin 2} : mm_ex sh call rk labs (n + 1) ((.lconst k, r1, r2, v, w) :: rs) L (st) σ = mm_ex sh call rk labs n rs L (.long w :: st) σ := rfl
set_option maxRecDepth 20000 in
theorem ex_ldc2_w {sh : List mm_Sh} {call : Nat → List Value → mm_S → Option mm_R} {rk n r1 r2 : Nat} {labs : List (Nat × List mm_Row)} {rs : List mm_Row} {L st : List Value} {σ : mm_S} {v : Int32} {w : Int64} {k : Nat} : mm_ex sh call rk labs (n + 1) ((.ldc2_w k, r1, r2, v, w) :: rs) L (st) σ = mm_ex sh call rk labs n rs L (.long w :: st) σ := rfl
set_option maxRecDepth 20000 in
theorem ex_iload {sh : List mm_Sh} {call : Nat → List Value → mm_S → Option mm_R} {rk n r1 r2 : Nat} {labs : List (Nat × List mm_Row)} {rs : List mm_Row} {L st : List Value} {σ : mm_S} {v : Int32} {w : Int64} {k : Nat} {x : Int32} (h : L[k]? = some (.int x)) : mm_ex sh call rk labs (n + 1) ((.iload k, r1, r2, v, w) :: rs) L (st) σ = mm_ex sh call rk labs n rs L (.int x :: st) σ := by
  show Option.bind (mm_ldi L k) _ = _
  unfold mm_ldi
  rw [h]
  rfl
set_option maxRecDepth 20000 in
theorem ex_iload_n {sh : List mm_Sh} {call : Nat → List Value → mm_S → Option mm_R} {rk n r1 r2 : Nat} {labs : List (Nat × List mm_Row)} {rs : List mm_Row} {L st : List Value} {σ : mm_S} {v : Int32} {w : Int64} {k : Fin 4} {x : Int32} (h : L[k.val]? = some (.int x)) : mm_ex sh call rk labs (n + 1) ((.iload_n k, r1, r2, v, w) :: rs) L (st) σ = mm_ex sh call rk labs n rs L (.int x :: st) σ := by
  show Option.bind (mm_ldi L k.val) _ = _
  unfold mm_ldi
  rw [h]
  rfl
set_option maxRecDepth 20000 in
theorem ex_lload {sh : List mm_Sh} {call : Nat → List Value → mm_S → Option mm_R} {rk n r1 r2 : Nat} {labs : List (Nat × List mm_Row)} {rs : List mm_Row} {L st : List Value} {σ : mm_S} {v : Int32} {w : Int64} {k : Nat} {x : Int64} (h : L[k]? = some (.long x)) : mm_ex sh call rk labs (n + 1) ((.lload k, r1, r2, v, w) :: rs) L (st) σ = mm_ex sh call rk labs n rs L (.long x :: st) σ := by
  show Option.bind (mm_ldl L k) _ = _
  unfold mm_ldl
  rw [h]
  rfl
set_option maxRecDepth 20000 in
theorem ex_lload_n {sh : List mm_Sh} {call : Nat → List Value → mm_S → Option mm_R} {rk n r1 r2 : Nat} {labs : List (Nat × List mm_Row)} {rs : List mm_Row} {L st : List Value} {σ : mm_S} {v : Int32} {w : Int64} {k : Fin 4} {x : Int64} (h : L[k.val]? = some (.long x)) : mm_ex sh call rk labs (n + 1) ((.lload_n k, r1, r2, v, w) :: rs) L (st) σ = mm_ex sh call rk labs n rs L (.long x :: st) σ := by
  show Option.bind (mm_ldl L k.val) _ = _
  unfold mm_ldl
  rw [h]
  rfl
set_option maxRecDepth 20000 in
theorem ex_aload {sh : List mm_Sh} {call : Nat → List Value → mm_S → Option mm_R} {rk n r1 r2 : Nat} {labs : List (Nat × List mm_Row)} {rs : List mm_Row} {L st : List Value} {σ : mm_S} {v : Int32} {w : Int64} {k : Nat} {x : Nat} (h : L[k]? = some (.ref x)) : mm_ex sh call rk labs (n + 1) ((.aload k, r1, r2, v, w) :: rs) L (st) σ = mm_ex sh call rk labs n rs L (.ref x :: st) σ := by
  show Option.bind (mm_lda L k) _ = _
  unfold mm_lda
  rw [h]
  rfl
set_option maxRecDepth 20000 in
theorem ex_aload_n {sh : List mm_Sh} {call : Nat → List Value → mm_S → Option mm_R} {rk n r1 r2 : Nat} {labs : List (Nat × List mm_Row)} {rs : List mm_Row} {L st : List Value} {σ : mm_S} {v : Int32} {w : Int64} {k : Fin 4} {x : Nat} (h : L[k.val]? = some (.ref x)) : mm_ex sh call rk labs (n + 1) ((.aload_n k, r1, r2, v, w) :: rs) L (st) σ = mm_ex sh call rk labs n rs L (.ref x :: st) σ := by
  show Option.bind (mm_lda L k.val) _ = _
  unfold mm_lda
  rw [h]
  rfl
set_option maxRecDepth 20000 in
theorem ex_istore {sh : List mm_Sh} {call : Nat → List Value → mm_S → Option mm_R} {rk n r1 r2 : Nat} {labs : List (Nat × List mm_Row)} {rs : List mm_Row} {L st : List Value} {σ : mm_S} {v : Int32} {w : Int64} {k : Nat} {x : Int32} {L2 : List Value} (h : mm_st1 L k (.int x) = some L2) : mm_ex sh call rk labs (n + 1) ((.istore k, r1, r2, v, w) :: rs) L (.int x :: st) σ = mm_ex sh call rk labs n rs L2 (st) σ := by
  show Option.bind (mm_st1 L k (.int x)) _ = _
  rw [h]
  rfl
set_option maxRecDepth 20000 in
theorem ex_istore_n {sh : List mm_Sh} {call : Nat → List Value → mm_S → Option mm_R} {rk n r1 r2 : Nat} {labs : List (Nat × List mm_Row)} {rs : List mm_Row} {L st : List Value} {σ : mm_S} {v : Int32} {w : Int64} {k : Fin 4} {x : Int32} {L2 : List Value} (h : mm_st1 L k.val (.int x) = some L2) : mm_ex sh call rk labs (n + 1) ((.istore_n k, r1, r2, v, w) :: rs) L (.int x :: st) σ = mm_ex sh call rk labs n rs L2 (st) σ := by
  show Option.bind (mm_st1 L k.val (.int x)) _ = _
  rw [h]
  rfl
set_option maxRecDepth 20000 in
theorem ex_lstore {sh : List mm_Sh} {call : Nat → List Value → mm_S → Option mm_R} {rk n r1 r2 : Nat} {labs : List (Nat × List mm_Row)} {rs : List mm_Row} {L st : List Value} {σ : mm_S} {v : Int32} {w : Int64} {k : Nat} {x : Int64} {L2 : List Value} (h : mm_st2 L k (.long x) = some L2) : mm_ex sh call rk labs (n + 1) ((.lstore k, r1, r2, v, w) :: rs) L (.long x :: st) σ = mm_ex sh call rk labs n rs L2 (st) σ := by
  show Option.bind (mm_st2 L k (.long x)) _ = _
  rw [h]
  rfl
set_option maxRecDepth 20000 in
theorem ex_lstore_n {sh : List mm_Sh} {call : Nat → List Value → mm_S → Option mm_R} {rk n r1 r2 : Nat} {labs : List (Nat × List mm_Row)} {rs : List mm_Row} {L st : List Value} {σ : mm_S} {v : Int32} {w : Int64} {k : Fin 4} {x : Int64} {L2 : List Value} (h : mm_st2 L k.val (.long x) = some L2) : mm_ex sh call rk labs (n + 1) ((.lstore_n k, r1, r2, v, w) :: rs) L (.long x :: st) σ = mm_ex sh call rk labs n rs L2 (st) σ := by
  show Option.bind (mm_st2 L k.val (.long x)) _ = _
  rw [h]
  rfl
set_option maxRecDepth 20000 in
theorem ex_iinc {sh : List mm_Sh} {call : Nat → List Value → mm_S → Option mm_R} {rk n r1 r2 : Nat} {labs : List (Nat × List mm_Row)} {rs : List mm_Row} {L st : List Value} {σ : mm_S} {v : Int32} {w : Int64} {k : Nat} {c : Int} {x : Int32} {L2 : List Value} (h0 : L[k]? = some (.int x)) (h : mm_st1 L k (.int (x + v)) = some L2) : mm_ex sh call rk labs (n + 1) ((.iinc k c, r1, r2, v, w) :: rs) L (st) σ = mm_ex sh call rk labs n rs L2 (st) σ := by
  show Option.bind (mm_ldi L k) _ = _
  unfold mm_ldi
  rw [h0]
  show Option.bind (mm_st1 L k (.int (x + v))) _ = _
  rw [h]
  rfl
set_option maxRecDepth 20000 in
theorem ex_iadd {sh : List mm_Sh} {call : Nat → List Value → mm_S → Option mm_R} {rk n r1 r2 : Nat} {labs : List (Nat × List mm_Row)} {rs : List mm_Row} {L st : List Value} {σ : mm_S} {v : Int32} {w : Int64} {x y : Int32} : mm_ex sh call rk labs (n + 1) ((.iadd, r1, r2, v, w) :: rs) L (.int y :: .int x :: st) σ = mm_ex sh call rk labs n rs L (.int (x + y) :: st) σ := rfl
set_option maxRecDepth 20000 in
theorem ex_isub {sh : List mm_Sh} {call : Nat → List Value → mm_S → Option mm_R} {rk n r1 r2 : Nat} {labs : List (Nat × List mm_Row)} {rs : List mm_Row} {L st : List Value} {σ : mm_S} {v : Int32} {w : Int64} {x y : Int32} : mm_ex sh call rk labs (n + 1) ((.isub, r1, r2, v, w) :: rs) L (.int y :: .int x :: st) σ = mm_ex sh call rk labs n rs L (.int (x - y) :: st) σ := rfl
set_option maxRecDepth 20000 in
theorem ex_imul {sh : List mm_Sh} {call : Nat → List Value → mm_S → Option mm_R} {rk n r1 r2 : Nat} {labs : List (Nat × List mm_Row)} {rs : List mm_Row} {L st : List Value} {σ : mm_S} {v : Int32} {w : Int64} {x y : Int32} : mm_ex sh call rk labs (n + 1) ((.imul, r1, r2, v, w) :: rs) L (.int y :: .int x :: st) σ = mm_ex sh call rk labs n rs L (.int (x * y) :: st) σ := rfl
set_option maxRecDepth 20000 in
theorem ex_iand {sh : List mm_Sh} {call : Nat → List Value → mm_S → Option mm_R} {rk n r1 r2 : Nat} {labs : List (Nat × List mm_Row)} {rs : List mm_Row} {L st : List Value} {σ : mm_S} {v : Int32} {w : Int64} {x y : Int32} : mm_ex sh call rk labs (n + 1) ((.iand, r1, r2, v, w) :: rs) L (.int y :: .int x :: st) σ = mm_ex sh call rk labs n rs L (.int (x &&& y) :: st) σ := rfl
set_option maxRecDepth 20000 in
theorem ex_ior {sh : List mm_Sh} {call : Nat → List Value → mm_S → Option mm_R} {rk n r1 r2 : Nat} {labs : List (Nat × List mm_Row)} {rs : List mm_Row} {L st : List Value} {σ : mm_S} {v : Int32} {w : Int64} {x y : Int32} : mm_ex sh call rk labs (n + 1) ((.ior, r1, r2, v, w) :: rs) L (.int y :: .int x :: st) σ = mm_ex sh call rk labs n rs L (.int (x ||| y) :: st) σ := rfl
set_option maxRecDepth 20000 in
theorem ex_ixor {sh : List mm_Sh} {call : Nat → List Value → mm_S → Option mm_R} {rk n r1 r2 : Nat} {labs : List (Nat × List mm_Row)} {rs : List mm_Row} {L st : List Value} {σ : mm_S} {v : Int32} {w : Int64} {x y : Int32} : mm_ex sh call rk labs (n + 1) ((.ixor, r1, r2, v, w) :: rs) L (.int y :: .int x :: st) σ = mm_ex sh call rk labs n rs L (.int (x ^^^ y) :: st) σ := rfl
set_option maxRecDepth 20000 in
theorem ex_ishl {sh : List mm_Sh} {call : Nat → List Value → mm_S → Option mm_R} {rk n r1 r2 : Nat} {labs : List (Nat × List mm_Row)} {rs : List mm_Row} {L st : List Value} {σ : mm_S} {v : Int32} {w : Int64} {x y : Int32} : mm_ex sh call rk labs (n + 1) ((.ishl, r1, r2, v, w) :: rs) L (.int y :: .int x :: st) σ = mm_ex sh call rk labs n rs L (.int (x <<< (y &&& 31)) :: st) σ := rfl
set_option maxRecDepth 20000 in
theorem ex_ishr {sh : List mm_Sh} {call : Nat → List Value → mm_S → Option mm_R} {rk n r1 r2 : Nat} {labs : List (Nat × List mm_Row)} {rs : List mm_Row} {L st : List Value} {σ : mm_S} {v : Int32} {w : Int64} {x y : Int32} : mm_ex sh call rk labs (n + 1) ((.ishr, r1, r2, v, w) :: rs) L (.int y :: .int x :: st) σ = mm_ex sh call rk labs n rs L (.int (x >>> (y &&& 31)) :: st) σ := rfl
set_option maxRecDepth 20000 in
theorem ex_iushr {sh : List mm_Sh} {call : Nat → List Value → mm_S → Option mm_R} {rk n r1 r2 : Nat} {labs : List (Nat × List mm_Row)} {rs : List mm_Row} {L st : List Value} {σ : mm_S} {v : Int32} {w : Int64} {x y : Int32} : mm_ex sh call rk labs (n + 1) ((.iushr, r1, r2, v, w) :: rs) L (.int y :: .int x :: st) σ = mm_ex sh call rk labs n rs L (.int ((x.toUInt32 >>> (y.toUInt32 &&& Int32.toUInt32 31)).toInt32) :: st) σ := rfl
set_option maxRecDepth 20000 in
theorem ex_ladd {sh : List mm_Sh} {call : Nat → List Value → mm_S → Option mm_R} {rk n r1 r2 : Nat} {labs : List (Nat × List mm_Row)} {rs : List mm_Row} {L st : List Value} {σ : mm_S} {v : Int32} {w : Int64} {x y : Int64} : mm_ex sh call rk labs (n + 1) ((.ladd, r1, r2, v, w) :: rs) L (.long y :: .long x :: st) σ = mm_ex sh call rk labs n rs L (.long (x + y) :: st) σ := rfl
set_option maxRecDepth 20000 in
theorem ex_land {sh : List mm_Sh} {call : Nat → List Value → mm_S → Option mm_R} {rk n r1 r2 : Nat} {labs : List (Nat × List mm_Row)} {rs : List mm_Row} {L st : List Value} {σ : mm_S} {v : Int32} {w : Int64} {x y : Int64} : mm_ex sh call rk labs (n + 1) ((.land, r1, r2, v, w) :: rs) L (.long y :: .long x :: st) σ = mm_ex sh call rk labs n rs L (.long (x &&& y) :: st) σ := rfl
set_option maxRecDepth 20000 in
theorem ex_lor {sh : List mm_Sh} {call : Nat → List Value → mm_S → Option mm_R} {rk n r1 r2 : Nat} {labs : List (Nat × List mm_Row)} {rs : List mm_Row} {L st : List Value} {σ : mm_S} {v : Int32} {w : Int64} {x y : Int64} : mm_ex sh call rk labs (n + 1) ((.lor, r1, r2, v, w) :: rs) L (.long y :: .long x :: st) σ = mm_ex sh call rk labs n rs L (.long (x ||| y) :: st) σ := rfl
set_option maxRecDepth 20000 in
theorem ex_lcmp {sh : List mm_Sh} {call : Nat → List Value → mm_S → Option mm_R} {rk n r1 r2 : Nat} {labs : List (Nat × List mm_Row)} {rs : List mm_Row} {L st : List Value} {σ : mm_S} {v : Int32} {w : Int64} {x y : Int64} : mm_ex sh call rk labs (n + 1) ((.lcmp, r1, r2, v, w) :: rs) L (.long y :: .long x :: st) σ = mm_ex sh call rk labs n rs L (.int (lg_cmp x y) :: st) σ := rfl
set_option maxRecDepth 20000 in
theorem ex_lshl {sh : List mm_Sh} {call : Nat → List Value → mm_S → Option mm_R} {rk n r1 r2 : Nat} {labs : List (Nat × List mm_Row)} {rs : List mm_Row} {L st : List Value} {σ : mm_S} {v : Int32} {w : Int64} {x : Int64} {y : Int32} : mm_ex sh call rk labs (n + 1) ((.lshl, r1, r2, v, w) :: rs) L (.int y :: .long x :: st) σ = mm_ex sh call rk labs n rs L (.long (x <<< (y.toInt64 &&& 63)) :: st) σ := rfl
set_option maxRecDepth 20000 in
theorem ex_lshr {sh : List mm_Sh} {call : Nat → List Value → mm_S → Option mm_R} {rk n r1 r2 : Nat} {labs : List (Nat × List mm_Row)} {rs : List mm_Row} {L st : List Value} {σ : mm_S} {v : Int32} {w : Int64} {x : Int64} {y : Int32} : mm_ex sh call rk labs (n + 1) ((.lshr, r1, r2, v, w) :: rs) L (.int y :: .long x :: st) σ = mm_ex sh call rk labs n rs L (.long (x >>> (y.toInt64 &&& 63)) :: st) σ := rfl
set_option maxRecDepth 20000 in
theorem ex_i2l {sh : List mm_Sh} {call : Nat → List Value → mm_S → Option mm_R} {rk n r1 r2 : Nat} {labs : List (Nat × List mm_Row)} {rs : List mm_Row} {L st : List Value} {σ : mm_S} {v : Int32} {w : Int64} {x : Int32} : mm_ex sh call rk labs (n + 1) ((.i2l, r1, r2, v, w) :: rs) L (.int x :: st) σ = mm_ex sh call rk labs n rs L (.long x.toInt64 :: st) σ := rfl
set_option maxRecDepth 20000 in
theorem ex_l2i {sh : List mm_Sh} {call : Nat → List Value → mm_S → Option mm_R} {rk n r1 r2 : Nat} {labs : List (Nat × List mm_Row)} {rs : List mm_Row} {L st : List Value} {σ : mm_S} {v : Int32} {w : Int64} {x : Int64} : mm_ex sh call rk labs (n + 1) ((.l2i, r1, r2, v, w) :: rs) L (.long x :: st) σ = mm_ex sh call rk labs n rs L (.int x.toInt32 :: st) σ := rfl
set_option maxRecDepth 20000 in
theorem ex_dup {sh : List mm_Sh} {call : Nat → List Value → mm_S → Option mm_R} {rk n r1 r2 : Nat} {labs : List (Nat × List mm_Row)} {rs : List mm_Row} {L st : List Value} {σ : mm_S} {v : Int32} {w : Int64} {k : Nat} : mm_ex sh call rk labs (n + 1) ((.dup, r1, r2, v, w) :: rs) L (.ref k :: st) σ = mm_ex sh call rk labs n rs L (.ref k :: .ref k :: st) σ := rfl
set_option maxRecDepth 20000 in
theorem ex_dup2 {sh : List mm_Sh} {call : Nat → List Value → mm_S → Option mm_R} {rk n r1 r2 : Nat} {labs : List (Nat × List mm_Row)} {rs : List mm_Row} {L st : List Value} {σ : mm_S} {v : Int32} {w : Int64} {k : Nat} {i : Int32} : mm_ex sh call rk labs (n + 1) ((.dup2, r1, r2, v, w) :: rs) L (.int i :: .ref k :: st) σ = mm_ex sh call rk labs n rs L (.int i :: .ref k :: .int i :: .ref k :: st) σ := rfl
set_option maxRecDepth 20000 in
theorem ex_pop {sh : List mm_Sh} {call : Nat → List Value → mm_S → Option mm_R} {rk n r1 r2 : Nat} {labs : List (Nat × List mm_Row)} {rs : List mm_Row} {L st : List Value} {σ : mm_S} {v : Int32} {w : Int64} {x : Int32} : mm_ex sh call rk labs (n + 1) ((.pop, r1, r2, v, w) :: rs) L (.int x :: st) σ = mm_ex sh call rk labs n rs L (st) σ := rfl
set_option maxRecDepth 20000 in
theorem ex_if_eq {sh : List mm_Sh} {call : Nat → List Value → mm_S → Option mm_R} {rk n r1 r2 : Nat} {labs : List (Nat × List mm_Row)} {rs : List mm_Row} {L st : List Value} {σ : mm_S} {v : Int32} {w : Int64} {off : Int} {x : Int32} {p : Nat} {q : List mm_Row} (h : labs[r1]? = some (p, q)) : mm_ex sh call rk labs (n + 1) ((.ifCond .eq off, r1, r2, v, w) :: rs) L (.int x :: st) σ = if x = 0 then mm_ex sh call rk labs n q L st σ else mm_ex sh call rk labs n rs L (st) σ := by
  show (if x = 0 then (Option.bind labs[r1]? fun q => mm_ex sh call rk labs n q.2 L st σ) else mm_ex sh call rk labs n rs L (st) σ) = _
  rw [h]
  rfl
set_option maxRecDepth 20000 in
theorem ex_if_lt {sh : List mm_Sh} {call : Nat → List Value → mm_S → Option mm_R} {rk n r1 r2 : Nat} {labs : List (Nat × List mm_Row)} {rs : List mm_Row} {L st : List Value} {σ : mm_S} {v : Int32} {w : Int64} {off : Int} {x : Int32} {p : Nat} {q : List mm_Row} (h : labs[r1]? = some (p, q)) : mm_ex sh call rk labs (n + 1) ((.ifCond .lt off, r1, r2, v, w) :: rs) L (.int x :: st) σ = if x < 0 then mm_ex sh call rk labs n q L st σ else mm_ex sh call rk labs n rs L (st) σ := by
  show (if x < 0 then (Option.bind labs[r1]? fun q => mm_ex sh call rk labs n q.2 L st σ) else mm_ex sh call rk labs n rs L (st) σ) = _
  rw [h]
  rfl
set_option maxRecDepth 20000 in
theorem ex_if_ge {sh : List mm_Sh} {call : Nat → List Value → mm_S → Option mm_R} {rk n r1 r2 : Nat} {labs : List (Nat × List mm_Row)} {rs : List mm_Row} {L st : List Value} {σ : mm_S} {v : Int32} {w : Int64} {off : Int} {x : Int32} {p : Nat} {q : List mm_Row} (h : labs[r1]? = some (p, q)) : mm_ex sh call rk labs (n + 1) ((.ifCond .ge off, r1, r2, v, w) :: rs) L (.int x :: st) σ = if 0 ≤ x then mm_ex sh call rk labs n q L st σ else mm_ex sh call rk labs n rs L (st) σ := by
  show (if 0 ≤ x then (Option.bind labs[r1]? fun q => mm_ex sh call rk labs n q.2 L st σ) else mm_ex sh call rk labs n rs L (st) σ) = _
  rw [h]
  rfl
set_option maxRecDepth 20000 in
theorem ex_if_gt {sh : List mm_Sh} {call : Nat → List Value → mm_S → Option mm_R} {rk n r1 r2 : Nat} {labs : List (Nat × List mm_Row)} {rs : List mm_Row} {L st : List Value} {σ : mm_S} {v : Int32} {w : Int64} {off : Int} {x : Int32} {p : Nat} {q : List mm_Row} (h : labs[r1]? = some (p, q)) : mm_ex sh call rk labs (n + 1) ((.ifCond .gt off, r1, r2, v, w) :: rs) L (.int x :: st) σ = if 0 < x then mm_ex sh call rk labs n q L st σ else mm_ex sh call rk labs n rs L (st) σ := by
  show (if 0 < x then (Option.bind labs[r1]? fun q => mm_ex sh call rk labs n q.2 L st σ) else mm_ex sh call rk labs n rs L (st) σ) = _
  rw [h]
  rfl
set_option maxRecDepth 20000 in
theorem ex_if_le {sh : List mm_Sh} {call : Nat → List Value → mm_S → Option mm_R} {rk n r1 r2 : Nat} {labs : List (Nat × List mm_Row)} {rs : List mm_Row} {L st : List Value} {σ : mm_S} {v : Int32} {w : Int64} {off : Int} {x : Int32} {p : Nat} {q : List mm_Row} (h : labs[r1]? = some (p, q)) : mm_ex sh call rk labs (n + 1) ((.ifCond .le off, r1, r2, v, w) :: rs) L (.int x :: st) σ = if x ≤ 0 then mm_ex sh call rk labs n q L st σ else mm_ex sh call rk labs n rs L (st) σ := by
  show (if x ≤ 0 then (Option.bind labs[r1]? fun q => mm_ex sh call rk labs n q.2 L st σ) else mm_ex sh call rk labs n rs L (st) σ) = _
  rw [h]
  rfl
set_option maxRecDepth 20000 in
theorem ex_if_ne {sh : List mm_Sh} {call : Nat → List Value → mm_S → Option mm_R} {rk n r1 r2 : Nat} {labs : List (Nat × List mm_Row)} {rs : List mm_Row} {L st : List Value} {σ : mm_S} {v : Int32} {w : Int64} {off : Int} {x : Int32} {p : Nat} {q : List mm_Row} (h : labs[r1]? = some (p, q)) : mm_ex sh call rk labs (n + 1) ((.ifCond .ne off, r1, r2, v, w) :: rs) L (.int x :: st) σ = if x = 0 then mm_ex sh call rk labs n rs L (st) σ else mm_ex sh call rk labs n q L st σ := by
  show (if x = 0 then mm_ex sh call rk labs n rs L (st) σ else (Option.bind labs[r1]? fun q => mm_ex sh call rk labs n q.2 L st σ)) = _
  rw [h]
  rfl
set_option maxRecDepth 20000 in
theorem ex_ic_eq {sh : List mm_Sh} {call : Nat → List Value → mm_S → Option mm_R} {rk n r1 r2 : Nat} {labs : List (Nat × List mm_Row)} {rs : List mm_Row} {L st : List Value} {σ : mm_S} {v : Int32} {w : Int64} {off : Int} {x y : Int32} {p : Nat} {q : List mm_Row} (h : labs[r1]? = some (p, q)) : mm_ex sh call rk labs (n + 1) ((.if_icmp .eq off, r1, r2, v, w) :: rs) L (.int y :: .int x :: st) σ = if x = y then mm_ex sh call rk labs n q L st σ else mm_ex sh call rk labs n rs L (st) σ := by
  show (if x = y then (Option.bind labs[r1]? fun q => mm_ex sh call rk labs n q.2 L st σ) else mm_ex sh call rk labs n rs L (st) σ) = _
  rw [h]
  rfl
set_option maxRecDepth 20000 in
theorem ex_ic_lt {sh : List mm_Sh} {call : Nat → List Value → mm_S → Option mm_R} {rk n r1 r2 : Nat} {labs : List (Nat × List mm_Row)} {rs : List mm_Row} {L st : List Value} {σ : mm_S} {v : Int32} {w : Int64} {off : Int} {x y : Int32} {p : Nat} {q : List mm_Row} (h : labs[r1]? = some (p, q)) : mm_ex sh call rk labs (n + 1) ((.if_icmp .lt off, r1, r2, v, w) :: rs) L (.int y :: .int x :: st) σ = if x < y then mm_ex sh call rk labs n q L st σ else mm_ex sh call rk labs n rs L (st) σ := by
  show (if x < y then (Option.bind labs[r1]? fun q => mm_ex sh call rk labs n q.2 L st σ) else mm_ex sh call rk labs n rs L (st) σ) = _
  rw [h]
  rfl
set_option maxRecDepth 20000 in
theorem ex_ic_ge {sh : List mm_Sh} {call : Nat → List Value → mm_S → Option mm_R} {rk n r1 r2 : Nat} {labs : List (Nat × List mm_Row)} {rs : List mm_Row} {L st : List Value} {σ : mm_S} {v : Int32} {w : Int64} {off : Int} {x y : Int32} {p : Nat} {q : List mm_Row} (h : labs[r1]? = some (p, q)) : mm_ex sh call rk labs (n + 1) ((.if_icmp .ge off, r1, r2, v, w) :: rs) L (.int y :: .int x :: st) σ = if y ≤ x then mm_ex sh call rk labs n q L st σ else mm_ex sh call rk labs n rs L (st) σ := by
  show (if y ≤ x then (Option.bind labs[r1]? fun q => mm_ex sh call rk labs n q.2 L st σ) else mm_ex sh call rk labs n rs L (st) σ) = _
  rw [h]
  rfl
set_option maxRecDepth 20000 in
theorem ex_ic_gt {sh : List mm_Sh} {call : Nat → List Value → mm_S → Option mm_R} {rk n r1 r2 : Nat} {labs : List (Nat × List mm_Row)} {rs : List mm_Row} {L st : List Value} {σ : mm_S} {v : Int32} {w : Int64} {off : Int} {x y : Int32} {p : Nat} {q : List mm_Row} (h : labs[r1]? = some (p, q)) : mm_ex sh call rk labs (n + 1) ((.if_icmp .gt off, r1, r2, v, w) :: rs) L (.int y :: .int x :: st) σ = if y < x then mm_ex sh call rk labs n q L st σ else mm_ex sh call rk labs n rs L (st) σ := by
  show (if y < x then (Option.bind labs[r1]? fun q => mm_ex sh call rk labs n q.2 L st σ) else mm_ex sh call rk labs n rs L (st) σ) = _
  rw [h]
  rfl
set_option maxRecDepth 20000 in
theorem ex_ic_le {sh : List mm_Sh} {call : Nat → List Value → mm_S → Option mm_R} {rk n r1 r2 : Nat} {labs : List (Nat × List mm_Row)} {rs : List mm_Row} {L st : List Value} {σ : mm_S} {v : Int32} {w : Int64} {off : Int} {x y : Int32} {p : Nat} {q : List mm_Row} (h : labs[r1]? = some (p, q)) : mm_ex sh call rk labs (n + 1) ((.if_icmp .le off, r1, r2, v, w) :: rs) L (.int y :: .int x :: st) σ = if x ≤ y then mm_ex sh call rk labs n q L st σ else mm_ex sh call rk labs n rs L (st) σ := by
  show (if x ≤ y then (Option.bind labs[r1]? fun q => mm_ex sh call rk labs n q.2 L st σ) else mm_ex sh call rk labs n rs L (st) σ) = _
  rw [h]
  rfl
set_option maxRecDepth 20000 in
theorem ex_ic_ne {sh : List mm_Sh} {call : Nat → List Value → mm_S → Option mm_R} {rk n r1 r2 : Nat} {labs : List (Nat × List mm_Row)} {rs : List mm_Row} {L st : List Value} {σ : mm_S} {v : Int32} {w : Int64} {off : Int} {x y : Int32} {p : Nat} {q : List mm_Row} (h : labs[r1]? = some (p, q)) : mm_ex sh call rk labs (n + 1) ((.if_icmp .ne off, r1, r2, v, w) :: rs) L (.int y :: .int x :: st) σ = if x = y then mm_ex sh call rk labs n rs L (st) σ else mm_ex sh call rk labs n q L st σ := by
  show (if x = y then mm_ex sh call rk labs n rs L (st) σ else (Option.bind labs[r1]? fun q => mm_ex sh call rk labs n q.2 L st σ)) = _
  rw [h]
  rfl
set_option maxRecDepth 20000 in
theorem ex_goto {sh : List mm_Sh} {call : Nat → List Value → mm_S → Option mm_R} {rk n r1 r2 : Nat} {labs : List (Nat × List mm_Row)} {rs : List mm_Row} {L st : List Value} {σ : mm_S} {v : Int32} {w : Int64} {off : Int} {p : Nat} {q : List mm_Row} (h : labs[r1]? = some (p, q)) : mm_ex sh call rk labs (n + 1) ((.goto off, r1, r2, v, w) :: rs) L (st) σ = mm_ex sh call rk labs n q L st σ := by
  show (Option.bind labs[r1]? fun q => mm_ex sh call rk labs n q.2 L st σ) = _
  rw [h]
  rfl
set_option maxRecDepth 20000 in
theorem ex_sw {sh : List mm_Sh} {call : Nat → List Value → mm_S → Option mm_R} {rk n r1 r2 : Nat} {labs : List (Nat × List mm_Row)} {rs : List mm_Row} {L st : List Value} {σ : mm_S} {v : Int32} {w : Int64} {d lo hi : Int} {offs : Array Int} {x : Int32} {p : Nat} {q : List mm_Row} (h : labs[r2]? = some (p, q)) : mm_ex sh call rk labs (n + 1) ((.tableswitch d lo hi offs, r1, r2, v, w) :: rs) L (.int x :: st) σ = if x.toInt < lo ∨ hi < x.toInt then mm_ex sh call rk labs n q L st σ else (labs[r1 + (x.toInt - lo).toNat]?).bind fun z => mm_ex sh call rk labs n z.2 L st σ := by
  show (if x.toInt < lo ∨ hi < x.toInt then (Option.bind labs[r2]? fun q => mm_ex sh call rk labs n q.2 L st σ) else (labs[r1 + (x.toInt - lo).toNat]?).bind fun z => mm_ex sh call rk labs n z.2 L st σ) = _
  rw [h]
  rfl
set_option maxRecDepth 20000 in
theorem ex_get {sh : List mm_Sh} {call : Nat → List Value → mm_S → Option mm_R} {rk n r1 r2 : Nat} {labs : List (Nat × List mm_Row)} {rs : List mm_Row} {L st : List Value} {σ : mm_S} {v : Int32} {w : Int64} {k q : Nat} {u : Value} (h : mm_fld sh σ r1 q r2 = some u) : mm_ex sh call rk labs (n + 1) ((.getfield k, r1, r2, v, w) :: rs) L (.ref q :: st) σ = mm_ex sh call rk labs n rs L (u :: st) σ := by
  show Option.bind (mm_fld sh σ r1 q r2) _ = _
  rw [h]
  rfl
set_option maxRecDepth 20000 in
theorem ex_put {sh : List mm_Sh} {call : Nat → List Value → mm_S → Option mm_R} {rk n r1 r2 : Nat} {labs : List (Nat × List mm_Row)} {rs : List mm_Row} {L st : List Value} {σ : mm_S} {v : Int32} {w : Int64} {k q : Nat} {x : Int32} {u : Unit} (h : mm_pf sh r1 q r2 x = some u) : mm_ex sh call rk labs (n + 1) ((.putfield k, r1, r2, v, w) :: rs) L (.int x :: .ref q :: st) σ = mm_ex sh call rk labs n rs L (st) (mm_w σ.1 q r2 x, σ.2) := by
  show Option.bind (mm_pf sh r1 q r2 x) _ = _
  rw [h]
  rfl
set_option maxRecDepth 20000 in
theorem ex_iaload {sh : List mm_Sh} {call : Nat → List Value → mm_S → Option mm_R} {rk n r1 r2 : Nat} {labs : List (Nat × List mm_Row)} {rs : List mm_Row} {L st : List Value} {σ : mm_S} {v : Int32} {w : Int64} {q : Nat} {i : Int32} {z : Nat} (h : mm_arr sh q 0 = some z) : mm_ex sh call rk labs (n + 1) ((.iaload, r1, r2, v, w) :: rs) L (.int i :: .ref q :: st) σ = if mm_in i z then mm_ex sh call rk labs n rs L (.int (σ.1 q i.toNatClampNeg) :: st) σ else none := by
  show Option.bind (mm_arr sh q 0) _ = _
  rw [h]
  rfl
set_option maxRecDepth 20000 in
theorem ex_iaload_b {sh : List mm_Sh} {call : Nat → List Value → mm_S → Option mm_R} {rk n r1 r2 : Nat} {labs : List (Nat × List mm_Row)} {rs : List mm_Row} {L st : List Value} {σ : mm_S} {v : Int32} {w : Int64} {q : Nat} {i : Int32} : mm_ex sh call rk labs (n + 1) ((.iaload, r1, r2, v, w) :: rs) L (.int i :: .ref q :: st) σ = (mm_arr sh q 0).bind fun z => if mm_in i z then mm_ex sh call rk labs n rs L (.int (σ.1 q i.toNatClampNeg) :: st) σ else none := rfl
set_option maxRecDepth 20000 in
theorem ex_baload {sh : List mm_Sh} {call : Nat → List Value → mm_S → Option mm_R} {rk n r1 r2 : Nat} {labs : List (Nat × List mm_Row)} {rs : List mm_Row} {L st : List Value} {σ : mm_S} {v : Int32} {w : Int64} {q : Nat} {i : Int32} {z : Nat} (h : mm_arr sh q 1 = some z) : mm_ex sh call rk labs (n + 1) ((.baload, r1, r2, v, w) :: rs) L (.int i :: .ref q :: st) σ = if mm_in i z then mm_ex sh call rk labs n rs L (.int (σ.1 q i.toNatClampNeg) :: st) σ else none := by
  show Option.bind (mm_arr sh q 1) _ = _
  rw [h]
  rfl
set_option maxRecDepth 20000 in
theorem ex_baload_b {sh : List mm_Sh} {call : Nat → List Value → mm_S → Option mm_R} {rk n r1 r2 : Nat} {labs : List (Nat × List mm_Row)} {rs : List mm_Row} {L st : List Value} {σ : mm_S} {v : Int32} {w : Int64} {q : Nat} {i : Int32} : mm_ex sh call rk labs (n + 1) ((.baload, r1, r2, v, w) :: rs) L (.int i :: .ref q :: st) σ = (mm_arr sh q 1).bind fun z => if mm_in i z then mm_ex sh call rk labs n rs L (.int (σ.1 q i.toNatClampNeg) :: st) σ else none := rfl
set_option maxRecDepth 20000 in
theorem ex_laload {sh : List mm_Sh} {call : Nat → List Value → mm_S → Option mm_R} {rk n r1 r2 : Nat} {labs : List (Nat × List mm_Row)} {rs : List mm_Row} {L st : List Value} {σ : mm_S} {v : Int32} {w : Int64} {q : Nat} {i : Int32} {z : Nat} (h : mm_arr sh q 2 = some z) : mm_ex sh call rk labs (n + 1) ((.laload, r1, r2, v, w) :: rs) L (.int i :: .ref q :: st) σ = if mm_in i z then mm_ex sh call rk labs n rs L (.long (σ.2 q i.toNatClampNeg) :: st) σ else none := by
  show Option.bind (mm_arr sh q 2) _ = _
  rw [h]
  rfl
set_option maxRecDepth 20000 in
theorem ex_laload_b {sh : List mm_Sh} {call : Nat → List Value → mm_S → Option mm_R} {rk n r1 r2 : Nat} {labs : List (Nat × List mm_Row)} {rs : List mm_Row} {L st : List Value} {σ : mm_S} {v : Int32} {w : Int64} {q : Nat} {i : Int32} : mm_ex sh call rk labs (n + 1) ((.laload, r1, r2, v, w) :: rs) L (.int i :: .ref q :: st) σ = (mm_arr sh q 2).bind fun z => if mm_in i z then mm_ex sh call rk labs n rs L (.long (σ.2 q i.toNatClampNeg) :: st) σ else none := rfl
set_option maxRecDepth 20000 in
theorem ex_aaload {sh : List mm_Sh} {call : Nat → List Value → mm_S → Option mm_R} {rk n r1 r2 : Nat} {labs : List (Nat × List mm_Row)} {rs : List mm_Row} {L st : List Value} {σ : mm_S} {v : Int32} {w : Int64} {q : Nat} {i : Int32} : mm_ex sh call rk labs (n + 1) ((.aaload, r1, r2, v, w) :: rs) L (.int i :: .ref q :: st) σ = (mm_grid sh q i).bind fun z => mm_ex sh call rk labs n rs L (.ref z :: st) σ := rfl
set_option maxRecDepth 20000 in
theorem ex_iastore {sh : List mm_Sh} {call : Nat → List Value → mm_S → Option mm_R} {rk n r1 r2 : Nat} {labs : List (Nat × List mm_Row)} {rs : List mm_Row} {L st : List Value} {σ : mm_S} {v : Int32} {w : Int64} {q : Nat} {i : Int32} {x : Int32} {z : Nat} (h : mm_arr sh q 0 = some z) : mm_ex sh call rk labs (n + 1) ((.iastore, r1, r2, v, w) :: rs) L (.int x :: .int i :: .ref q :: st) σ = if mm_in i z then mm_ex sh call rk labs n rs L (st) (mm_w σ.1 q i.toNatClampNeg x, σ.2) else none := by
  show Option.bind (mm_arr sh q 0) _ = _
  rw [h]
  rfl
set_option maxRecDepth 20000 in
theorem ex_iastore_b {sh : List mm_Sh} {call : Nat → List Value → mm_S → Option mm_R} {rk n r1 r2 : Nat} {labs : List (Nat × List mm_Row)} {rs : List mm_Row} {L st : List Value} {σ : mm_S} {v : Int32} {w : Int64} {q : Nat} {i : Int32} {x : Int32} : mm_ex sh call rk labs (n + 1) ((.iastore, r1, r2, v, w) :: rs) L (.int x :: .int i :: .ref q :: st) σ = (mm_arr sh q 0).bind fun z => if mm_in i z then mm_ex sh call rk labs n rs L (st) (mm_w σ.1 q i.toNatClampNeg x, σ.2) else none := rfl
set_option maxRecDepth 20000 in
theorem ex_bastore {sh : List mm_Sh} {call : Nat → List Value → mm_S → Option mm_R} {rk n r1 r2 : Nat} {labs : List (Nat × List mm_Row)} {rs : List mm_Row} {L st : List Value} {σ : mm_S} {v : Int32} {w : Int64} {q : Nat} {i : Int32} {x : Int32} {z : Nat} (h : mm_arr sh q 1 = some z) : mm_ex sh call rk labs (n + 1) ((.bastore, r1, r2, v, w) :: rs) L (.int x :: .int i :: .ref q :: st) σ = if mm_in i z then (if x = 0 ∨ x = 1 then mm_ex sh call rk labs n rs L (st) (mm_w σ.1 q i.toNatClampNeg x, σ.2) else none) else none := by
  show Option.bind (mm_arr sh q 1) _ = _
  rw [h]
  rfl
set_option maxRecDepth 20000 in
theorem ex_bastore_b {sh : List mm_Sh} {call : Nat → List Value → mm_S → Option mm_R} {rk n r1 r2 : Nat} {labs : List (Nat × List mm_Row)} {rs : List mm_Row} {L st : List Value} {σ : mm_S} {v : Int32} {w : Int64} {q : Nat} {i : Int32} {x : Int32} : mm_ex sh call rk labs (n + 1) ((.bastore, r1, r2, v, w) :: rs) L (.int x :: .int i :: .ref q :: st) σ = (mm_arr sh q 1).bind fun z => if mm_in i z then (if x = 0 ∨ x = 1 then mm_ex sh call rk labs n rs L (st) (mm_w σ.1 q i.toNatClampNeg x, σ.2) else none) else none := rfl
set_option maxRecDepth 20000 in
theorem ex_lastore {sh : List mm_Sh} {call : Nat → List Value → mm_S → Option mm_R} {rk n r1 r2 : Nat} {labs : List (Nat × List mm_Row)} {rs : List mm_Row} {L st : List Value} {σ : mm_S} {v : Int32} {w : Int64} {q : Nat} {i : Int32} {x : Int64} {z : Nat} (h : mm_arr sh q 2 = some z) : mm_ex sh call rk labs (n + 1) ((.lastore, r1, r2, v, w) :: rs) L (.long x :: .int i :: .ref q :: st) σ = if mm_in i z then mm_ex sh call rk labs n rs L (st) (σ.1, mm_w σ.2 q i.toNatClampNeg x) else none := by
  show Option.bind (mm_arr sh q 2) _ = _
  rw [h]
  rfl
set_option maxRecDepth 20000 in
theorem ex_lastore_b {sh : List mm_Sh} {call : Nat → List Value → mm_S → Option mm_R} {rk n r1 r2 : Nat} {labs : List (Nat × List mm_Row)} {rs : List mm_Row} {L st : List Value} {σ : mm_S} {v : Int32} {w : Int64} {q : Nat} {i : Int32} {x : Int64} : mm_ex sh call rk labs (n + 1) ((.lastore, r1, r2, v, w) :: rs) L (.long x :: .int i :: .ref q :: st) σ = (mm_arr sh q 2).bind fun z => if mm_in i z then mm_ex sh call rk labs n rs L (st) (σ.1, mm_w σ.2 q i.toNatClampNeg x) else none := rfl
set_option maxRecDepth 20000 in
theorem ex_inv_v {sh : List mm_Sh} {call : Nat → List Value → mm_S → Option mm_R} {rk n r1 r2 : Nat} {labs : List (Nat × List mm_Row)} {rs : List mm_Row} {L st : List Value} {σ : mm_S} {v : Int32} {w : Int64} {k : Nat} {As rest : List Value} (h1 : r2 / 16 % 4 = 0) (h : mm_cargs sh (r2 % 16) (r2 / 64) st = some (As, rest)) : mm_ex sh call rk labs (n + 1) ((.invokevirtual k, r1, r2, v, w) :: rs) L (st) σ = (call r1 As σ).bind fun u => mm_ex sh call rk labs n rs L (rest) u.2.2 := by
  show Option.bind (mm_cargs sh (r2 % 16) (r2 / 64) st) _ = _
  rw [h]
  show (call r1 As σ).bind (fun u => mm_ex sh call rk labs n rs L (mm_push (r2 / 16 % 4) u rest) u.2.2) = _
  rw [h1]
  rfl
set_option maxRecDepth 20000 in
theorem ex_sta_v {sh : List mm_Sh} {call : Nat → List Value → mm_S → Option mm_R} {rk n r1 r2 : Nat} {labs : List (Nat × List mm_Row)} {rs : List mm_Row} {L st : List Value} {σ : mm_S} {v : Int32} {w : Int64} {k : Nat} {As rest : List Value} (e0 : ¬ r1 = 1000) (e1 : ¬ r1 = 1001) (h1 : r2 / 16 % 4 = 0) (h : mm_sargs (r2 % 16) st = some (As, rest)) : mm_ex sh call rk labs (n + 1) ((.invokestatic k, r1, r2, v, w) :: rs) L (st) σ = (call r1 As σ).bind fun u => mm_ex sh call rk labs n rs L (rest) u.2.2 := by
  have e : mm_ex sh call rk labs (n + 1) ((.invokestatic k, r1, r2, v, w) :: rs) L st σ = ((mm_sargs (r2 % 16) st).bind fun q => (call r1 q.1 σ).bind fun u => mm_ex sh call rk labs n rs L (mm_push (r2 / 16 % 4) u q.2) u.2.2) := by
    show (match r1 with
      | 1000 => _
      | 1001 => _
      | _ => _) = _
    split
    · exact absurd rfl e0
    · exact absurd rfl e1
    · rfl
  rw [e, h]
  show (call r1 As σ).bind (fun u => mm_ex sh call rk labs n rs L (mm_push (r2 / 16 % 4) u rest) u.2.2) = _
  rw [h1]
  rfl
set_option maxRecDepth 20000 in
theorem ex_inv_i {sh : List mm_Sh} {call : Nat → List Value → mm_S → Option mm_R} {rk n r1 r2 : Nat} {labs : List (Nat × List mm_Row)} {rs : List mm_Row} {L st : List Value} {σ : mm_S} {v : Int32} {w : Int64} {k : Nat} {As rest : List Value} (h1 : r2 / 16 % 4 = 1) (h : mm_cargs sh (r2 % 16) (r2 / 64) st = some (As, rest)) : mm_ex sh call rk labs (n + 1) ((.invokevirtual k, r1, r2, v, w) :: rs) L (st) σ = (call r1 As σ).bind fun u => mm_ex sh call rk labs n rs L (.int u.1 :: rest) u.2.2 := by
  show Option.bind (mm_cargs sh (r2 % 16) (r2 / 64) st) _ = _
  rw [h]
  show (call r1 As σ).bind (fun u => mm_ex sh call rk labs n rs L (mm_push (r2 / 16 % 4) u rest) u.2.2) = _
  rw [h1]
  rfl
set_option maxRecDepth 20000 in
theorem ex_sta_i {sh : List mm_Sh} {call : Nat → List Value → mm_S → Option mm_R} {rk n r1 r2 : Nat} {labs : List (Nat × List mm_Row)} {rs : List mm_Row} {L st : List Value} {σ : mm_S} {v : Int32} {w : Int64} {k : Nat} {As rest : List Value} (e0 : ¬ r1 = 1000) (e1 : ¬ r1 = 1001) (h1 : r2 / 16 % 4 = 1) (h : mm_sargs (r2 % 16) st = some (As, rest)) : mm_ex sh call rk labs (n + 1) ((.invokestatic k, r1, r2, v, w) :: rs) L (st) σ = (call r1 As σ).bind fun u => mm_ex sh call rk labs n rs L (.int u.1 :: rest) u.2.2 := by
  have e : mm_ex sh call rk labs (n + 1) ((.invokestatic k, r1, r2, v, w) :: rs) L st σ = ((mm_sargs (r2 % 16) st).bind fun q => (call r1 q.1 σ).bind fun u => mm_ex sh call rk labs n rs L (mm_push (r2 / 16 % 4) u q.2) u.2.2) := by
    show (match r1 with
      | 1000 => _
      | 1001 => _
      | _ => _) = _
    split
    · exact absurd rfl e0
    · exact absurd rfl e1
    · rfl
  rw [e, h]
  show (call r1 As σ).bind (fun u => mm_ex sh call rk labs n rs L (mm_push (r2 / 16 % 4) u rest) u.2.2) = _
  rw [h1]
  rfl
set_option maxRecDepth 20000 in
theorem ex_inv_l {sh : List mm_Sh} {call : Nat → List Value → mm_S → Option mm_R} {rk n r1 r2 : Nat} {labs : List (Nat × List mm_Row)} {rs : List mm_Row} {L st : List Value} {σ : mm_S} {v : Int32} {w : Int64} {k : Nat} {As rest : List Value} (h1 : r2 / 16 % 4 = 2) (h : mm_cargs sh (r2 % 16) (r2 / 64) st = some (As, rest)) : mm_ex sh call rk labs (n + 1) ((.invokevirtual k, r1, r2, v, w) :: rs) L (st) σ = (call r1 As σ).bind fun u => mm_ex sh call rk labs n rs L (.long u.2.1 :: rest) u.2.2 := by
  show Option.bind (mm_cargs sh (r2 % 16) (r2 / 64) st) _ = _
  rw [h]
  show (call r1 As σ).bind (fun u => mm_ex sh call rk labs n rs L (mm_push (r2 / 16 % 4) u rest) u.2.2) = _
  rw [h1]
  rfl
set_option maxRecDepth 20000 in
theorem ex_sta_l {sh : List mm_Sh} {call : Nat → List Value → mm_S → Option mm_R} {rk n r1 r2 : Nat} {labs : List (Nat × List mm_Row)} {rs : List mm_Row} {L st : List Value} {σ : mm_S} {v : Int32} {w : Int64} {k : Nat} {As rest : List Value} (e0 : ¬ r1 = 1000) (e1 : ¬ r1 = 1001) (h1 : r2 / 16 % 4 = 2) (h : mm_sargs (r2 % 16) st = some (As, rest)) : mm_ex sh call rk labs (n + 1) ((.invokestatic k, r1, r2, v, w) :: rs) L (st) σ = (call r1 As σ).bind fun u => mm_ex sh call rk labs n rs L (.long u.2.1 :: rest) u.2.2 := by
  have e : mm_ex sh call rk labs (n + 1) ((.invokestatic k, r1, r2, v, w) :: rs) L st σ = ((mm_sargs (r2 % 16) st).bind fun q => (call r1 q.1 σ).bind fun u => mm_ex sh call rk labs n rs L (mm_push (r2 / 16 % 4) u q.2) u.2.2) := by
    show (match r1 with
      | 1000 => _
      | 1001 => _
      | _ => _) = _
    split
    · exact absurd rfl e0
    · exact absurd rfl e1
    · rfl
  rw [e, h]
  show (call r1 As σ).bind (fun u => mm_ex sh call rk labs n rs L (mm_push (r2 / 16 % 4) u rest) u.2.2) = _
  rw [h1]
  rfl
set_option maxRecDepth 20000 in
theorem ex_inv_z {sh : List mm_Sh} {call : Nat → List Value → mm_S → Option mm_R} {rk n r1 r2 : Nat} {labs : List (Nat × List mm_Row)} {rs : List mm_Row} {L st : List Value} {σ : mm_S} {v : Int32} {w : Int64} {k : Nat} {As rest : List Value} (h1 : r2 / 16 % 4 = 3) (h : mm_cargs sh (r2 % 16) (r2 / 64) st = some (As, rest)) : mm_ex sh call rk labs (n + 1) ((.invokevirtual k, r1, r2, v, w) :: rs) L (st) σ = (call r1 As σ).bind fun u => mm_ex sh call rk labs n rs L (.int u.1 :: rest) u.2.2 := by
  show Option.bind (mm_cargs sh (r2 % 16) (r2 / 64) st) _ = _
  rw [h]
  show (call r1 As σ).bind (fun u => mm_ex sh call rk labs n rs L (mm_push (r2 / 16 % 4) u rest) u.2.2) = _
  rw [h1]
  rfl
set_option maxRecDepth 20000 in
theorem ex_sta_z {sh : List mm_Sh} {call : Nat → List Value → mm_S → Option mm_R} {rk n r1 r2 : Nat} {labs : List (Nat × List mm_Row)} {rs : List mm_Row} {L st : List Value} {σ : mm_S} {v : Int32} {w : Int64} {k : Nat} {As rest : List Value} (e0 : ¬ r1 = 1000) (e1 : ¬ r1 = 1001) (h1 : r2 / 16 % 4 = 3) (h : mm_sargs (r2 % 16) st = some (As, rest)) : mm_ex sh call rk labs (n + 1) ((.invokestatic k, r1, r2, v, w) :: rs) L (st) σ = (call r1 As σ).bind fun u => mm_ex sh call rk labs n rs L (.int u.1 :: rest) u.2.2 := by
  have e : mm_ex sh call rk labs (n + 1) ((.invokestatic k, r1, r2, v, w) :: rs) L st σ = ((mm_sargs (r2 % 16) st).bind fun q => (call r1 q.1 σ).bind fun u => mm_ex sh call rk labs n rs L (mm_push (r2 / 16 % 4) u q.2) u.2.2) := by
    show (match r1 with
      | 1000 => _
      | 1001 => _
      | _ => _) = _
    split
    · exact absurd rfl e0
    · exact absurd rfl e1
    · rfl
  rw [e, h]
  show (call r1 As σ).bind (fun u => mm_ex sh call rk labs n rs L (mm_push (r2 / 16 % 4) u rest) u.2.2) = _
  rw [h1]
  rfl
set_option maxRecDepth 20000 in
theorem ex_max {sh : List mm_Sh} {call : Nat → List Value → mm_S → Option mm_R} {rk n r2 : Nat} {labs : List (Nat × List mm_Row)} {rs : List mm_Row} {L st : List Value} {σ : mm_S} {v : Int32} {w : Int64} {k : Nat} {x y : Int32} (h : st.length ≤ 4) : mm_ex sh call rk labs (n + 1) ((.invokestatic k, 1000, r2, v, w) :: rs) L (.int y :: .int x :: st) σ = mm_ex sh call rk labs n rs L (.int (if x < y then y else x) :: st) σ := if_pos h
set_option maxRecDepth 20000 in
theorem ex_min {sh : List mm_Sh} {call : Nat → List Value → mm_S → Option mm_R} {rk n r2 : Nat} {labs : List (Nat × List mm_Row)} {rs : List mm_Row} {L st : List Value} {σ : mm_S} {v : Int32} {w : Int64} {k : Nat} {x y : Int32} (h : st.length ≤ 4) : mm_ex sh call rk labs (n + 1) ((.invokestatic k, 1001, r2, v, w) :: rs) L (.int y :: .int x :: st) σ = mm_ex sh call rk labs n rs L (.int (if y < x then y else x) :: st) σ := if_pos h
set_option maxRecDepth 20000 in
theorem ex_ireturn {sh : List mm_Sh} {call : Nat → List Value → mm_S → Option mm_R} {n r1 r2 : Nat} {labs : List (Nat × List mm_Row)} {rs : List mm_Row} {L : List Value} {σ : mm_S} {v : Int32} {w : Int64} {x : Int32} : mm_ex sh call 1 labs (n + 1) ((.ireturn, r1, r2, v, w) :: rs) L [.int x] σ = some (x, 0, σ) := rfl
set_option maxRecDepth 20000 in
theorem ex_zreturn {sh : List mm_Sh} {call : Nat → List Value → mm_S → Option mm_R} {n r1 r2 : Nat} {labs : List (Nat × List mm_Row)} {rs : List mm_Row} {L : List Value} {σ : mm_S} {v : Int32} {w : Int64} {x : Int32} : mm_ex sh call 3 labs (n + 1) ((.ireturn, r1, r2, v, w) :: rs) L [.int x] σ = if x = 0 ∨ x = 1 then some (x, 0, σ) else none := rfl
set_option maxRecDepth 20000 in
theorem ex_zreturn0 {sh : List mm_Sh} {call : Nat → List Value → mm_S → Option mm_R} {n r1 r2 : Nat} {labs : List (Nat × List mm_Row)} {rs : List mm_Row} {L : List Value} {σ : mm_S} {v : Int32} {w : Int64} : mm_ex sh call 3 labs (n + 1) ((.ireturn, r1, r2, v, w) :: rs) L [.int 0] σ = some (0, 0, σ) := ex_zreturn.trans (if_pos (Or.inl rfl))
set_option maxRecDepth 20000 in
theorem ex_zreturn1 {sh : List mm_Sh} {call : Nat → List Value → mm_S → Option mm_R} {n r1 r2 : Nat} {labs : List (Nat × List mm_Row)} {rs : List mm_Row} {L : List Value} {σ : mm_S} {v : Int32} {w : Int64} : mm_ex sh call 3 labs (n + 1) ((.ireturn, r1, r2, v, w) :: rs) L [.int 1] σ = some (1, 0, σ) := ex_zreturn.trans (if_pos (Or.inr rfl))
set_option maxRecDepth 20000 in
theorem ex_lreturn {sh : List mm_Sh} {call : Nat → List Value → mm_S → Option mm_R} {n r1 r2 : Nat} {labs : List (Nat × List mm_Row)} {rs : List mm_Row} {L : List Value} {σ : mm_S} {v : Int32} {w : Int64} {x : Int64} : mm_ex sh call 2 labs (n + 1) ((.lreturn, r1, r2, v, w) :: rs) L [.long x] σ = some (0, x, σ) := rfl
set_option maxRecDepth 20000 in
theorem ex_return {sh : List mm_Sh} {call : Nat → List Value → mm_S → Option mm_R} {n r1 r2 : Nat} {labs : List (Nat × List mm_Row)} {rs : List mm_Row} {L : List Value} {σ : mm_S} {v : Int32} {w : Int64} : mm_ex sh call 0 labs (n + 1) ((.return_, r1, r2, v, w) :: rs) L [] σ = some (0, 0, σ) := rfl
set_option maxRecDepth 20000 in
theorem ex_ite {α : Type} {c : Prop} {d : Decidable c} {x x2 y y2 : α} (h1 : x = x2) (h2 : y = y2) : @ite α c d x y = @ite α c d x2 y2 := by rw [h1, h2]
set_option maxRecDepth 20000 in
theorem ex_bnd {α β : Type} {x : Option α} {f g : α → Option β} (h : ∀ u, f u = g u) : x.bind f = x.bind g := by rw [show f = g from funext h]
set_option maxRecDepth 20000 in
theorem ex_t {α : Type} {c : Prop} {d : Decidable c} {x y z : α} (h : c) (h1 : x = z) : @ite α c d x y = z := (if_pos h).trans h1
set_option maxRecDepth 20000 in
theorem ex_f {α : Type} {c : Prop} {d : Decidable c} {x y z : α} (h : ¬ c) (h1 : y = z) : @ite α c d x y = z := (if_neg h).trans h1
