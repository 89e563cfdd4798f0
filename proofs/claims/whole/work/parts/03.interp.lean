/-! part 03: an interpreter of the class's bytecode over a pure memory: ints by cell and slot, references by cell and slot, the cells' kinds and lengths -/
abbrev tm_M : Type := Nat → Nat → Int32
abbrev tm_F : Type := Nat → Nat → Option Nat
/-- kinds and lengths of the cells, references, the script's length and ints -/
abbrev tm_G : Type := List (Nat × Nat) × tm_F × Nat × (Nat → Int32)
def tm_uc {α : Type} (M : Nat → α) (k : Nat) (f : α) : Nat → α := fun a => if a = k then f else M a
def tm_up (M : tm_M) (k j : Nat) (x : Int32) : tm_M := tm_uc M k (upd (M k) j x)
def tm_row (y : Nat) : tm_R := tm_mt.getD y (yL_law, cL_law, 0, none, 0, 0, false, 0)
def tm_nm (y : Nat) : MethodName := (tm_row y).1
def tm_cd (y : Nat) : ByteArray := match lw_tbl[(tm_WP.getD y (0, 0, 0)).1]? with
  | some (.code _ cd _ _) => cd
  | _ => cL_law
def tm_mx (y : Nat) : Nat := (tm_row y).2.2.1
def tm_rt (y : Nat) : Option FieldType := (tm_row y).2.2.2.1
def tm_ci (y : Nat) : Nat := (tm_row y).2.2.2.2.1
def tm_np (y : Nat) : Nat := (tm_row y).2.2.2.2.2.1
def tm_st (y : Nat) : Bool := (tm_row y).2.2.2.2.2.2.1
def tm_pd (y : Nat) : Nat := (tm_row y).2.2.2.2.2.2.2
def tm_bs (bs : List (Nat × List Instr)) (pc : Nat) : List Instr := match bs with
  | [] => []
  | b :: r => if b.1 = pc then b.2 else tm_bs r pc
def tm_blk (lab : Nat) : List Instr := tm_bs (tm_bt.getD (lab / 10000) []) (lab % 10000)
/-- the types of the classes' fields -/
def tm_ty (ci : Nat) : Nat → FieldType := match ci with
  | 0 => tyX0
  | 1 => tyX1
  | 2 => tyX2
  | 3 => tyX3
  | 4 => tyX4
  | 5 => tyX5
  | 6 => tyX6
  | 7 => tyX7
  | 8 => tyX8
  | 9 => tyX9
  | 10 => tyX10
  | 11 => tyX11
  | _ => tyX12
def tm_T (ci : Nat) : u_T := match ci with
  | 0 => TX0
  | 1 => TX1
  | 2 => TX2
  | 3 => TX3
  | 4 => TX4
  | 5 => TX5
  | 6 => TX6
  | 7 => TX7
  | 8 => TX8
  | 9 => TX9
  | 10 => TX10
  | 11 => TX11
  | _ => TX12
/-- how many fields -/
def tm_nf (ci : Nat) : Nat := match ci with
  | 0 => 4
  | 1 => 6
  | 2 => 5
  | 3 => 13
  | 4 => 6
  | 5 => 13
  | 6 => 8
  | 7 => 4
  | 8 => 3
  | 9 => 5
  | 10 => 11
  | 11 => 9
  | _ => 31
/-- a field's sort: 0 int, 1 boolean, 2 a reference, 3 another -/
def tm_ft (ci j : Nat) : Nat := match tm_ty ci j with
  | .int => 0
  | .boolean => 1
  | .object _ => 2
  | .array _ => 2
  | _ => 3
def tm_un : Value := .retAddr 0
def tm_kill (L : List Value) (i : Nat) : List Value := match i with
  | 0 => L
  | j + 1 => match L[j]? with
    | some (.long _) => L.set j tm_un
    | some (.double _) => L.set j tm_un
    | _ => L
def tm_set1 (L : List Value) (i : Nat) (v : Value) : List Value := (tm_kill L i).set i v
def tm_set2 (L : List Value) (i : Nat) (v : Value) : List Value := ((tm_kill L i).set i v).set (i + 1) tm_un
def tm_KA : Nat → Int32 := fun k => ([-1, 0, 1, 0, 3, 0, 0, 1] : List Int32).getD k 0
def tm_BO : Nat → Int32 := fun k => ([10, 11, 12, 13, 0, 0, 20, 0, 30, 0, 31, 0, 0, 40, 0, 0, 51, 0, 0, 50, 0, 0, 60, 0, 0, 0, 0, 70, 0, 80, 81, 0] : List Int32).getD k 0
/-- the arrays that nobody writes: the script, KIND_ABOVE, BODIES -/
def tm_ro (G : tm_G) (k : Nat) : Option (Nat × (Nat → Int32)) := match k with
  | 1000 => some G.2.2
  | 1001 => some (8, tm_KA)
  | 1002 => some (32, tm_BO)
  | _ => none
def tm_inb (i : Int32) (n : Nat) : Bool := decide (¬ i < 0) && decide (i.toNatClampNeg < n)
def tm_rd (G : tm_G) (M : tm_M) (a : Nat) (i : Int32) : Option Int32 :=
  if a < 1000 then match G.1[a]? with
    | some (0, n) => if tm_inb i n then some (M a i.toNatClampNeg) else none
    | _ => none
  else match tm_ro G a with
    | some (n, f) => if tm_inb i n then some (f i.toNatClampNeg) else none
    | none => none
def tm_rb (G : tm_G) (M : tm_M) (a : Nat) (i : Int32) : Option Int32 := match G.1[a]? with
  | some (1, n) => if tm_inb i n then some (M a i.toNatClampNeg).toInt8.toInt32 else none
  | some (2, n) => if tm_inb i n then some (M a i.toNatClampNeg) else none
  | _ => none
def tm_wr (G : tm_G) (M : tm_M) (a : Nat) (i x : Int32) : Option tm_M := match G.1[a]? with
  | some (0, n) => if tm_inb i n then some (tm_up M a i.toNatClampNeg x) else none
  | _ => none
def tm_wb (G : tm_G) (M : tm_M) (a : Nat) (i x : Int32) : Option tm_M := match G.1[a]? with
  | some (1, n) => if tm_inb i n then some (tm_up M a i.toNatClampNeg x.toInt8.toInt32) else none
  | some (2, n) => if tm_inb i n then some (tm_up M a i.toNatClampNeg (vp_nar .boolean x)) else none
  | _ => none
def tm_al (G : tm_G) (a : Nat) : Option Nat :=
  if a < 1000 then match G.1[a]? with
    | some (kd, n) => if kd ≤ 4 then some n else none
    | none => none
  else (tm_ro G a).map (·.1)
def tm_isC (G : tm_G) (k ci : Nat) : Bool := G.1[k]? == some (100 + ci, tm_nf ci)
/-- an object of a class comes, or an array -/
def tm_mk (G : tm_G) (M : tm_M) (kd n : Nat) : Option (tm_G × tm_M) :=
  if G.1.length < 900 then some ((G.1 ++ [(kd, n)], tm_uc G.2.1 G.1.length (fun _ => none), G.2.2), tm_uc M G.1.length (fun _ => 0)) else none
def tm_get (G : tm_G) (M : tm_M) (k c : Nat) : Option Value :=
  if tm_isC G k (c / 100) && decide (c % 100 < tm_nf (c / 100)) then
    (if tm_ft (c / 100) (c % 100) = 2 then (G.2.1 k (c % 100)).map .ref else some (.int (M k (c % 100))))
  else none
def tm_put (G : tm_G) (M : tm_M) (k c : Nat) (x : Int32) : Option tm_M :=
  if tm_isC G k (c / 100) && decide (c % 100 < tm_nf (c / 100)) then
    (if tm_ft (c / 100) (c % 100) = 0 ∨ (tm_ft (c / 100) (c % 100) = 1 ∧ (x = 0 ∨ x = 1)) then some (tm_up M k (c % 100) x) else none)
  else none
def tm_putr (G : tm_G) (k c t : Nat) : Option tm_G :=
  if tm_isC G k (c / 100) && decide (c % 100 < tm_nf (c / 100)) && decide (t < 1000) then
    (if tm_ft (c / 100) (c % 100) = 2 then some (G.1, tm_uc G.2.1 k (tm_uc (G.2.1 k) (c % 100) (some t)), G.2.2) else none)
  else none
def tm_ast (G : tm_G) (a : Nat) (i : Int32) (t : Nat) : Option tm_G := match G.1[a]? with
  | some (3, n) => if tm_inb i n && tm_isC G t 8 then some (G.1, tm_uc G.2.1 a (tm_uc (G.2.1 a) i.toNatClampNeg (some t)), G.2.2) else none
  | some (4, n) => if tm_inb i n && tm_isC G t 7 then some (G.1, tm_uc G.2.1 a (tm_uc (G.2.1 a) i.toNatClampNeg (some t)), G.2.2) else none
  | _ => none
def tm_ald (G : tm_G) (a : Nat) (i : Int32) : Option Nat := match G.1[a]? with
  | some (3, n) => if tm_inb i n then G.2.1 a i.toNatClampNeg else none
  | some (4, n) => if tm_inb i n then G.2.1 a i.toNatClampNeg else none
  | _ => none
def tm_cpy (G : tm_G) (M : tm_M) (a0 : Nat) (sp : Int32) (a : Nat) (dp n : Int32) : Option tm_M := match G.1[a0]?, G.1[a]? with
  | some (k0, n0), some (k1, n1) =>
    if k0 ≤ 1 ∧ k0 = k1 ∧ ¬ sp < 0 ∧ ¬ dp < 0 ∧ ¬ n < 0 ∧ sp.toNatClampNeg + n.toNatClampNeg ≤ n0 ∧ dp.toNatClampNeg + n.toNatClampNeg ≤ n1 then
      some (tm_uc M a (va_cpy (M a0) (M a) sp.toNatClampNeg dp.toNatClampNeg n.toNatClampNeg))
    else none
  | _, _ => none
def tm_i1 (st : List Value) (f : Int32 → Int32) : Option (List Value) := match st with
  | .int x :: r => some (.int (f x) :: r)
  | _ => none
def tm_i2 (st : List Value) (f : Int32 → Int32 → Int32) : Option (List Value) := match st with
  | .int y :: .int x :: r => some (.int (f x y) :: r)
  | _ => none
def tm_l2 (st : List Value) (f : Int64 → Int64 → Int64) : Option (List Value) := match st with
  | .long y :: .long x :: r => some (.long (f x y) :: r)
  | _ => none
/-- what an instruction that neither branches nor calls does to the operand stack alone -/
def tm_stk (i : Instr) (st : List Value) : Option (List Value) := match i with
  | .iconst v => some (.int (Int32.ofInt v) :: st)
  | .ldc2_w v => some (.long (Int64.ofNat v) :: st)
  | .iadd => tm_i2 st (fun x y => x + y)
  | .isub => tm_i2 st (fun x y => x - y)
  | .imul => tm_i2 st (fun x y => x * y)
  | .iand => tm_i2 st (fun x y => x &&& y)
  | .ior => tm_i2 st (fun x y => x ||| y)
  | .ixor => tm_i2 st (fun x y => x ^^^ y)
  | .ishl => tm_i2 st (fun x y => x <<< (y &&& 31))
  | .ishr => tm_i2 st (fun x y => x >>> (y &&& 31))
  | .iushr => tm_i2 st (fun x y => (x.toUInt32 >>> (y.toUInt32 &&& Int32.toUInt32 31)).toInt32)
  | .idiv => match st with
    | .int y :: .int x :: r => if y = 0 then none else some (.int (x / y) :: r)
    | _ => none
  | .irem => match st with
    | .int y :: .int x :: r => if y = 0 then none else some (.int (x - x / y * y) :: r)
    | _ => none
  | .ineg => tm_i1 st (fun x => -x)
  | .i2b => tm_i1 st (fun x => x.toInt8.toInt32)
  | .i2s => tm_i1 st (fun x => x.toInt16.toInt32)
  | .ladd => tm_l2 st (fun x y => x + y)
  | .lsub => tm_l2 st (fun x y => x - y)
  | .lmul => tm_l2 st (fun x y => x * y)
  | .land => tm_l2 st (fun x y => x &&& y)
  | .lor => tm_l2 st (fun x y => x ||| y)
  | .lneg => match st with
    | .long x :: r => some (.long (-x) :: r)
    | _ => none
  | .lshl => match st with
    | .int y :: .long x :: r => some (.long (x <<< (y.toInt64 &&& 63)) :: r)
    | _ => none
  | .lshr => match st with
    | .int y :: .long x :: r => some (.long (x >>> (y.toInt64 &&& 63)) :: r)
    | _ => none
  | .lcmp => match st with
    | .long y :: .long x :: r => some (.int (lg_cmp x y) :: r)
    | _ => none
  | .i2l => match st with
    | .int x :: r => some (.long x.toInt64 :: r)
    | _ => none
  | .l2i => match st with
    | .long x :: r => some (.int x.toInt32 :: r)
    | _ => none
  | .dup => match st with
    | .int x :: r => some (.int x :: .int x :: r)
    | .ref a :: r => some (.ref a :: .ref a :: r)
    | _ => none
  | .dup2 => match st with
    | .int x :: .int y :: r => some (.int x :: .int y :: .int x :: .int y :: r)
    | .int x :: .ref y :: r => some (.int x :: .ref y :: .int x :: .ref y :: r)
    | _ => none
  | .getstatic k => if k = 0 then some (.ref 1001 :: st) else if k = 1 then some (.ref 1002 :: st) else none
  | .invokespecial k => if k = 999 then (match st with
    | .ref _ :: r => if (r.map fun v => v.category).sum ≤ 8 then some r else none
    | _ => none) else none
  | .invokestatic k => if k = 994 then (match st with
    | .int y :: .int x :: r => if (r.map fun v => v.category).sum ≤ 8 then some (.int (if x < y then y else x) :: r) else none
    | _ => none) else if k = 995 then (match st with
    | .int y :: .int x :: r => if (r.map fun v => v.category).sum ≤ 8 then some (.int (if y < x then y else x) :: r) else none
    | _ => none) else if k = 996 then (match st with
    | .int x :: r => if (r.map fun v => v.category).sum ≤ 8 then some (.int (if 0 ≤ x then x else 0 - x) :: r) else none
    | _ => none) else if k = 997 then (match st with
    | .long x :: r => if (r.map fun v => v.category).sum ≤ 8 then some (.long (if 0 < x then x else -x) :: r) else none
    | _ => none) else none
  | _ => none
/-- what an instruction does to locals and stack -/
def tm_loc (i : Instr) (L st : List Value) : Option (List Value × List Value) := match i with
  | .iload k => match L[k]? with
    | some (.int x) => some (L, .int x :: st)
    | _ => none
  | .lload k => match L[k]? with
    | some (.long x) => some (L, .long x :: st)
    | _ => none
  | .aload k => match L[k]? with
    | some (.ref x) => some (L, .ref x :: st)
    | _ => none
  | .istore k => match st with
    | .int x :: r => if k < L.length then some (tm_set1 L k (.int x), r) else none
    | _ => none
  | .lstore k => match st with
    | .long x :: r => if k + 1 < L.length then some (tm_set2 L k (.long x), r) else none
    | _ => none
  | .astore k => match st with
    | .ref x :: r => if k < L.length then some (tm_set1 L k (.ref x), r) else none
    | _ => none
  | .iinc k n => match L[k]? with
    | some (.int x) => some (tm_set1 L k (.int (x + Int32.ofInt n)), st)
    | _ => none
  | _ => none
/-- what an instruction reads of the memory -/
def tm_rdg (i : Instr) (st : List Value) (G : tm_G) (M : tm_M) : Option (List Value) := match i with
  | .getfield c => match st with
    | .ref k :: r => (tm_get G M k c).map (· :: r)
    | _ => none
  | .iaload => match st with
    | .int i :: .ref a :: r => (tm_rd G M a i).map (fun x => .int x :: r)
    | _ => none
  | .baload => match st with
    | .int i :: .ref a :: r => (tm_rb G M a i).map (fun x => .int x :: r)
    | _ => none
  | .aaload => match st with
    | .int i :: .ref a :: r => (tm_ald G a i).map (fun x => .ref x :: r)
    | _ => none
  | .arraylength => match st with
    | .ref a :: r => (tm_al G a).map (fun n => .int (Int32.ofNat n) :: r)
    | _ => none
  | _ => none
/-- what an instruction writes -/
def tm_wrg (i : Instr) (st : List Value) (G : tm_G) (M : tm_M) : Option (List Value × tm_G × tm_M) := match i with
  | .putfield c => match st with
    | .int x :: .ref k :: r => (tm_put G M k c x).map (fun M' => (r, G, M'))
    | _ => none
  | .putstatic c => match st with
    | .ref t :: .ref k :: r => (tm_putr G k c t).map (fun G' => (r, G', M))
    | _ => none
  | .iastore => match st with
    | .int x :: .int i :: .ref a :: r => (tm_wr G M a i x).map (fun M' => (r, G, M'))
    | _ => none
  | .bastore => match st with
    | .int x :: .int i :: .ref a :: r => (tm_wb G M a i x).map (fun M' => (r, G, M'))
    | _ => none
  | .aastore => match st with
    | .ref t :: .int i :: .ref a :: r => (tm_ast G a i t).map (fun G' => (r, G', M))
    | _ => none
  | .invokestatic y => if y = 998 then (match st with
    | .int n :: .int dp :: .ref a :: .int sp :: .ref a0 :: r => if (r.map fun v => v.category).sum ≤ 8 then (tm_cpy G M a0 sp a dp n).map (fun M' => (r, G, M')) else none
    | _ => none) else none
  | .new ci => if ci ≤ 12 then (tm_mk G M (100 + ci) (tm_nf ci)).map (fun q => (.ref G.1.length :: st, q.1, q.2)) else none
  | .newarray t => match st with
    | .int n :: r => if n < 0 then none else if 100000 < n.toNatClampNeg then none else (match t with
      | .int => (tm_mk G M 0 n.toNatClampNeg).map (fun q => (.ref G.1.length :: r, q.1, q.2))
      | .byte => (tm_mk G M 1 n.toNatClampNeg).map (fun q => (.ref G.1.length :: r, q.1, q.2))
      | .boolean => (tm_mk G M 2 n.toNatClampNeg).map (fun q => (.ref G.1.length :: r, q.1, q.2))
      | _ => none)
    | _ => none
  | .anewarray k => match st with
    | .int n :: r => if n < 0 then none else if 100000 < n.toNatClampNeg then none else if k = 3 ∨ k = 4 then (tm_mk G M k n.toNatClampNeg).map (fun q => (.ref G.1.length :: r, q.1, q.2)) else none
    | _ => none
  | _ => none
def tm_stp (i : Instr) (L st : List Value) (G : tm_G) (M : tm_M) : Option (List Value × List Value × tm_G × tm_M) :=
  match tm_stk i st with
  | some st' => some (L, st', G, M)
  | none => match tm_loc i L st with
    | some (L', st') => some (L', st', G, M)
    | none => match tm_rdg i st G M with
      | some st' => some (L, st', G, M)
      | none => match tm_wrg i st G M with
        | some (st', G', M') => some (L, st', G', M')
        | none => none
def tm_cnd (c : ClassFile.Cond) (x y : Int32) : Bool := match c with
  | .eq => decide (x = y)
  | .ne => decide (¬ x = y)
  | .lt => decide (x < y)
  | .ge => decide (y ≤ x)
  | .gt => decide (y < x)
  | .le => decide (x ≤ y)
def tm_pop : Nat → List Value → List Value → Option (List Value × List Value)
  | 0, st, acc => some (acc, st)
  | n + 1, v :: st, acc => tm_pop n st (v :: acc)
  | _ + 1, [], _ => none
def tm_xp : List Value → List Value
  | [] => []
  | .long v :: r => .long v :: tm_un :: tm_xp r
  | .double v :: r => .double v :: tm_un :: tm_xp r
  | v :: r => v :: tm_xp r
def tm_ent (y : Nat) (as : List Value) : List Value := tm_xp as ++ List.replicate (tm_pd y) tm_un
abbrev tm_A : Type := (Option Nat × List Value) ⊕ (Option Value) ⊕ (Nat × List Value × List Value)
def tm_inv (y : Nat) (st : List Value) (G : tm_G) : Option tm_A := match tm_pop (tm_np y) st [] with
  | some (as, .ref k :: rest) =>
    if y < 259 ∧ tm_st y = false ∧ tm_isC G k (tm_ci y) = true ∧ (rest.map fun v => v.category).sum ≤ 8 ∧ (tm_ent y (.ref k :: as)).length ≤ tm_mx y then some (.inr (.inr (y, .ref k :: as, rest))) else none
  | _ => none
def tm_ins (y : Nat) (st : List Value) : Option tm_A := match tm_pop (tm_np y) st [] with
  | some (as, rest) =>
    if y < 259 ∧ tm_st y = true ∧ (rest.map fun v => v.category).sum ≤ 8 ∧ (tm_ent y as).length ≤ tm_mx y then some (.inr (.inr (y, as, rest))) else none
  | _ => none
/-- branches, returns, calls -/
def tm_ctl (i : Instr) (st : List Value) (G : tm_G) : Option tm_A := match i with
  | .goto t => some (.inl (some t.toNat, st))
  | .goto_w t => some (.inl (some t.toNat, st))
  | .ifCond c t => match st with
    | .int x :: r => some (.inl (if tm_cnd c x 0 then some t.toNat else none, r))
    | _ => none
  | .if_icmp c t => match st with
    | .int y :: .int x :: r => some (.inl (if tm_cnd c x y then some t.toNat else none, r))
    | _ => none
  | .tableswitch d lo hi offs => match st with
    | .int x :: r => if x.toInt < lo ∨ hi < x.toInt then some (.inl (some d.toNat, r)) else (match offs[(x.toInt - lo).toNat]? with
      | some o => some (.inl (some o.toNat, r))
      | none => none)
    | _ => none
  | .lookupswitch d ps => match st with
    | .int x :: r => some (.inl (some (Op.lookupswitch.offset ps.toList d x.toInt).toNat, r))
    | _ => none
  | .ireturn => match st with
    | [.int x] => some (.inr (.inl (some (.int x))))
    | _ => none
  | .freturn => match st with
    | [.int x] => if x = 0 ∨ x = 1 then some (.inr (.inl (some (.int x)))) else none
    | _ => none
  | .lreturn => match st with
    | [.long x] => some (.inr (.inl (some (.long x))))
    | _ => none
  | .return_ => match st with
    | [] => some (.inr (.inl none))
    | _ => none
  | .invokevirtual y => tm_inv y st G
  | .invokespecial y => if y = 999 then none else tm_inv y st G
  | .invokestatic y => if 994 ≤ y then none else tm_ins y st
  | _ => none
/-- the interpreter: fuel, calls that may stand open, the instructions from here on, locals, stack, memory -/
def tm_run : Nat → Nat → List Instr → List Value → List Value → tm_G → tm_M → Option (Option Value × tm_G × tm_M)
  | 0, _, _, _, _, _, _ => none
  | _ + 1, _, [], _, _, _, _ => none
  | n + 1, d, i :: is, L, st, G, M => match tm_ctl i st G with
    | some (.inl (none, st')) => tm_run n d is L st' G M
    | some (.inl (some lab, st')) => tm_run n d (tm_blk lab) L st' G M
    | some (.inr (.inl r)) => some (r, G, M)
    | some (.inr (.inr (y, as, rest))) => (match d with
      | 0 => none
      | d' + 1 => match tm_run n d' (tm_blk (y * 10000)) (tm_ent y as) [] G M with
        | some (r, G', M') => tm_run n (d' + 1) is L (r.toList ++ rest) G' M'
        | none => none)
    | none => match tm_stp i L st G M with
      | some (L', st', G', M') => tm_run n d is L' st' G' M'
      | none => none
/-! what a decoded instruction is here -/
def tm_lk {α : Type} (l : List (Nat × α)) (i : Nat) : Option α := match l with
  | [] => none
  | q :: r => if q.1 = i then some q.2 else tm_lk r i
def tm_fin (c : Nat) : Bool := (tm_T (c / 100) (c % 100)).2.2.2
def tm_lab (y pc : Nat) (off : Int) : Int := (y : Int) * 10000 + ((pc : Int) + off)
def tm_nrm (y pc : Nat) (i : Instr) : Option Instr := match i with
  | .aload n => some (.aload n)
  | .iload n => some (.iload n)
  | .lload n => some (.lload n)
  | .astore n => some (.astore n)
  | .istore n => some (.istore n)
  | .lstore n => some (.lstore n)
  | .aload_n n => some (.aload n.val)
  | .iload_n n => some (.iload n.val)
  | .lload_n n => some (.lload n.val)
  | .astore_n n => some (.astore n.val)
  | .istore_n n => some (.istore n.val)
  | .lstore_n n => some (.lstore n.val)
  | .iinc k n => some (.iinc k n)
  | .iconst v => some (.iconst v)
  | .bipush v => if (Int8.ofInt v).toInt32 = Int32.ofInt v then some (.iconst v) else none
  | .sipush v => if (Int16.ofInt v).toInt32 = Int32.ofInt v then some (.iconst v) else none
  | .ldc x => (tm_lk (tm_KL (tm_ci y)) x).map (fun q => .iconst q.1)
  | .ldc_w x => (tm_lk (tm_KL (tm_ci y)) x).map (fun q => .iconst q.1)
  | .lconst n => some (.ldc2_w n.val)
  | .ldc2_w x => (tm_lk (tm_LL (tm_ci y)) x).map (fun q => .ldc2_w q.1)
  | .getfield x => (tm_lk (tm_FL (tm_ci y)) x).map (fun q => .getfield q.1)
  | .putfield x => match tm_lk (tm_FL (tm_ci y)) x with
    | some (c, _) => if tm_fin c then (if (tm_nm y).name = "<init>" ∧ c / 100 = tm_ci y then some (.putstatic c) else none) else some (.putfield c)
    | none => none
  | .getstatic x => (tm_lk (tm_SL (tm_ci y)) x).map (fun q => .getstatic q.1)
  | .invokevirtual x => (tm_lk (tm_ML (tm_ci y)) x).map (fun q => .invokevirtual q.1)
  | .invokespecial x => (tm_lk (tm_ML (tm_ci y)) x).map (fun q => .invokespecial q.1)
  | .invokestatic x => (tm_lk (tm_ML (tm_ci y)) x).map (fun q => .invokestatic q.1)
  | .new x => (tm_lk (tm_NL (tm_ci y)) x).map (fun q => .new q.1)
  | .anewarray x => match tm_lk (tm_NL (tm_ci y)) x with
    | some (8, _) => some (.anewarray 3)
    | some (7, _) => some (.anewarray 4)
    | _ => none
  | .newarray t => some (.newarray t)
  | .goto o => some (.goto (tm_lab y pc o))
  | .ifCond c o => some (.ifCond c (tm_lab y pc o))
  | .if_icmp c o => some (.if_icmp c (tm_lab y pc o))
  | .tableswitch d lo hi offs => some (.tableswitch (tm_lab y pc d) lo hi (offs.map (tm_lab y pc)))
  | .lookupswitch d ps => if (ps.toList.zip (ps.toList.drop 1)).all (fun (a, next) => a.1 < next.1) = true then some (.lookupswitch (tm_lab y pc d) (ps.map (fun q => (q.1, tm_lab y pc q.2)))) else none
  | .ireturn => if tm_rt y = some .boolean then some .freturn else if tm_rt y = some .int then some .ireturn else none
  | .lreturn => if tm_rt y = some .long then some .lreturn else none
  | .return_ => if tm_rt y = none then some .return_ else none
  | .iadd => some .iadd
  | .isub => some .isub
  | .imul => some .imul
  | .iand => some .iand
  | .ior => some .ior
  | .ixor => some .ixor
  | .ishl => some .ishl
  | .ishr => some .ishr
  | .iushr => some .iushr
  | .idiv => some .idiv
  | .irem => some .irem
  | .ineg => some .ineg
  | .i2b => some .i2b
  | .i2s => some .i2s
  | .i2l => some .i2l
  | .l2i => some .l2i
  | .ladd => some .ladd
  | .lsub => some .lsub
  | .lmul => some .lmul
  | .lneg => some .lneg
  | .land => some .land
  | .lor => some .lor
  | .lshl => some .lshl
  | .lshr => some .lshr
  | .lcmp => some .lcmp
  | .dup => some .dup
  | .dup2 => some .dup2
  | .iaload => some .iaload
  | .iastore => some .iastore
  | .baload => some .baload
  | .bastore => some .bastore
  | .aaload => some .aaload
  | .aastore => some .aastore
  | .arraylength => some .arraylength
  | _ => none
/-- the instructions 'is' stand in method y from pc on; every label that they name has a block that stands there -/
def tm_labs (i : Instr) : List Int := match i with
  | .goto t => [t]
  | .ifCond _ t => [t]
  | .if_icmp _ t => [t]
  | .tableswitch d _ _ offs => d :: offs.toList
  | .lookupswitch d ps => d :: ps.toList.map (·.2)
  | _ => []
def tm_hasB (y : Nat) (t : Int) : Bool := decide ((y : Int) * 10000 ≤ t) && decide (t < (y : Int) * 10000 + 10000) && (tm_bt.getD y []).any (fun b => decide ((b.1 : Int) = t - (y : Int) * 10000))
def tm_len (i : Instr) : Nat := match i with
  | .aload _ => 2
  | .iload _ => 2
  | .lload _ => 2
  | .astore _ => 2
  | .istore _ => 2
  | .lstore _ => 2
  | .bipush _ => 2
  | .ldc _ => 2
  | .newarray _ => 2
  | .sipush _ => 3
  | .ldc_w _ => 3
  | .ldc2_w _ => 3
  | .getfield _ => 3
  | .putfield _ => 3
  | .getstatic _ => 3
  | .invokevirtual _ => 3
  | .invokespecial _ => 3
  | .invokestatic _ => 3
  | .new _ => 3
  | .anewarray _ => 3
  | .goto _ => 3
  | .ifCond _ _ => 3
  | .if_icmp _ _ => 3
  | .iinc _ _ => 3
  | .tableswitch _ _ _ _ => 0
  | .lookupswitch _ _ => 0
  | _ => 1
def tm_okI (i : Instr) : Bool := match i with
  | .invokevirtual y => decide ((tm_nm y).name ≠ "<init>")
  | .invokespecial y => decide (y = 999) || decide ((tm_nm y).name = "<init>")
  | _ => true
def tm_chk (y : Nat) : Nat → List Instr → Bool
  | _, [] => true
  | pc, i :: is => match i with
    | .goto_w t => decide (t = tm_lab y pc 0) && tm_hasB y t
    | i => match decode (tm_cd y) pc with
      | .ok (i0, len) => decide (tm_len i0 = 0 ∨ len = tm_len i0) && decide (tm_nrm y pc i0 = some i) && (tm_labs i).all (tm_hasB y) && tm_okI i && tm_chk y (pc + len) is
      | .error _ => false
def tm_chkB (y : Nat) : Bool := (tm_bt.getD y []).all (fun b => tm_chk y b.1 b.2)
