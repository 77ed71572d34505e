/-! THE SMALL MACHINE: the bytecode of the class, the law and the reference over a heap of cells with numbers of their own; what runs there runs on the machine (part 03). -/
/-- a cell: a class's number (below 7) with its fields, or 10 int[], 11 long[], 12 boolean[], 13 int[][], 14 Prints[]; 99: none -/
abbrev sm_Cell : Type := Nat × List Value
abbrev sm_Hp : Type := (Nat → sm_Cell) × Nat
def sm_up (h : sm_Hp) (a : Nat) (x : sm_Cell) : sm_Hp := (fun q => if q = a then x else h.1 q, h.2)
def sm_new (h : sm_Hp) (x : sm_Cell) : sm_Hp := (fun q => if q = h.2 then x else h.1 q, h.2 + 1)
def sm_isJ : Value → Bool
  | .long _ => true
  | .double _ => true
  | _ => false
def sm_wide (vs : List Value) : List Value := vs.flatMap (fun v => if v.category = 2 then [v, .null] else [v])
def sm_init (n : Nat) (vs : List Value) : List Value := sm_wide vs ++ List.replicate (n - (sm_wide vs).length) .null
abbrev sm_Cf : Type := Nat × List Value × List Value × sm_Hp × Nat × Nat
/-- what an instruction does: it goes on, or answers, or calls (method, arguments, the rest of the stack) -/
abbrev sm_Ac : Type := sm_Cf ⊕ (Option Value) ⊕ (Nat × List Value × List Value)
def sm_nx (pc : Nat) (L S : List Value) (h : sm_Hp) (c z : Nat) : Option sm_Ac := some (.inl (pc, L, S, h, c, z))
def sm_i1 (S : List Value) (f : Int32 → List Value → Option sm_Ac) : Option sm_Ac := match S with
  | .int a :: S' => f a S'
  | _ => none
def sm_i2 (S : List Value) (f : Int32 → Int32 → List Value → Option sm_Ac) : Option sm_Ac := match S with
  | .int b :: .int a :: S' => f a b S'
  | _ => none
def sm_j1 (S : List Value) (f : Int64 → List Value → Option sm_Ac) : Option sm_Ac := match S with
  | .long a :: S' => f a S'
  | _ => none
def sm_j2 (S : List Value) (f : Int64 → Int64 → List Value → Option sm_Ac) : Option sm_Ac := match S with
  | .long b :: .long a :: S' => f a b S'
  | _ => none
def sm_ji (S : List Value) (f : Int64 → Int32 → List Value → Option sm_Ac) : Option sm_Ac := match S with
  | .int b :: .long a :: S' => f a b S'
  | _ => none
def sm_r1 (S : List Value) (f : Nat → List Value → Option sm_Ac) : Option sm_Ac := match S with
  | .ref a :: S' => f a S'
  | _ => none
def sm_li (L : List Value) (i : Nat) (f : Int32 → Option sm_Ac) : Option sm_Ac := match L[i]? with
  | some (.int v) => f v
  | _ => none
def sm_lj (L : List Value) (i : Nat) (f : Int64 → Option sm_Ac) : Option sm_Ac := match L[i]? with
  | some (.long v) => f v
  | _ => none
def sm_la (L : List Value) (i : Nat) (f : Value → Option sm_Ac) : Option sm_Ac := match L[i]? with
  | some (.ref a) => f (.ref a)
  | some (.retAddr a) => f (.retAddr a)
  | _ => none
def sm_pj (L : List Value) : Nat → Bool
  | 0 => false
  | j + 1 => sm_isJ (L.getD j .null)
def sm_st (L : List Value) (i : Nat) (v : Value) (f : List Value → Option sm_Ac) : Option sm_Ac := if i < L.length ∧ sm_pj L i = false then f (L.set i v) else none
def sm_st2 (L : List Value) (i : Nat) (v : Value) (f : List Value → Option sm_Ac) : Option sm_Ac := if i + 1 < L.length ∧ sm_pj L i = false then f ((L.set i v).set (i + 1) .null) else none
def sm_cmp : Jvm.ClassFile.Cond → Int32 → Int32 → Bool
  | .eq, x, y => decide (x = y)
  | .ne, x, y => decide (¬ x = y)
  | .lt, x, y => decide (x < y)
  | .ge, x, y => decide (y ≤ x)
  | .gt, x, y => decide (y < x)
  | .le, x, y => decide (x ≤ y)
def sm_jmp (pc : Nat) (off : Int) (f : Nat → Option sm_Ac) : Option sm_Ac := if 0 ≤ (pc : Int) + off then f ((pc : Int) + off).toNat else none
def sm_br (b : Bool) (pc : Nat) (off : Int) (f : Nat → Option sm_Ac) : Option sm_Ac := sm_jmp pc off (fun t => if b = true then f t else f (pc + 3))
def sm_df (ci : Nat) : List Value := (List.range (sm_N ci)).map (fun k => defaultValue (sm_ty ci k))
def sm_law : Nat := m_Law_law
def sm_call (y y' : Nat) (args rest : List Value) (c z : Nat) : Option sm_Ac :=
  if (y' < sm_law ∧ sm_lv y' < sm_lv y) ∧ (rest.map fun v => v.category).sum ≤ 8 ∧ c + sm_mc y' ≤ sm_mc y ∧ z + sm_ms y' ≤ sm_ms y ∧ (sm_wide args).length ≤ sm_ml y' then some (.inr (.inr (y', args, rest))) else none
def sm_cpy (y : Nat) (pc : Nat) (L S : List Value) (h : sm_Hp) (c z : Nat) : Option sm_Ac := match S with
  | .int n :: .int dp :: .ref a :: .int sp :: .ref a0 :: rest =>
    if (sp = 0 ∧ dp = 0 ∧ ¬ n < 0 ∧ 0 < sm_lv y) ∧ (h.1 a).1 = 10 ∧ (h.1 a0).1 = 10 ∧ n.toNatClampNeg = (h.1 a).2.length ∧ n.toNatClampNeg = (h.1 a0).2.length ∧ (rest.map fun v => v.category).sum ≤ 8 then sm_nx (pc + 3) L rest (sm_up h a (10, (h.1 a0).2)) c z else none
  | _ => none
def sm_grid (h : sm_Hp) (n k : Nat) : sm_Hp := (fun q => if q = h.2 then (13, (List.range n).map (fun i => .ref (h.2 + 1 + i))) else if h.2 < q ∧ q ≤ h.2 + n then (10, List.replicate k (.int 0)) else h.1 q, h.2 + 1 + n)
def sm_inv (xs : List Int32) (y idx : Nat) (op : Nat) (pc : Nat) (L S : List Value) (h : sm_Hp) (c z : Nat) : Option sm_Ac := match sm_look sm_ct (sm_oc y) idx with
  | none => none
  | some (y', n, kind, _) => match op, kind with
    | 0, 0 => if n ≤ S.length then sm_call y y' (S.take n).reverse (S.drop n) c z else none
    | 0, 5 => sm_cpy y pc L S h c z
    | 0, 6 => sm_i2 S (fun a b S' => if (S'.map fun v => v.category).sum ≤ 8 ∧ 0 < sm_lv y then sm_nx (pc + 3) L (.int (if a < b then b else a) :: S') h c z else none)
    | 0, 7 => sm_i2 S (fun a b S' => if (S'.map fun v => v.category).sum ≤ 8 ∧ 0 < sm_lv y then sm_nx (pc + 3) L (.int (if b < a then b else a) :: S') h c z else none)
    | 1, 1 => if n ≤ S.length then sm_r1 (S.drop n) (fun a rest => if (h.1 a).1 = sm_oc y' then sm_call y y' (.ref a :: (S.take n).reverse) rest c z else none) else none
    | 2, 2 => if n ≤ S.length then sm_r1 (S.drop n) (fun a rest => sm_call y y' (.ref a :: (S.take n).reverse) rest c z) else none
    | 2, 3 => if n ≤ S.length then sm_r1 (S.drop n) (fun a rest => sm_call y y' (.ref a :: (S.take n).reverse) rest c z) else none
    | 2, 4 => sm_r1 S (fun _ rest => if (rest.map fun v => v.category).sum ≤ 8 ∧ 0 < sm_lv y then sm_nx (pc + 3) L rest h c z else none)
    | _, _ => none
def sm_ldi (tag : Nat) (h : sm_Hp) (a : Nat) (i : Int32) (f : Value → Option sm_Ac) : Option sm_Ac :=
  if (h.1 a).1 = tag ∧ ¬ i < 0 then (match (h.1 a).2[i.toNatClampNeg]? with | some v => f v | none => none) else none
def sm_ai (S : List Value) (f : Nat → Int32 → List Value → Option sm_Ac) : Option sm_Ac := match S with
  | .int i :: .ref a :: S' => f a i S'
  | _ => none
def sm_iald (xs : List Int32) (y : Nat) (pc : Nat) (L S : List Value) (h : sm_Hp) (c z : Nat) : Option sm_Ac := match S with
  | .int i :: .ref a :: S' => sm_ldi 10 h a i (fun v => sm_nx (pc + 1) L (v :: S') h c z)
  | .int i :: .retAddr _ :: S' => if y = sm_law ∧ ¬ i < 0 then (match xs[i.toNatClampNeg]? with | some v => sm_nx (pc + 1) L (.int v :: S') h c z | none => none) else none
  | _ => none
def sm_alen (xs : List Int32) (y : Nat) (pc : Nat) (L S : List Value) (h : sm_Hp) (c z : Nat) : Option sm_Ac := match S with
  | .ref a :: S' => if 10 ≤ (h.1 a).1 ∧ (h.1 a).1 ≤ 14 then sm_nx (pc + 1) L (.int (Int32.ofNat (h.1 a).2.length) :: S') h c z else none
  | .retAddr _ :: S' => if y = sm_law then sm_nx (pc + 1) L (.int (Int32.ofNat xs.length) :: S') h c z else none
  | _ => none
def sm_put (y idx : Nat) (pc : Nat) (L S : List Value) (h : sm_Hp) (c z : Nat) : Option sm_Ac := match sm_look sm_ft (sm_oc y) idx with
  | none => none
  | some (ci, k, _) => match S with
    | v :: .ref a :: S' => if (h.1 a).1 = ci ∧ fits (sm_ty ci k) v = true ∧ ((sm_T ci k).2.2.2 = false ∨ ((sm_nm y).name = "<init>" ∧ (sm_T ci k).1 = sm_cn (sm_oc y))) then sm_nx (pc + 3) L S' (sm_up h a (ci, (h.1 a).2.set k v)) c z else none
    | _ => none
def sm_ast (tag : Nat) (S : List Value) (pc : Nat) (L : List Value) (h : sm_Hp) (c z : Nat) (ok : Value → Bool) : Option sm_Ac := match S with
  | v :: .int i :: .ref a :: S' => if (h.1 a).1 = tag ∧ ok v = true ∧ ¬ i < 0 ∧ i.toNatClampNeg < (h.1 a).2.length then sm_nx (pc + 1) L S' (sm_up h a (tag, (h.1 a).2.set i.toNatClampNeg v)) c z else none
  | _ => none
def sm_okI : Value → Bool
  | .int _ => true
  | _ => false
def sm_okL : Value → Bool
  | .long _ => true
  | _ => false
def sm_okZ : Value → Bool
  | .int v => decide (v = 0 ∨ v = 1)
  | _ => false
def sm_okP (h : sm_Hp) : Value → Bool
  | .ref a => decide ((h.1 a).1 = 3)
  | _ => false
def sm_newa (y : Nat) (t : ArrayType) (pc : Nat) (L S : List Value) (h : sm_Hp) (c z : Nat) : Option sm_Ac := sm_i1 S (fun n S' =>
  if ¬ n < 0 ∧ n.toNatClampNeg ≤ 100000 ∧ c + 1 ≤ sm_mc y ∧ z + n.toNatClampNeg ≤ sm_ms y then (match t with
    | .int => sm_nx (pc + 2) L (.ref h.2 :: S') (sm_new h (10, List.replicate n.toNatClampNeg (.int 0))) (c + 1) (z + n.toNatClampNeg)
    | .long => sm_nx (pc + 2) L (.ref h.2 :: S') (sm_new h (11, List.replicate n.toNatClampNeg (.long 0))) (c + 1) (z + n.toNatClampNeg)
    | .boolean => sm_nx (pc + 2) L (.ref h.2 :: S') (sm_new h (12, List.replicate n.toNatClampNeg (.int 0))) (c + 1) (z + n.toNatClampNeg)
    | _ => none) else none)
def sm_swt (pc : Nat) (L S' : List Value) (h : sm_Hp) (c z : Nat) (dflt lo hi : Int) (offs : List Int) (x : Int32) : Option sm_Ac :=
  if x.toInt < lo ∨ hi < x.toInt then sm_jmp pc dflt (fun t => sm_nx t L S' h c z) else (match offs[(x.toInt - lo).toNat]? with
    | some off => sm_jmp pc off (fun t => sm_nx t L S' h c z)
    | none => none)
def sm_act (xs : List Int32) (y : Nat) (ins : Instr) (pc : Nat) (L S : List Value) (h : sm_Hp) (c z : Nat) : Option sm_Ac := match ins with
  | .iconst k => sm_nx (pc + 1) L (.int (Int32.ofInt k) :: S) h c z
  | .bipush k => sm_nx (pc + 2) L (.int (Int8.ofInt k).toInt32 :: S) h c z
  | .sipush k => sm_nx (pc + 3) L (.int (Int16.ofInt k).toInt32 :: S) h c z
  | .lconst k => sm_nx (pc + 1) L (.long (Int64.ofNat (k : Nat)) :: S) h c z
  | .ldc idx => (match sm_look sm_kt (sm_oc y) idx with | some (v, _) => sm_nx (pc + 2) L (.int v :: S) h c z | none => none)
  | .ldc_w idx => (match sm_look sm_kt (sm_oc y) idx with | some (v, _) => sm_nx (pc + 3) L (.int v :: S) h c z | none => none)
  | .ldc2_w idx => (match sm_look sm_jt (sm_oc y) idx with | some (v, _) => sm_nx (pc + 3) L (.long v :: S) h c z | none => none)
  | .iload_n k => sm_li L k (fun v => sm_nx (pc + 1) L (.int v :: S) h c z)
  | .iload k => sm_li L k (fun v => sm_nx (pc + 2) L (.int v :: S) h c z)
  | .lload_n k => sm_lj L k (fun v => sm_nx (pc + 1) L (.long v :: S) h c z)
  | .lload k => sm_lj L k (fun v => sm_nx (pc + 2) L (.long v :: S) h c z)
  | .aload_n k => sm_la L k (fun v => sm_nx (pc + 1) L (v :: S) h c z)
  | .aload k => sm_la L k (fun v => sm_nx (pc + 2) L (v :: S) h c z)
  | .istore_n k => sm_i1 S (fun v S' => sm_st L k (.int v) (fun L' => sm_nx (pc + 1) L' S' h c z))
  | .istore k => sm_i1 S (fun v S' => sm_st L k (.int v) (fun L' => sm_nx (pc + 2) L' S' h c z))
  | .lstore_n k => sm_j1 S (fun v S' => sm_st2 L k (.long v) (fun L' => sm_nx (pc + 1) L' S' h c z))
  | .lstore k => sm_j1 S (fun v S' => sm_st2 L k (.long v) (fun L' => sm_nx (pc + 2) L' S' h c z))
  | .astore_n k => sm_r1 S (fun v S' => sm_st L k (.ref v) (fun L' => sm_nx (pc + 1) L' S' h c z))
  | .astore k => sm_r1 S (fun v S' => sm_st L k (.ref v) (fun L' => sm_nx (pc + 2) L' S' h c z))
  | .iinc k d => sm_li L k (fun v => sm_st L k (.int (v + Int32.ofInt d)) (fun L' => sm_nx (pc + 3) L' S h c z))
  | .iadd => sm_i2 S (fun a b S' => sm_nx (pc + 1) L (.int (a + b) :: S') h c z)
  | .isub => sm_i2 S (fun a b S' => sm_nx (pc + 1) L (.int (a - b) :: S') h c z)
  | .imul => sm_i2 S (fun a b S' => sm_nx (pc + 1) L (.int (a * b) :: S') h c z)
  | .idiv => sm_i2 S (fun a b S' => if b = 0 then none else sm_nx (pc + 1) L (.int (a / b) :: S') h c z)
  | .irem => sm_i2 S (fun a b S' => if b = 0 then none else sm_nx (pc + 1) L (.int (a - a / b * b) :: S') h c z)
  | .ineg => sm_i1 S (fun a S' => sm_nx (pc + 1) L (.int (-a) :: S') h c z)
  | .iand => sm_i2 S (fun a b S' => sm_nx (pc + 1) L (.int (a &&& b) :: S') h c z)
  | .ior => sm_i2 S (fun a b S' => sm_nx (pc + 1) L (.int (a ||| b) :: S') h c z)
  | .ishl => sm_i2 S (fun a b S' => sm_nx (pc + 1) L (.int (a <<< (b &&& 31)) :: S') h c z)
  | .ishr => sm_i2 S (fun a b S' => sm_nx (pc + 1) L (.int (a >>> (b &&& 31)) :: S') h c z)
  | .iushr => sm_i2 S (fun a b S' => sm_nx (pc + 1) L (.int (a.toUInt32 >>> (b.toUInt32 &&& Int32.toUInt32 31)).toInt32 :: S') h c z)
  | .ladd => sm_j2 S (fun a b S' => sm_nx (pc + 1) L (.long (a + b) :: S') h c z)
  | .lsub => sm_j2 S (fun a b S' => sm_nx (pc + 1) L (.long (a - b) :: S') h c z)
  | .land => sm_j2 S (fun a b S' => sm_nx (pc + 1) L (.long (a &&& b) :: S') h c z)
  | .lor => sm_j2 S (fun a b S' => sm_nx (pc + 1) L (.long (a ||| b) :: S') h c z)
  | .lxor => sm_j2 S (fun a b S' => sm_nx (pc + 1) L (.long (a ^^^ b) :: S') h c z)
  | .lcmp => sm_j2 S (fun a b S' => sm_nx (pc + 1) L (.int (lg_cmp a b) :: S') h c z)
  | .lshl => sm_ji S (fun a b S' => sm_nx (pc + 1) L (.long (a <<< (b.toInt64 &&& 63)) :: S') h c z)
  | .lshr => sm_ji S (fun a b S' => sm_nx (pc + 1) L (.long (a >>> (b.toInt64 &&& 63)) :: S') h c z)
  | .lushr => sm_ji S (fun a b S' => sm_nx (pc + 1) L (.long (a.toUInt64 >>> (b.toInt64.toUInt64 &&& Int64.toUInt64 63)).toInt64 :: S') h c z)
  | .l2i => sm_j1 S (fun a S' => sm_nx (pc + 1) L (.int a.toInt32 :: S') h c z)
  | .i2l => sm_i1 S (fun a S' => sm_nx (pc + 1) L (.long a.toInt64 :: S') h c z)
  | .dup => (match S with
    | v :: S' => if v.category = 1 then sm_nx (pc + 1) L (v :: v :: S') h c z else none
    | _ => none)
  | .dup2 => (match S with
    | v :: w :: S' => if v.category = 1 then (if w.category = 1 then sm_nx (pc + 1) L (v :: w :: v :: w :: S') h c z else none) else sm_nx (pc + 1) L (v :: v :: w :: S') h c z
    | _ => none)
  | .pop => (match S with
    | v :: S' => if v.category = 1 then sm_nx (pc + 1) L S' h c z else none
    | _ => none)
  | .if_icmp cd off => sm_i2 S (fun a b S' => sm_br (sm_cmp cd a b) pc off (fun t => sm_nx t L S' h c z))
  | .ifCond cd off => sm_i1 S (fun a S' => sm_br (sm_cmp cd a 0) pc off (fun t => sm_nx t L S' h c z))
  | .goto off => sm_jmp pc off (fun t => sm_nx t L S h c z)
  | .tableswitch dflt lo hi offs => sm_i1 S (fun x S' => sm_swt pc L S' h c z dflt lo hi offs.toList x)
  | .lookupswitch dflt ps => if (ps.toList.zip (ps.toList.drop 1)).all (fun (a, next) => a.1 < next.1) = true then sm_i1 S (fun x S' => sm_jmp pc (Op.lookupswitch.offset ps.toList dflt x.toInt) (fun t => sm_nx t L S' h c z)) else none
  | .getfield idx => (match sm_look sm_ft (sm_oc y) idx with
    | none => none
    | some (ci, k, _) => sm_r1 S (fun a S' => if (h.1 a).1 = ci then (match (h.1 a).2[k]? with | some v => sm_nx (pc + 3) L (v :: S') h c z | none => none) else none))
  | .putfield idx => sm_put y idx pc L S h c z
  | .iaload => sm_iald xs y pc L S h c z
  | .laload => sm_ai S (fun a i S' => sm_ldi 11 h a i (fun v => sm_nx (pc + 1) L (v :: S') h c z))
  | .baload => sm_ai S (fun a i S' => sm_ldi 12 h a i (fun v => sm_nx (pc + 1) L (v :: S') h c z))
  | .aaload => sm_ai S (fun a i S' => if (h.1 a).1 = 13 then sm_ldi 13 h a i (fun v => sm_nx (pc + 1) L (v :: S') h c z) else sm_ldi 14 h a i (fun v => sm_nx (pc + 1) L (v :: S') h c z))
  | .iastore => sm_ast 10 S pc L h c z sm_okI
  | .lastore => sm_ast 11 S pc L h c z sm_okL
  | .bastore => sm_ast 12 S pc L h c z sm_okZ
  | .aastore => sm_ast 14 S pc L h c z (sm_okP h)
  | .arraylength => sm_alen xs y pc L S h c z
  | .new idx => (match sm_look sm_nt (sm_oc y) idx with
    | none => none
    | some (ci, _) => if c + 1 ≤ sm_mc y ∧ z + sm_N ci ≤ sm_ms y then sm_nx (pc + 3) L (.ref h.2 :: S) (sm_new h (ci, sm_df ci)) (c + 1) (z + sm_N ci) else none)
  | .newarray t => sm_newa y t pc L S h c z
  | .anewarray idx => (match sm_look sm_at (sm_oc y) idx with
    | none => none
    | some _ => sm_i1 S (fun n S' => if ¬ n < 0 ∧ n.toNatClampNeg ≤ 100000 ∧ c + 1 ≤ sm_mc y ∧ z + n.toNatClampNeg ≤ sm_ms y then sm_nx (pc + 3) L (.ref h.2 :: S') (sm_new h (14, List.replicate n.toNatClampNeg .null)) (c + 1) (z + n.toNatClampNeg) else none))
  | .multianewarray idx d => if d = 2 then (match sm_look sm_gt (sm_oc y) idx with
    | none => none
    | some _ => sm_i2 S (fun n k S' => if (¬ n < 0 ∧ n.toNatClampNeg ≤ 100000) ∧ (¬ k < 0 ∧ k.toNatClampNeg ≤ 100000) ∧ c + (1 + n.toNatClampNeg) ≤ sm_mc y ∧ z + (n.toNatClampNeg + n.toNatClampNeg * k.toNatClampNeg) ≤ sm_ms y then sm_nx (pc + 4) L (.ref h.2 :: S') (sm_grid h n.toNatClampNeg k.toNatClampNeg) (c + 1 + n.toNatClampNeg) (z + n.toNatClampNeg + n.toNatClampNeg * k.toNatClampNeg) else none)) else none
  | .invokestatic idx => sm_inv xs y idx 0 pc L S h c z
  | .invokevirtual idx => sm_inv xs y idx 1 pc L S h c z
  | .invokespecial idx => sm_inv xs y idx 2 pc L S h c z
  | .ireturn => (match S with
    | [.int v] => if sm_rt y = some .int ∨ (sm_rt y = some .boolean ∧ (v = 0 ∨ v = 1)) then some (.inr (.inl (some (.int v)))) else none
    | _ => none)
  | .lreturn => (match S with
    | [.long v] => if sm_rt y = some .long then some (.inr (.inl (some (.long v)))) else none
    | _ => none)
  | .return_ => (match S with
    | [] => if sm_rt y = none then some (.inr (.inl none)) else none
    | _ => none)
  | _ => none
def sm_ln : Instr → Nat
  | .bipush _ => 2
  | .sipush _ => 3
  | .ldc _ => 2
  | .ldc_w _ => 3
  | .ldc2_w _ => 3
  | .iload _ => 2
  | .lload _ => 2
  | .aload _ => 2
  | .istore _ => 2
  | .lstore _ => 2
  | .astore _ => 2
  | .iinc _ _ => 3
  | .if_icmp _ _ => 3
  | .ifCond _ _ => 3
  | .goto _ => 3
  | .getfield _ => 3
  | .putfield _ => 3
  | .new _ => 3
  | .newarray _ => 2
  | .anewarray _ => 3
  | .multianewarray _ _ => 4
  | .invokestatic _ => 3
  | .invokevirtual _ => 3
  | .invokespecial _ => 3
  | _ => 1
def sm_lnok (ins : Instr) (len : Nat) : Bool := match ins with
  | .tableswitch .. => true
  | .lookupswitch .. => true
  | i => decide (len = sm_ln i)
def sm_fetch (y pc : Nat) : Option Instr := match decode (sm_cd y) pc with
  | .ok (ins, len) => if sm_lnok ins len = true then some ins else none
  | .error _ => none
def sm_isinv : Instr → Bool
  | .invokestatic _ => true
  | .invokevirtual _ => true
  | .invokespecial _ => true
  | _ => false
def sm_isret : Instr → Bool
  | .ireturn => true
  | .lreturn => true
  | .return_ => true
  | _ => false
def sm_run (xs : List Int32) : Nat → Nat → Nat → List Value → List Value → sm_Hp → Nat → Nat → Option (Option Value × sm_Hp)
  | 0, _, _, _, _, _, _, _ => none
  | n + 1, y, pc, L, S, h, c, z => match sm_fetch y pc with
    | none => none
    | some ins => match sm_act xs y ins pc L S h c z with
      | none => none
      | some (.inl q) => sm_run xs n y q.1 q.2.1 q.2.2.1 q.2.2.2.1 q.2.2.2.2.1 q.2.2.2.2.2
      | some (.inr (.inl v)) => if sm_isret ins = true then some (v, h) else none
      | some (.inr (.inr q)) => if sm_isinv ins = true then (match sm_run xs n q.1 0 (sm_init (sm_ml q.1) q.2.1) [] h 0 0 with
        | none => none
        | some (r, h') => sm_run xs n y (pc + 3) L (r.toList ++ q.2.2) h' (c + sm_mc q.1) (z + sm_ms q.1)) else none
