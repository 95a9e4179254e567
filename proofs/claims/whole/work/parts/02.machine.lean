/-! AN ABSTRACT MACHINE: frames and heaps as plain values; addresses are numbers counted from the law's start, the first X of them stand for cells that were there before. -/
/-- an abstract cell: an array (number of its kind, its contents) or an object (number of its class, its fields) -/
abbrev am_C : Type := (Nat × vp_A) ⊕ (Nat × List Value)
/-- an abstract heap: its cells, and the number that the next new cell gets -/
abbrev am_H : Type := (Nat → Option am_C) × Nat
abbrev am_L : Type := List (Option Value)
/-- a frame: pc, locals, stack, heap, cells made so far, slots made so far -/
abbrev am_F : Type := Nat × am_L × List Value × am_H × Nat × Nat
/-- an instruction, its length, two numbers of it (a local, a target, a class and a field, a method and its arguments), its constant -/
abbrev am_O : Type := Instr × Nat × Nat × Nat × Value
def am_get (loc : am_L) (i : Nat) : Option Value := match loc[i]? with
  | some (some v) => some v
  | _ => none
def am_up (h : am_H) (a : Nat) (c : am_C) : am_H := (fun q => if q = a then some c else h.1 q, h.2)
def am_new (h : am_H) (c : am_C) : am_H := (fun q => if q = h.2 then some c else h.1 q, h.2 + 1)
def am_isR (v : Value) : Bool := match v with
  | .ref _ => true
  | .null => true
  | _ => false
def am_isI (v : Value) : Bool := match v with
  | .int _ => true
  | _ => false
/-- what a slot of a type takes -/
def am_fit (ty : FieldType) (v : Value) : Bool := match ty, v with
  | .int, .int _ => true
  | .boolean, .int x => x == 0 || x == 1
  | .long, .long _ => true
  | .object _, .ref _ => true
  | .object _, .null => true
  | .array _, .ref _ => true
  | .array _, .null => true
  | _, _ => false
def am_push (o : am_O) (pc : Nat) (loc : am_L) (stk : List Value) (h : am_H) (k z : Nat) : Option am_F := some (pc + o.2.1, loc, o.2.2.2.2 :: stk, h, k, z)
def am_ldI (o : am_O) (pc : Nat) (loc : am_L) (stk : List Value) (h : am_H) (k z : Nat) : Option am_F := match am_get loc o.2.2.1 with
  | some (.int x) => some (pc + o.2.1, loc, .int x :: stk, h, k, z)
  | _ => none
def am_ldA (o : am_O) (pc : Nat) (loc : am_L) (stk : List Value) (h : am_H) (k z : Nat) : Option am_F := match am_get loc o.2.2.1 with
  | some (.ref x) => some (pc + o.2.1, loc, .ref x :: stk, h, k, z)
  | some .null => some (pc + o.2.1, loc, .null :: stk, h, k, z)
  | _ => none
/-- no long stands just ahead of place i -/
def am_cl (loc : am_L) (i : Nat) : Bool := match i with
  | 0 => true
  | j + 1 => match am_get loc j with
    | some (.long _) => false
    | some (.double _) => false
    | _ => true
def am_ldL (o : am_O) (pc : Nat) (loc : am_L) (stk : List Value) (h : am_H) (k z : Nat) : Option am_F := match am_get loc o.2.2.1 with
  | some (.long x) => some (pc + o.2.1, loc, .long x :: stk, h, k, z)
  | _ => none
def am_stL (o : am_O) (pc : Nat) (loc : am_L) (stk : List Value) (h : am_H) (k z : Nat) : Option am_F := match stk with
  | .long x :: r => if am_cl loc o.2.2.1 = true ∧ o.2.2.1 + 1 < loc.length then some (pc + o.2.1, (loc.set o.2.2.1 (some (.long x))).set (o.2.2.1 + 1) none, r, h, k, z) else none
  | _ => none
def am_stI (o : am_O) (pc : Nat) (loc : am_L) (stk : List Value) (h : am_H) (k z : Nat) : Option am_F := match stk with
  | .int x :: r => if am_cl loc o.2.2.1 = true ∧ o.2.2.1 < loc.length then some (pc + o.2.1, loc.set o.2.2.1 (some (.int x)), r, h, k, z) else none
  | _ => none
def am_stA (o : am_O) (pc : Nat) (loc : am_L) (stk : List Value) (h : am_H) (k z : Nat) : Option am_F := match stk with
  | .ref x :: r => if am_cl loc o.2.2.1 = true ∧ o.2.2.1 < loc.length then some (pc + o.2.1, loc.set o.2.2.1 (some (.ref x)), r, h, k, z) else none
  | .null :: r => if am_cl loc o.2.2.1 = true ∧ o.2.2.1 < loc.length then some (pc + o.2.1, loc.set o.2.2.1 (some .null), r, h, k, z) else none
  | _ => none
def am_inc (o : am_O) (pc : Nat) (loc : am_L) (stk : List Value) (h : am_H) (k z : Nat) : Option am_F := match am_get loc o.2.2.1, o.2.2.2.2 with
  | some (.int x), .int c => if am_cl loc o.2.2.1 = true then some (pc + 3, loc.set o.2.2.1 (some (.int (x + c))), stk, h, k, z) else none
  | _, _ => none
def am_i1 (op : Int32 → Int32) (pc : Nat) (loc : am_L) (stk : List Value) (h : am_H) (k z : Nat) : Option am_F := match stk with
  | .int x :: r => some (pc + 1, loc, .int (op x) :: r, h, k, z)
  | _ => none
def am_i2 (op : Int32 → Int32 → Int32) (pc : Nat) (loc : am_L) (stk : List Value) (h : am_H) (k z : Nat) : Option am_F := match stk with
  | .int y :: .int x :: r => some (pc + 1, loc, .int (op x y) :: r, h, k, z)
  | _ => none
/-- division and remainder -/
def am_i3 (op : Int32 → Int32 → Int32) (pc : Nat) (loc : am_L) (stk : List Value) (h : am_H) (k z : Nat) : Option am_F := match stk with
  | .int y :: .int x :: r => if y = 0 then none else some (pc + 1, loc, .int (op x y) :: r, h, k, z)
  | _ => none
def am_if1 (t : Int32 → Prop) (dt : ∀ x, Decidable (t x)) (o : am_O) (pc : Nat) (loc : am_L) (stk : List Value) (h : am_H) (k z : Nat) : Option am_F := match stk with
  | .int x :: r => some (@ite _ (t x) (dt x) o.2.2.1 (pc + 3), loc, r, h, k, z)
  | _ => none
def am_if2 (t : Int32 → Int32 → Prop) (dt : ∀ x y, Decidable (t x y)) (o : am_O) (pc : Nat) (loc : am_L) (stk : List Value) (h : am_H) (k z : Nat) : Option am_F := match stk with
  | .int y :: .int x :: r => some (@ite _ (t x y) (dt x y) o.2.2.1 (pc + 3), loc, r, h, k, z)
  | _ => none
def am_dup (pc : Nat) (loc : am_L) (stk : List Value) (h : am_H) (k z : Nat) : Option am_F := match stk with
  | v :: r => if v.category = 1 then some (pc + 1, loc, v :: v :: r, h, k, z) else none
  | _ => none
def am_pop (pc : Nat) (loc : am_L) (stk : List Value) (h : am_H) (k z : Nat) : Option am_F := match stk with
  | v :: r => if v.category = 1 then some (pc + 1, loc, r, h, k, z) else none
  | _ => none
def am_dupx1 (pc : Nat) (loc : am_L) (stk : List Value) (h : am_H) (k z : Nat) : Option am_F := match stk with
  | v :: u :: r => if v.category = 1 ∧ u.category = 1 then some (pc + 1, loc, v :: u :: v :: r, h, k, z) else none
  | _ => none
def am_dup2 (pc : Nat) (loc : am_L) (stk : List Value) (h : am_H) (k z : Nat) : Option am_F := match stk with
  | v :: u :: r => if v.category = 1 ∧ u.category = 1 then some (pc + 1, loc, v :: u :: v :: u :: r, h, k, z) else none
  | _ => none
def am_getf (o : am_O) (pc : Nat) (loc : am_L) (stk : List Value) (h : am_H) (k z : Nat) : Option am_F := match stk with
  | .ref a :: r => match h.1 a with
    | some (.inr (ci, fs)) => if ci = o.2.2.1 then match fs[o.2.2.2.1]? with
      | some v => some (pc + 3, loc, v :: r, h, k, z)
      | none => none else none
    | _ => none
  | _ => none
/-- X: how many cells were there before: they aren't written -/
def am_putf (X : Nat) (ty : Nat → Nat → FieldType) (o : am_O) (pc : Nat) (loc : am_L) (stk : List Value) (h : am_H) (k z : Nat) : Option am_F := match stk with
  | v :: .ref a :: r => match h.1 a with
    | some (.inr (ci, fs)) => if ci = o.2.2.1 ∧ X ≤ a ∧ o.2.2.2.1 < fs.length ∧ am_fit (ty ci o.2.2.2.1) v = true then some (pc + 3, loc, r, am_up h a (.inr (ci, fs.set o.2.2.2.1 v)), k, z) else none
    | _ => none
  | _ => none
def am_alen (pc : Nat) (loc : am_L) (stk : List Value) (h : am_H) (k z : Nat) : Option am_F := match stk with
  | .ref a :: r => match h.1 a with
    | some (.inl (q, n, _)) => if q < 4 then some (pc + 1, loc, .int (Int32.ofNat n) :: r, h, k, z) else none
    | _ => none
  | _ => none
/-- kinds of arrays: 0 int[], 1 long[], 2 byte[], 3 boolean[], 4 char[] -/
def am_iald (pc : Nat) (loc : am_L) (stk : List Value) (h : am_H) (k z : Nat) : Option am_F := match stk with
  | .int i :: .ref a :: r => match h.1 a with
    | some (.inl (q, n, .inl f)) => if q = 0 ∧ ¬ (i < 0 ∨ n ≤ i.toNatClampNeg) then some (pc + 1, loc, .int (f i.toNatClampNeg) :: r, h, k, z) else none
    | _ => none
  | _ => none
def am_iast (X : Nat) (pc : Nat) (loc : am_L) (stk : List Value) (h : am_H) (k z : Nat) : Option am_F := match stk with
  | .int x :: .int i :: .ref a :: r => match h.1 a with
    | some (.inl (q, n, .inl f)) => if q = 0 ∧ X ≤ a ∧ ¬ (i < 0 ∨ n ≤ i.toNatClampNeg) then some (pc + 1, loc, r, am_up h a (.inl (q, n, .inl (upd f i.toNatClampNeg x))), k, z) else none
    | _ => none
  | _ => none
def am_bald (pc : Nat) (loc : am_L) (stk : List Value) (h : am_H) (k z : Nat) : Option am_F := match stk with
  | .int i :: .ref a :: r => match h.1 a with
    | some (.inl (q, n, .inl f)) => if (q = 2 ∨ q = 3) ∧ ¬ (i < 0 ∨ n ≤ i.toNatClampNeg) then some (pc + 1, loc, .int (f i.toNatClampNeg) :: r, h, k, z) else none
    | _ => none
  | _ => none
def am_bast (X : Nat) (pc : Nat) (loc : am_L) (stk : List Value) (h : am_H) (k z : Nat) : Option am_F := match stk with
  | .int x :: .int i :: .ref a :: r => match h.1 a with
    | some (.inl (q, n, .inl f)) => if q = 3 ∧ X ≤ a ∧ (x = 0 ∨ x = 1) ∧ ¬ (i < 0 ∨ n ≤ i.toNatClampNeg) then some (pc + 1, loc, r, am_up h a (.inl (q, n, .inl (upd f i.toNatClampNeg x))), k, z) else none
    | _ => none
  | _ => none
def am_lald (pc : Nat) (loc : am_L) (stk : List Value) (h : am_H) (k z : Nat) : Option am_F := match stk with
  | .int i :: .ref a :: r => match h.1 a with
    | some (.inl (q, n, .inr (.inl f))) => if q = 1 ∧ ¬ (i < 0 ∨ n ≤ i.toNatClampNeg) then some (pc + 1, loc, .long (f i.toNatClampNeg) :: r, h, k, z) else none
    | _ => none
  | _ => none
def am_last (X : Nat) (pc : Nat) (loc : am_L) (stk : List Value) (h : am_H) (k z : Nat) : Option am_F := match stk with
  | .long x :: .int i :: .ref a :: r => match h.1 a with
    | some (.inl (q, n, .inr (.inl f))) => if q = 1 ∧ X ≤ a ∧ ¬ (i < 0 ∨ n ≤ i.toNatClampNeg) then some (pc + 1, loc, r, am_up h a (.inl (q, n, .inr (.inl (vp_updL f i.toNatClampNeg x)))), k, z) else none
    | _ => none
  | _ => none
def am_newo (fs : Nat → List Value) (o : am_O) (pc : Nat) (loc : am_L) (stk : List Value) (h : am_H) (k z : Nat) : Option am_F :=
  some (pc + 3, loc, .ref h.2 :: stk, am_new h (.inr (o.2.2.1, fs o.2.2.1)), k + 1, z + (fs o.2.2.1).length)
def am_newa (o : am_O) (pc : Nat) (loc : am_L) (stk : List Value) (h : am_H) (k z : Nat) : Option am_F := match stk with
  | .int n :: r => if n < 0 ∨ 134217728 < n.toNatClampNeg then none else match o.2.2.1 with
    | 0 => some (pc + 2, loc, .ref h.2 :: r, am_new h (.inl (0, n.toNatClampNeg, .inl (fun _ => 0))), k + 1, z + n.toNatClampNeg)
    | 1 => if 67108864 < n.toNatClampNeg then none else some (pc + 2, loc, .ref h.2 :: r, am_new h (.inl (1, n.toNatClampNeg, .inr (.inl (fun _ => 0)))), k + 1, z + n.toNatClampNeg)
    | 3 => some (pc + 2, loc, .ref h.2 :: r, am_new h (.inl (3, n.toNatClampNeg, .inl (fun _ => 0))), k + 1, z + n.toNatClampNeg)
    | _ => none
  | _ => none
def am_tsw (pc : Nat) (dflt lo hi : Int) (offs : Array Int) (x : Int32) : Option Nat :=
  if x.toInt < lo ∨ hi < x.toInt then some ((pc : Int) + dflt).toNat else match offs[(x.toInt - lo).toNat]? with
  | some off => some ((pc : Int) + off).toNat
  | none => none
def am_sw (t : Option Nat) (loc : am_L) (r : List Value) (h : am_H) (k z : Nat) : Option am_F := match t with
  | some q => some (q, loc, r, h, k, z)
  | none => none
def am_swI (f : Int32 → Option Nat) (loc : am_L) (stk : List Value) (h : am_H) (k z : Nat) : Option am_F := match stk with
  | .int x :: r => am_sw (f x) loc r h k z
  | _ => none
def am_ifn (b : Bool) (o : am_O) (pc : Nat) (loc : am_L) (stk : List Value) (h : am_H) (k z : Nat) : Option am_F := match stk with
  | .ref _ :: r => some (bif b then pc + 3 else o.2.2.1, loc, r, h, k, z)
  | .null :: r => some (bif b then o.2.2.1 else pc + 3, loc, r, h, k, z)
  | _ => none
def am_oinit (pc : Nat) (loc : am_L) (stk : List Value) (h : am_H) (k z : Nat) : Option am_F := match stk with
  | .ref _ :: r => if (r.map fun v => v.category).sum ≤ 8 then some (pc + 3, loc, r, h, k, z) else none
  | _ => none
def am_i2l (pc : Nat) (loc : am_L) (stk : List Value) (h : am_H) (k z : Nat) : Option am_F := match stk with
  | .int x :: r => some (pc + 1, loc, .long x.toInt64 :: r, h, k, z)
  | _ => none
def am_l2i (pc : Nat) (loc : am_L) (stk : List Value) (h : am_H) (k z : Nat) : Option am_F := match stk with
  | .long x :: r => some (pc + 1, loc, .int x.toInt32 :: r, h, k, z)
  | _ => none
def am_land (pc : Nat) (loc : am_L) (stk : List Value) (h : am_H) (k z : Nat) : Option am_F := match stk with
  | .long y :: .long x :: r => some (pc + 1, loc, .long (x &&& y) :: r, h, k, z)
  | _ => none
def am_lshr (pc : Nat) (loc : am_L) (stk : List Value) (h : am_H) (k z : Nat) : Option am_F := match stk with
  | .int y :: .long x :: r => some (pc + 1, loc, .long (x >>> (y.toInt64 &&& 63)) :: r, h, k, z)
  | _ => none
def am_gets (st : Nat → Value) (o : am_O) (pc : Nat) (loc : am_L) (stk : List Value) (h : am_H) (k z : Nat) : Option am_F := some (pc + 3, loc, st o.2.2.1 :: stk, h, k, z)
def am_lcmp (pc : Nat) (loc : am_L) (stk : List Value) (h : am_H) (k z : Nat) : Option am_F := match stk with
  | .long y :: .long x :: r => some (pc + 1, loc, .int (lg_cmp x y) :: r, h, k, z)
  | _ => none
/-- one instruction that is no call, no return -/
def am_stp (X : Nat) (st : Nat → Value) (ty : Nat → Nat → FieldType) (fs : Nat → List Value) (o : am_O) (pc : Nat) (loc : am_L) (stk : List Value) (h : am_H) (k z : Nat) : Option am_F := match o.1 with
  | .iconst _ => am_push o pc loc stk h k z
  | .bipush _ => am_push o pc loc stk h k z
  | .sipush _ => am_push o pc loc stk h k z
  | .ldc _ => am_push o pc loc stk h k z
  | .getstatic _ => am_gets st o pc loc stk h k z
  | .lconst _ => am_push o pc loc stk h k z
  | .ldc2_w _ => am_push o pc loc stk h k z
  | .lload _ => am_ldL o pc loc stk h k z
  | .lload_n _ => am_ldL o pc loc stk h k z
  | .lstore _ => am_stL o pc loc stk h k z
  | .lstore_n _ => am_stL o pc loc stk h k z
  | .l2i => am_l2i pc loc stk h k z
  | .land => am_land pc loc stk h k z
  | .lshr => am_lshr pc loc stk h k z
  | .aconst_null => am_push o pc loc stk h k z
  | .iload _ => am_ldI o pc loc stk h k z
  | .iload_n _ => am_ldI o pc loc stk h k z
  | .aload _ => am_ldA o pc loc stk h k z
  | .aload_n _ => am_ldA o pc loc stk h k z
  | .istore _ => am_stI o pc loc stk h k z
  | .istore_n _ => am_stI o pc loc stk h k z
  | .astore _ => am_stA o pc loc stk h k z
  | .astore_n _ => am_stA o pc loc stk h k z
  | .iinc _ _ => am_inc o pc loc stk h k z
  | .iadd => am_i2 (fun x y => x + y) pc loc stk h k z
  | .isub => am_i2 (fun x y => x - y) pc loc stk h k z
  | .imul => am_i2 (fun x y => x * y) pc loc stk h k z
  | .iand => am_i2 (fun x y => x &&& y) pc loc stk h k z
  | .ior => am_i2 (fun x y => x ||| y) pc loc stk h k z
  | .ixor => am_i2 (fun x y => x ^^^ y) pc loc stk h k z
  | .ishl => am_i2 (fun x y => x <<< (y &&& 31)) pc loc stk h k z
  | .ishr => am_i2 (fun x y => x >>> (y &&& 31)) pc loc stk h k z
  | .iushr => am_i2 (fun x y => (x.toUInt32 >>> (y.toUInt32 &&& Int32.toUInt32 31)).toInt32) pc loc stk h k z
  | .idiv => am_i3 (fun x y => x / y) pc loc stk h k z
  | .irem => am_i3 (fun x y => x - x / y * y) pc loc stk h k z
  | .ineg => am_i1 (fun x => -x) pc loc stk h k z
  | .i2c => am_i1 (fun x => (x.toUInt32 % 65536).toInt32) pc loc stk h k z
  | .i2b => am_i1 (fun x => x.toInt8.toInt32) pc loc stk h k z
  | .i2l => am_i2l pc loc stk h k z
  | .lcmp => am_lcmp pc loc stk h k z
  | .dup => am_dup pc loc stk h k z
  | .pop => am_pop pc loc stk h k z
  | .dup_x1 => am_dupx1 pc loc stk h k z
  | .dup2 => am_dup2 pc loc stk h k z
  | .ifCond .eq _ => am_if1 (fun x => x = 0) (fun _ => inferInstance) o pc loc stk h k z
  | .ifCond .ne _ => am_if1 (fun x => ¬ x = 0) (fun _ => inferInstance) o pc loc stk h k z
  | .ifCond .lt _ => am_if1 (fun x => x < 0) (fun _ => inferInstance) o pc loc stk h k z
  | .ifCond .ge _ => am_if1 (fun x => 0 ≤ x) (fun _ => inferInstance) o pc loc stk h k z
  | .ifCond .gt _ => am_if1 (fun x => 0 < x) (fun _ => inferInstance) o pc loc stk h k z
  | .ifCond .le _ => am_if1 (fun x => x ≤ 0) (fun _ => inferInstance) o pc loc stk h k z
  | .if_icmp .eq _ => am_if2 (fun x y => x = y) (fun _ _ => inferInstance) o pc loc stk h k z
  | .if_icmp .ne _ => am_if2 (fun x y => ¬ x = y) (fun _ _ => inferInstance) o pc loc stk h k z
  | .if_icmp .lt _ => am_if2 (fun x y => x < y) (fun _ _ => inferInstance) o pc loc stk h k z
  | .if_icmp .ge _ => am_if2 (fun x y => y ≤ x) (fun _ _ => inferInstance) o pc loc stk h k z
  | .if_icmp .gt _ => am_if2 (fun x y => y < x) (fun _ _ => inferInstance) o pc loc stk h k z
  | .if_icmp .le _ => am_if2 (fun x y => x ≤ y) (fun _ _ => inferInstance) o pc loc stk h k z
  | .ifnull _ => am_ifn true o pc loc stk h k z
  | .ifnonnull _ => am_ifn false o pc loc stk h k z
  | .goto _ => some (o.2.2.1, loc, stk, h, k, z)
  | .tableswitch dflt lo hi offs => am_swI (am_tsw pc dflt lo hi offs) loc stk h k z
  | .lookupswitch dflt ps => am_swI (fun x => some ((pc : Int) + Op.lookupswitch.offset ps.toList dflt x.toInt).toNat) loc stk h k z
  | .getfield _ => am_getf o pc loc stk h k z
  | .putfield _ => am_putf X ty o pc loc stk h k z
  | .arraylength => am_alen pc loc stk h k z
  | .iaload => am_iald pc loc stk h k z
  | .baload => am_bald pc loc stk h k z
  | .bastore => am_bast X pc loc stk h k z
  | .iastore => am_iast X pc loc stk h k z
  | .laload => am_lald pc loc stk h k z
  | .lastore => am_last X pc loc stk h k z
  | .new _ => am_newo fs o pc loc stk h k z
  | .newarray _ => am_newa o pc loc stk h k z
  | .invokespecial _ => if o.2.2.1 = 0 then am_oinit pc loc stk h k z else none
  | _ => none
