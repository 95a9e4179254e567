/-! ONE INSTRUCTION -/
/-- the words that an instruction wants -/
def am_words (cl : List vw_C) (S : List (String × String × String)) (own : String) (o : am_O) : List Cond := match o.1 with
  | .getfield i => match cl[o.2.2.1]? with
    | some (_, T, _) => if o.2.2.2.2 = .null then [.fieldLink own i (T o.2.2.2.1).1 (T o.2.2.2.1).2.1 (T o.2.2.2.1).2.2.1] else []
    | none => []
  | .putfield i => match cl[o.2.2.1]? with
    | some (_, T, _) => [.fieldLink own i (T o.2.2.2.1).1 (T o.2.2.2.1).2.1 (T o.2.2.2.1).2.2.1]
    | none => []
  | .new i => match cl[o.2.2.1]? with
    | some (C, _, N) => [.classLink own i C, .instantiable C N, .initialized C]
    | none => []
  | .ldc i => match o.2.2.2.2 with
    | .int x => [.constant own i x]
    | _ => []
  | .ldc2_w i => match o.2.2.2.2 with
    | .long x => [.constantLong own i x]
    | _ => []
  | .getstatic i => match S[o.2.2.1]? with
    | some (C, n, d) => [.fieldLink own i C n d]
    | none => []
  | .newarray t => [.arrayClass (newarray.typeOf t)]
  | .invokespecial i => if o.2.2.1 = 0 then [.methodLink own i objectInit, .instanceMethod objectInit, .code objectInit ⟨#[0xb1]⟩ 1 none] else []
  | _ => []
/-- an instruction's row is right (its words apart) -/
def am_ok (cl : List vw_C) (S : List (String × String × String)) (str : List (String × Nat × String × Nat)) (nst : List (String × Nat × String × String × String)) (own : String) (ini : Bool) (cc : ByteArray) (pc : Nat) (o : am_O) : Bool :=
  decide (decode cc pc = .ok (o.1, o.2.1)) && match o.1 with
  | .iconst n => decide (o.2.1 = 1) && decide (o.2.2.2.2 = .int (Int32.ofInt n))
  | .bipush n => decide (o.2.1 = 2) && decide (o.2.2.2.2 = .int (Int8.ofInt n).toInt32)
  | .sipush n => decide (o.2.1 = 3) && decide (o.2.2.2.2 = .int (Int16.ofInt n).toInt32)
  | .lconst n => decide (o.2.1 = 1) && decide (o.2.2.2.2 = .long (Int64.ofNat (n : Nat)))
  | .aconst_null => decide (o.2.1 = 1) && decide (o.2.2.2.2 = .null)
  | .ldc i => decide (o.2.1 = 2) && match o.2.2.2.2 with
    | .int _ => true
    | .ref a => str.any (fun q => decide (q.1 = own) && decide (q.2.1 = i) && decide (q.2.2.2 = a))
    | _ => false
  | .ldc2_w _ => decide (o.2.1 = 3) && match o.2.2.2.2 with
    | .long _ => true
    | _ => false
  | .getstatic _ => decide (o.2.1 = 3) && decide (o.2.2.1 < S.length)
  | .iload i => decide (o.2.1 = 2) && decide (o.2.2.1 = i)
  | .iload_n i => decide (o.2.1 = 1) && decide (o.2.2.1 = (i : Nat))
  | .lload i => decide (o.2.1 = 2) && decide (o.2.2.1 = i)
  | .lload_n i => decide (o.2.1 = 1) && decide (o.2.2.1 = (i : Nat))
  | .aload i => decide (o.2.1 = 2) && decide (o.2.2.1 = i)
  | .aload_n i => decide (o.2.1 = 1) && decide (o.2.2.1 = (i : Nat))
  | .istore i => decide (o.2.1 = 2) && decide (o.2.2.1 = i)
  | .istore_n i => decide (o.2.1 = 1) && decide (o.2.2.1 = (i : Nat))
  | .lstore i => decide (o.2.1 = 2) && decide (o.2.2.1 = i)
  | .lstore_n i => decide (o.2.1 = 1) && decide (o.2.2.1 = (i : Nat))
  | .astore i => decide (o.2.1 = 2) && decide (o.2.2.1 = i)
  | .astore_n i => decide (o.2.1 = 1) && decide (o.2.2.1 = (i : Nat))
  | .iinc i n => decide (o.2.1 = 3) && decide (o.2.2.1 = i) && decide (o.2.2.2.2 = .int (Int32.ofInt n))
  | .ifCond _ off => decide (o.2.1 = 3) && decide ((pc : Int) + off = (o.2.2.1 : Int))
  | .if_icmp _ off => decide (o.2.1 = 3) && decide ((pc : Int) + off = (o.2.2.1 : Int))
  | .ifnull off => decide (o.2.1 = 3) && decide ((pc : Int) + off = (o.2.2.1 : Int))
  | .ifnonnull off => decide (o.2.1 = 3) && decide ((pc : Int) + off = (o.2.2.1 : Int))
  | .goto off => decide (o.2.1 = 3) && decide ((pc : Int) + off = (o.2.2.1 : Int))
  | .tableswitch dflt _ _ offs => decide (0 ≤ (pc : Int) + dflt) && offs.toList.all (fun off => decide (0 ≤ (pc : Int) + off))
  | .lookupswitch dflt ps => decide (0 ≤ (pc : Int) + dflt) && ps.toList.all (fun q => decide (0 ≤ (pc : Int) + q.2)) && (ps.toList.zip (ps.toList.drop 1)).all (fun (a, next) => a.1 < next.1)
  | .getfield i => decide (o.2.1 = 3) && match cl[o.2.2.1]? with
    | some (_, T, N) => decide (o.2.2.2.1 < N) && (decide (o.2.2.2.2 = .null) || nst.any (fun q => decide (q = (own, i, (T o.2.2.2.1).1, (T o.2.2.2.1).2.1, (T o.2.2.2.1).2.2.1))))
    | none => false
  | .putfield _ => decide (o.2.1 = 3) && match cl[o.2.2.1]? with
    | some (_, T, N) => decide (o.2.2.2.1 < N) && (!(T o.2.2.2.1).2.2.2 || (ini && decide ((T o.2.2.2.1).1 = own)))
    | none => false
  | .new _ => decide (o.2.1 = 3) && (cl[o.2.2.1]?).isSome
  | .newarray t => decide (o.2.1 = 2) && match t with
    | .int => decide (o.2.2.1 = 0)
    | .long => decide (o.2.2.1 = 1)
    | .boolean => decide (o.2.2.1 = 3)
    | _ => false
  | .invokespecial _ => decide (o.2.1 = 3)
  | .invokevirtual _ => decide (o.2.1 = 3)
  | .invokestatic _ => decide (o.2.1 = 3)
  | _ => decide (o.2.1 = 1)
/-- what the tables say of the classes -/
def am_G (cl : List vw_C) (ty : Nat → Nat → FieldType) (fs : Nat → List Value) (Ts : List Cond) : Prop := ∀ (ci : Nat) (C : String) (T : u_T) (N : Nat), cl[ci]? = some (C, T, N) →
  (∀ w ∈ u_ws C T N, w ∈ Ts) ∧ (∀ k, k < N → parseFieldDescriptor (T k).2.2.1 = some (ty ci k)) ∧ (∀ a, a < N → ∀ b, b < N → a ≠ b → (T a).2.1 ≠ (T b).2.1) ∧ fs ci = (List.range N).map (fun j => defaultValue (ty ci j))
/-- what stands fast while the law runs -/
def am_K (D : va_G) (cl : List vw_C) (dA : Nat → ClassId) (b X : Nat) (ext : Nat → Nat) (st : Nat → Value) (S : List (String × String × String)) (str : List (String × Nat × String × Nat)) (nst : List (String × Nat × String × String × String)) (U : State) : Prop :=
  va_K D cl (am_tys dA) U ∧ b ≤ U.heap.size ∧ (∀ (j : Nat) (q : String × String × String), S[j]? = some q → va_Z q.1 q.2.1 q.2.2 (am_vl b X ext (st j)) (fun a => b ≤ a) U U.heap) ∧ (∀ q ∈ str, vk_R q.1 q.2.1 q.2.2.1 (am_ad b X ext q.2.2.2) U) ∧ ∀ q ∈ nst, va_Nw (.fieldLinkNest q.1 q.2.1 q.2.2.1 q.2.2.2.1 q.2.2.2.2 "MarkInlines") U
theorem am_off {offs : List Int} {off : Int} {pc : Nat} (h : offs.all (fun off => decide (0 ≤ (pc : Int) + off)) = true) (hm : off ∈ offs) : (pc : Int) + off = ((((pc : Int) + off).toNat : Nat) : Int) := by
  have := List.all_eq_true.mp h off hm
  simp at this
  omega
theorem am_lk (dflt x : Int) : ∀ ps : List (Int × Int), Op.lookupswitch.offset ps dflt x = dflt ∨ ∃ q ∈ ps, Op.lookupswitch.offset ps dflt x = q.2
  | [] => Or.inl (by simp [Op.lookupswitch.offset])
  | (a, o) :: r => by
    by_cases h : a = x
    · exact Or.inr ⟨(a, o), List.mem_cons_self, by simp [Op.lookupswitch.offset, h]⟩
    · rcases am_lk dflt x r with e | ⟨q, hq, e⟩
      · exact Or.inl (by simp [Op.lookupswitch.offset, h, e])
      · exact Or.inr ⟨q, List.mem_cons_of_mem _ hq, by simp [Op.lookupswitch.offset, h, e]⟩
