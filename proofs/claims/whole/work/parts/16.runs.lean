/-! RUNS of the abstract machine, and that they are the machine's -/
abbrev am_CR : Type := Nat → List Value → am_H → Option Value → am_H → Nat → Nat → Prop
/-- the locals l' are among l -/
def am_le (l' l : am_L) : Prop := l'.length = l.length ∧ ∀ i v, am_get l' i = some v → am_get l i = some v
/-- System.arraycopy of ints -/
def am_cpy (f g : am_F) : Prop := ∃ n dp sp a1 a0 rest n0 n1 x0 x1, f.2.2.1 = .int n :: .int dp :: .ref a1 :: .int sp :: .ref a0 :: rest ∧ f.2.2.2.1.1 a0 = some (.inl (0, n0, .inl x0)) ∧ f.2.2.2.1.1 a1 = some (.inl (0, n1, .inl x1)) ∧ am_X ≤ a1 ∧ ¬ sp < 0 ∧ ¬ dp < 0 ∧ ¬ n < 0 ∧
  sp.toNatClampNeg + n.toNatClampNeg ≤ n0 ∧ dp.toNatClampNeg + n.toNatClampNeg ≤ n1 ∧ (rest.map fun v => v.category).sum ≤ 8 ∧
  g = (f.1 + 3, f.2.1, rest, am_up f.2.2.2.1 a1 (.inl (0, n1, .inl (va_cpy x0 x1 sp.toNatClampNeg dp.toNatClampNeg n.toNatClampNeg))), f.2.2.2.2.1, f.2.2.2.2.2)
/-- Math.max (206) and Math.min (207) -/
def am_mm (j : Nat) (f g : am_F) : Prop := ∃ x y rest, f.2.2.1 = .int y :: .int x :: rest ∧ (rest.map fun v => v.category).sum ≤ 8 ∧
  g = (f.1 + 3, f.2.1, .int (if j = 206 then (if x < y then y else x) else (if y < x then y else x)) :: rest, f.2.2.2.1, f.2.2.2.2.1, f.2.2.2.2.2)
/-- one step: an instruction, a call, a copy of an array, or a local forgotten -/
def am_S1 (fm : Value) (C : am_CR) (y : Nat) (f g : am_F) : Prop :=
  (∃ o, am_ops y f.1 = some o ∧ am_stp am_X (am_st fm) am_ty am_fs o f.1 f.2.1 f.2.2.1 f.2.2.2.1 f.2.2.2.2.1 f.2.2.2.2.2 = some g)
  ∨ (∃ o As rest r h' mc ms, am_ops y f.1 = some o ∧ f.2.2.1 = As.reverse ++ rest ∧ (rest.map fun v => v.category).sum ≤ 8 ∧ am_isM o.2.2.1 = true ∧ o.2.2.2.1 = am_np o.2.2.1 ∧ am_call o (am_Mt o.2.2.1) f.2.2.2.1 As = true ∧ C o.2.2.1 As f.2.2.2.1 r h' mc ms ∧
      g = (f.1 + 3, f.2.1, r.toList ++ rest, h', f.2.2.2.2.1 + mc, f.2.2.2.2.2 + ms))
  ∨ (∃ l', am_le l' f.2.1 ∧ g = (f.1, l', f.2.2.1, f.2.2.2.1, f.2.2.2.2.1, f.2.2.2.2.2))
  ∨ (∃ o i, am_ops y f.1 = some o ∧ o.1 = .invokestatic i ∧ o.2.2.1 = 1000 ∧ am_cpy f g)
  ∨ (∃ o i, am_ops y f.1 = some o ∧ o.1 = .invokestatic i ∧ (o.2.2.1 = 206 ∨ o.2.2.1 = 207) ∧ am_mm o.2.2.1 f g)
def am_N (fm : Value) (C : am_CR) (y : Nat) : Nat → am_F → am_F → Prop
  | 0, f, g => f = g
  | n + 1, f, g => ∃ f1, am_S1 fm C y f f1 ∧ am_N fm C y n f1 g
/-- a frame at its return: what it answers -/
def am_ret (ret : Option FieldType) (o : am_O) (stk : List Value) (r : Option Value) : Prop := match o.1 with
  | .ireturn => ∃ v ty, stk = [.int v] ∧ r = some (.int v) ∧ ret = some ty ∧ narrow ty (.int v) = .int v
  | .areturn => ∃ v ty, stk = [v] ∧ r = some v ∧ ret = some ty ∧ ((∃ n, ty = .object n) ∨ ∃ t, ty = .array t) ∧ (v = .null ∨ ∃ a, v = .ref a)
  | .return_ => stk = [] ∧ r = none ∧ ret = none
  | _ => False
def am_fl (vs : List Value) : am_L := vs.flatMap (fun v => if v.category = 2 then [some v, none] else [some v])
def am_ent (n : Nat) (vs : List Value) : am_L := am_fl vs ++ List.replicate (n - (am_fl vs).length) none
/-- the runs of the methods, up to a depth of calls -/
def am_R (fm : Value) : Nat → am_CR
  | 0 => fun _ _ _ _ _ _ _ => False
  | d + 1 => fun y As h r h' mc ms => ∃ n g o, (am_fl As).length ≤ (am_Mt y).2.2.1 ∧ am_N fm (am_R fm d) y n (0, am_ent (am_Mt y).2.2.1 As, [], h, 0, 0) g ∧ am_ops y g.1 = some o ∧ am_ret (am_Mt y).2.2.2.1 o g.2.2.1 r ∧ g.2.2.2 = (h', mc, ms)
theorem am_fl_get : ∀ (vs : List Value) (j i n : Nat) (v : Value) (b : Nat) (ext : Nat → Nat), am_get (am_fl vs ++ List.replicate n none) i = some v → (j + i, am_vl b am_X ext v) ∈ lv_args j (vs.map (am_vl b am_X ext))
  | [], j, i, n, v, b, ext, h => by
    exfalso
    simp only [am_fl, List.flatMap_nil, List.nil_append, am_get] at h
    rcases Nat.lt_or_ge i n with q | q
    · rw [List.getElem?_replicate_of_lt q] at h; cases h
    · rw [List.getElem?_eq_none (by simp; exact q)] at h; cases h
  | u :: vs, j, i, n, v, b, ext, h => by
    by_cases hc : u.category = 2
    · have e : am_fl (u :: vs) = some u :: none :: am_fl vs := by simp [am_fl, hc]
      rw [e] at h
      show _ ∈ (j, am_vl b am_X ext u) :: lv_args (if (am_vl b am_X ext u).category = 2 then j + 2 else j + 1) (vs.map (am_vl b am_X ext))
      rw [am_vl_cat, if_pos hc]
      match i, h with
      | 0, h => cases h; exact List.mem_cons_self
      | 1, h => cases h
      | i + 2, h =>
        have := am_fl_get vs (j + 2) i n v b ext h
        rw [show j + (i + 2) = j + 2 + i by omega]
        exact List.mem_cons_of_mem _ this
    · have e : am_fl (u :: vs) = some u :: am_fl vs := by simp [am_fl, hc]
      rw [e] at h
      show _ ∈ (j, am_vl b am_X ext u) :: lv_args (if (am_vl b am_X ext u).category = 2 then j + 2 else j + 1) (vs.map (am_vl b am_X ext))
      rw [am_vl_cat, if_neg hc]
      match i, h with
      | 0, h => cases h; exact List.mem_cons_self
      | i + 1, h =>
        have := am_fl_get vs (j + 1) i n v b ext h
        rw [show j + (i + 1) = j + 1 + i by omega]
        exact List.mem_cons_of_mem _ this
theorem am_sl_len (b : Nat) (ext : Nat → Nat) : ∀ vs : List Value, (lg_sl (vs.map (am_vl b am_X ext))).length = (am_fl vs).length
  | [] => rfl
  | u :: vs => by
    have ih := am_sl_len b ext vs
    simp only [lg_sl, am_fl, List.map_cons, List.flatMap_cons, List.length_append, am_vl_cat] at ih ⊢
    rw [ih]
    by_cases hc : u.category = 2 <;> simp [hc]
theorem am_lc_ent {b : Nat} {ext : Nat → Nat} {ls : Array Slot} {n : Nat} {vs : List Value} (hn : (am_fl vs).length ≤ n) (h : lv_has ls n (lv_args 0 (vs.map (am_vl b am_X ext)))) : am_lc b am_X ext ls n (am_ent n vs) := by
  refine ⟨by simp [am_ent]; omega, am_has_sub h fun q hq => ?_⟩
  obtain ⟨v, h1, h2⟩ := am_pr_mem.mp hq
  have := am_fl_get vs 0 q.1 _ v b ext h1
  rw [Nat.zero_add, ← h2] at this
  exact this
theorem am_lc_le {b : Nat} {ext : Nat → Nat} {ls : Array Slot} {n : Nat} {l l' : am_L} (h : am_lc b am_X ext ls n l) (hle : am_le l' l) : am_lc b am_X ext ls n l' := by
  refine ⟨hle.1.trans h.1, am_has_sub h.2 fun q hq => ?_⟩
  obtain ⟨v, h1, h2⟩ := am_pr_mem.mp hq
  exact am_pr_mem.mpr ⟨v, hle.2 _ _ h1, h2⟩
theorem am_S1_mono {fm : Value} {C : am_CR} {y : Nat} {f g : am_F} (h : am_S1 fm C y f g) : f.2.2.2.2.1 ≤ g.2.2.2.2.1 ∧ f.2.2.2.2.2 ≤ g.2.2.2.2.2 := by
  rcases h with ⟨o, _, h⟩ | ⟨o, As, rest, r, h', mc, ms, _, _, _, _, _, _, _, rfl⟩ | ⟨l', _, rfl⟩ | ⟨o, i, _, _, _, n, dp, sp, a1, a0, rest, n0, n1, x0, x1, _, _, _, _, _, _, _, _, _, _, rfl⟩ | ⟨o, i, _, _, _, x, y, rest, _, _, rfl⟩
  · exact am_mono h
  · exact ⟨Nat.le_add_right _ _, Nat.le_add_right _ _⟩
  · exact ⟨Nat.le_refl _, Nat.le_refl _⟩
  · exact ⟨Nat.le_refl _, Nat.le_refl _⟩
  · exact ⟨Nat.le_refl _, Nat.le_refl _⟩
theorem am_N_mono {fm : Value} {C : am_CR} {y : Nat} : ∀ (n : Nat) {f g : am_F}, am_N fm C y n f g → f.2.2.2.2.1 ≤ g.2.2.2.2.1 ∧ f.2.2.2.2.2 ≤ g.2.2.2.2.2
  | 0, f, g, h => by cases h; exact ⟨Nat.le_refl _, Nat.le_refl _⟩
  | n + 1, f, g, ⟨f1, h1, h2⟩ => ⟨Nat.le_trans (am_S1_mono h1).1 (am_N_mono n h2).1, Nat.le_trans (am_S1_mono h1).2 (am_N_mono n h2).2⟩
