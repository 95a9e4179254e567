/-! ONE INSTRUCTION, simple ones: the stack, locals, numbers, branches -/
section AmOne
variable {p : Program} {l : Launch} {e : Env} {R : Room} {s : State} {m : MethodId} {args : Array Value} {below : List Frame} {meth : Method} {c : Code} {H : Heap} {locs : List Loc} {cells slots : Nat} {Q : State → Prop}
variable {b X : Nat} {ext : Nat → Nat} {h : am_H} {cc : ByteArray} {pc : Nat} {ls : Array Slot} {nL : Nat} {loc : am_L} {stk : List Value} {k z : Nat} {f : am_F}
theorem am_push_inv {o : am_O} (hf : am_push o pc loc stk h k z = some f) : f = (pc + o.2.1, loc, o.2.2.2.2 :: stk, h, k, z) := by
  unfold am_push at hf; exact (Option.some.inj hf).symm
theorem am_i1_inv {op : Int32 → Int32} (hf : am_i1 op pc loc stk h k z = some f) : ∃ x r, stk = .int x :: r ∧ f = (pc + 1, loc, .int (op x) :: r, h, k, z) := by
  unfold am_i1 at hf; split at hf
  · exact ⟨_, _, rfl, (Option.some.inj hf).symm⟩
  · cases hf
theorem am_i2_inv {op : Int32 → Int32 → Int32} (hf : am_i2 op pc loc stk h k z = some f) : ∃ x y r, stk = .int y :: .int x :: r ∧ f = (pc + 1, loc, .int (op x y) :: r, h, k, z) := by
  unfold am_i2 at hf; split at hf
  · exact ⟨_, _, _, rfl, (Option.some.inj hf).symm⟩
  · cases hf
theorem am_i3_inv {op : Int32 → Int32 → Int32} (hf : am_i3 op pc loc stk h k z = some f) : ∃ x y r, stk = .int y :: .int x :: r ∧ ¬ y = 0 ∧ f = (pc + 1, loc, .int (op x y) :: r, h, k, z) := by
  unfold am_i3 at hf; split at hf
  · split at hf
    · cases hf
    · rename_i hy; exact ⟨_, _, _, rfl, hy, (Option.some.inj hf).symm⟩
  · cases hf
theorem am_if1_inv {t : Int32 → Prop} {dt : ∀ x, Decidable (t x)} {o : am_O} (hf : am_if1 t dt o pc loc stk h k z = some f) : ∃ x r, stk = .int x :: r ∧ f = (@ite _ (t x) (dt x) o.2.2.1 (pc + 3), loc, r, h, k, z) := by
  unfold am_if1 at hf; split at hf
  · exact ⟨_, _, rfl, (Option.some.inj hf).symm⟩
  · cases hf
theorem am_if2_inv {t : Int32 → Int32 → Prop} {dt : ∀ x y, Decidable (t x y)} {o : am_O} (hf : am_if2 t dt o pc loc stk h k z = some f) : ∃ x y r, stk = .int y :: .int x :: r ∧ f = (@ite _ (t x y) (dt x y) o.2.2.1 (pc + 3), loc, r, h, k, z) := by
  unfold am_if2 at hf; split at hf
  · exact ⟨_, _, _, rfl, (Option.some.inj hf).symm⟩
  · cases hf
theorem am_ldI_inv {o : am_O} (hf : am_ldI o pc loc stk h k z = some f) : ∃ x, am_get loc o.2.2.1 = some (.int x) ∧ f = (pc + o.2.1, loc, .int x :: stk, h, k, z) := by
  unfold am_ldI at hf; split at hf
  · rename_i x hx; exact ⟨x, hx, (Option.some.inj hf).symm⟩
  · cases hf
theorem am_ldL_inv {o : am_O} (hf : am_ldL o pc loc stk h k z = some f) : ∃ x, am_get loc o.2.2.1 = some (.long x) ∧ f = (pc + o.2.1, loc, .long x :: stk, h, k, z) := by
  unfold am_ldL at hf; split at hf
  · rename_i x hx; exact ⟨x, hx, (Option.some.inj hf).symm⟩
  · cases hf
theorem am_ldA_inv {o : am_O} (hf : am_ldA o pc loc stk h k z = some f) : (∃ x, am_get loc o.2.2.1 = some (.ref x) ∧ f = (pc + o.2.1, loc, .ref x :: stk, h, k, z)) ∨ (am_get loc o.2.2.1 = some .null ∧ f = (pc + o.2.1, loc, .null :: stk, h, k, z)) := by
  unfold am_ldA at hf; split at hf
  · rename_i x hx; exact Or.inl ⟨x, hx, (Option.some.inj hf).symm⟩
  · rename_i hx; exact Or.inr ⟨hx, (Option.some.inj hf).symm⟩
  · cases hf
theorem am_stI_inv {o : am_O} (hf : am_stI o pc loc stk h k z = some f) : ∃ x r, stk = .int x :: r ∧ am_cl loc o.2.2.1 = true ∧ o.2.2.1 < loc.length ∧ f = (pc + o.2.1, loc.set o.2.2.1 (some (.int x)), r, h, k, z) := by
  unfold am_stI at hf; split at hf
  · split at hf
    · rename_i hc; exact ⟨_, _, rfl, hc.1, hc.2, (Option.some.inj hf).symm⟩
    · cases hf
  · cases hf
theorem am_stL_inv {o : am_O} (hf : am_stL o pc loc stk h k z = some f) : ∃ x r, stk = .long x :: r ∧ am_cl loc o.2.2.1 = true ∧ o.2.2.1 + 1 < loc.length ∧ f = (pc + o.2.1, (loc.set o.2.2.1 (some (.long x))).set (o.2.2.1 + 1) none, r, h, k, z) := by
  unfold am_stL at hf; split at hf
  · split at hf
    · rename_i hc; exact ⟨_, _, rfl, hc.1, hc.2, (Option.some.inj hf).symm⟩
    · cases hf
  · cases hf
theorem am_stA_inv {o : am_O} (hf : am_stA o pc loc stk h k z = some f) : am_cl loc o.2.2.1 = true ∧ o.2.2.1 < loc.length ∧ ((∃ x r, stk = .ref x :: r ∧ f = (pc + o.2.1, loc.set o.2.2.1 (some (.ref x)), r, h, k, z)) ∨ ∃ r, stk = .null :: r ∧ f = (pc + o.2.1, loc.set o.2.2.1 (some .null), r, h, k, z)) := by
  unfold am_stA at hf; split at hf
  · split at hf
    · rename_i hc; exact ⟨hc.1, hc.2, Or.inl ⟨_, _, rfl, (Option.some.inj hf).symm⟩⟩
    · cases hf
  · split at hf
    · rename_i hc; exact ⟨hc.1, hc.2, Or.inr ⟨_, rfl, (Option.some.inj hf).symm⟩⟩
    · cases hf
  · cases hf
theorem am_inc_inv {o : am_O} (hf : am_inc o pc loc stk h k z = some f) : ∃ x d, am_get loc o.2.2.1 = some (.int x) ∧ o.2.2.2.2 = .int d ∧ am_cl loc o.2.2.1 = true ∧ f = (pc + 3, loc.set o.2.2.1 (some (.int (x + d))), stk, h, k, z) := by
  unfold am_inc at hf; split at hf
  · rename_i x d hx hd
    split at hf
    · rename_i hc; exact ⟨x, d, hx, hd, hc, (Option.some.inj hf).symm⟩
    · cases hf
  · cases hf
theorem am_dup_inv (hf : am_dup pc loc stk h k z = some f) : ∃ v r, stk = v :: r ∧ v.category = 1 ∧ f = (pc + 1, loc, v :: v :: r, h, k, z) := by
  unfold am_dup at hf; split at hf
  · split at hf
    · rename_i hc; exact ⟨_, _, rfl, hc, (Option.some.inj hf).symm⟩
    · cases hf
  · cases hf
theorem am_pop_inv (hf : am_pop pc loc stk h k z = some f) : ∃ v r, stk = v :: r ∧ v.category = 1 ∧ f = (pc + 1, loc, r, h, k, z) := by
  unfold am_pop at hf; split at hf
  · split at hf
    · rename_i hc; exact ⟨_, _, rfl, hc, (Option.some.inj hf).symm⟩
    · cases hf
  · cases hf
theorem am_dupx1_inv (hf : am_dupx1 pc loc stk h k z = some f) : ∃ v u r, stk = v :: u :: r ∧ v.category = 1 ∧ u.category = 1 ∧ f = (pc + 1, loc, v :: u :: v :: r, h, k, z) := by
  unfold am_dupx1 at hf; split at hf
  · split at hf
    · rename_i hc; exact ⟨_, _, _, rfl, hc.1, hc.2, (Option.some.inj hf).symm⟩
    · cases hf
  · cases hf
theorem am_dup2_inv (hf : am_dup2 pc loc stk h k z = some f) : ∃ v u r, stk = v :: u :: r ∧ v.category = 1 ∧ u.category = 1 ∧ f = (pc + 1, loc, v :: u :: v :: u :: r, h, k, z) := by
  unfold am_dup2 at hf; split at hf
  · split at hf
    · rename_i hc; exact ⟨_, _, _, rfl, hc.1, hc.2, (Option.some.inj hf).symm⟩
    · cases hf
  · cases hf
theorem am_swI_inv {t : Int32 → Option Nat} (hf : am_swI t loc stk h k z = some f) : ∃ x r q, stk = .int x :: r ∧ t x = some q ∧ f = (q, loc, r, h, k, z) := by
  unfold am_swI at hf; split at hf
  · unfold am_sw at hf; split at hf
    · rename_i q hq; exact ⟨_, _, q, rfl, hq, (Option.some.inj hf).symm⟩
    · cases hf
  · cases hf
/-- from W at a test's two ways to W at the way that it takes -/
theorem am_two {t : Prop} [d : Decidable t] {g1 g2 : Nat} {st : List Value} (hk : W p l e R s m args below meth c H locs cells slots Q (F0 m (if t then g1 else g2) ls st)) :
    (t → W p l e R s m args below meth c H locs cells slots Q (F0 m g1 ls st)) ∧ (¬ t → W p l e R s m args below meth c H locs cells slots Q (F0 m g2 ls st)) :=
  ⟨fun q => by rw [if_pos q] at hk; exact hk, fun q => by rw [if_neg q] at hk; exact hk⟩
end AmOne
