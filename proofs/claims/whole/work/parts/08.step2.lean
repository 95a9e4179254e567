/-! ONE INSTRUCTION OF THE ABSTRACT MACHINE is one of the machine -/
section AmInv
variable {b X : Nat} {ext : Nat → Nat} {h : am_H} {pc : Nat} {loc : am_L} {stk : List Value} {k z : Nat} {f : am_F}
theorem am_getf_inv {o : am_O} (hf : am_getf o pc loc stk h k z = some f) : ∃ a r fs v, stk = .ref a :: r ∧ h.1 a = some (.inr (o.2.2.1, fs)) ∧ fs[o.2.2.2.1]? = some v ∧ f = (pc + 3, loc, v :: r, h, k, z) := by
  unfold am_getf at hf; split at hf
  · split at hf
    · rename_i ci fs ha
      split at hf
      · rename_i e; subst e
        split at hf
        · rename_i v hv; exact ⟨_, _, fs, v, rfl, ha, hv, (Option.some.inj hf).symm⟩
        · cases hf
      · cases hf
    · cases hf
  · cases hf
theorem am_putf_inv {ty : Nat → Nat → FieldType} {o : am_O} (hf : am_putf X ty o pc loc stk h k z = some f) : ∃ v a r fs, stk = v :: .ref a :: r ∧ h.1 a = some (.inr (o.2.2.1, fs)) ∧ X ≤ a ∧ o.2.2.2.1 < fs.length ∧ am_fit (ty o.2.2.1 o.2.2.2.1) v = true ∧ f = (pc + 3, loc, r, am_up h a (.inr (o.2.2.1, fs.set o.2.2.2.1 v)), k, z) := by
  unfold am_putf at hf; split at hf
  · split at hf
    · rename_i ci fs ha
      split at hf
      · rename_i e; obtain ⟨e, e2, e3, e4⟩ := e; subst e
        exact ⟨_, _, _, fs, rfl, ha, e2, e3, e4, (Option.some.inj hf).symm⟩
      · cases hf
    · cases hf
  · cases hf
theorem am_alen_inv (hf : am_alen pc loc stk h k z = some f) : ∃ a r q x, stk = .ref a :: r ∧ h.1 a = some (.inl (q, x)) ∧ q < 4 ∧ f = (pc + 1, loc, .int (Int32.ofNat x.1) :: r, h, k, z) := by
  unfold am_alen at hf; split at hf
  · split at hf
    · rename_i ha
      split at hf
      · rename_i hq; exact ⟨_, _, _, _, rfl, ha, hq, (Option.some.inj hf).symm⟩
      · cases hf
    · cases hf
  · cases hf
theorem am_iald_inv (hf : am_iald pc loc stk h k z = some f) : ∃ i a r n g, stk = .int i :: .ref a :: r ∧ h.1 a = some (.inl (0, n, .inl g)) ∧ ¬ (i < 0 ∨ n ≤ i.toNatClampNeg) ∧ f = (pc + 1, loc, .int (g i.toNatClampNeg) :: r, h, k, z) := by
  unfold am_iald at hf; split at hf
  · split at hf
    · rename_i ha
      split at hf
      · rename_i e; obtain ⟨e, e2⟩ := e; subst e
        exact ⟨_, _, _, _, _, rfl, ha, e2, (Option.some.inj hf).symm⟩
      · cases hf
    · cases hf
  · cases hf
theorem am_bald_inv (hf : am_bald pc loc stk h k z = some f) : ∃ i a r q n g, stk = .int i :: .ref a :: r ∧ (q = 2 ∨ q = 3) ∧ h.1 a = some (.inl (q, n, .inl g)) ∧ ¬ (i < 0 ∨ n ≤ i.toNatClampNeg) ∧ f = (pc + 1, loc, .int (g i.toNatClampNeg) :: r, h, k, z) := by
  unfold am_bald at hf; split at hf
  · split at hf
    · rename_i ha
      split at hf
      · rename_i e; obtain ⟨e, e2⟩ := e
        exact ⟨_, _, _, _, _, _, rfl, e, ha, e2, (Option.some.inj hf).symm⟩
      · cases hf
    · cases hf
  · cases hf
theorem am_lald_inv (hf : am_lald pc loc stk h k z = some f) : ∃ i a r n g, stk = .int i :: .ref a :: r ∧ h.1 a = some (.inl (1, n, .inr (.inl g))) ∧ ¬ (i < 0 ∨ n ≤ i.toNatClampNeg) ∧ f = (pc + 1, loc, .long (g i.toNatClampNeg) :: r, h, k, z) := by
  unfold am_lald at hf; split at hf
  · split at hf
    · rename_i ha
      split at hf
      · rename_i e; obtain ⟨e, e2⟩ := e; subst e
        exact ⟨_, _, _, _, _, rfl, ha, e2, (Option.some.inj hf).symm⟩
      · cases hf
    · cases hf
  · cases hf
theorem am_iast_inv (hf : am_iast X pc loc stk h k z = some f) : ∃ x i a r n g, stk = .int x :: .int i :: .ref a :: r ∧ h.1 a = some (.inl (0, n, .inl g)) ∧ X ≤ a ∧ ¬ (i < 0 ∨ n ≤ i.toNatClampNeg) ∧ f = (pc + 1, loc, r, am_up h a (.inl (0, n, .inl (upd g i.toNatClampNeg x))), k, z) := by
  unfold am_iast at hf; split at hf
  · split at hf
    · rename_i ha
      split at hf
      · rename_i e; obtain ⟨e, e1, e2⟩ := e; subst e
        exact ⟨_, _, _, _, _, _, rfl, ha, e1, e2, (Option.some.inj hf).symm⟩
      · cases hf
    · cases hf
  · cases hf
theorem am_bast_inv (hf : am_bast X pc loc stk h k z = some f) : ∃ x i a r n g, stk = .int x :: .int i :: .ref a :: r ∧ h.1 a = some (.inl (3, n, .inl g)) ∧ X ≤ a ∧ (x = 0 ∨ x = 1) ∧ ¬ (i < 0 ∨ n ≤ i.toNatClampNeg) ∧ f = (pc + 1, loc, r, am_up h a (.inl (3, n, .inl (upd g i.toNatClampNeg x))), k, z) := by
  unfold am_bast at hf; split at hf
  · split at hf
    · rename_i ha
      split at hf
      · rename_i e; obtain ⟨e, e1, e2, e3⟩ := e; subst e
        exact ⟨_, _, _, _, _, _, rfl, ha, e1, e2, e3, (Option.some.inj hf).symm⟩
      · cases hf
    · cases hf
  · cases hf
theorem am_last_inv (hf : am_last X pc loc stk h k z = some f) : ∃ x i a r n g, stk = .long x :: .int i :: .ref a :: r ∧ h.1 a = some (.inl (1, n, .inr (.inl g))) ∧ X ≤ a ∧ ¬ (i < 0 ∨ n ≤ i.toNatClampNeg) ∧ f = (pc + 1, loc, r, am_up h a (.inl (1, n, .inr (.inl (vp_updL g i.toNatClampNeg x)))), k, z) := by
  unfold am_last at hf; split at hf
  · split at hf
    · rename_i ha
      split at hf
      · rename_i e; obtain ⟨e, e1, e2⟩ := e; subst e
        exact ⟨_, _, _, _, _, _, rfl, ha, e1, e2, (Option.some.inj hf).symm⟩
      · cases hf
    · cases hf
  · cases hf
theorem am_newa_inv {o : am_O} (hf : am_newa o pc loc stk h k z = some f) : ∃ n r, stk = .int n :: r ∧ ¬ n < 0 ∧ n.toNatClampNeg ≤ 134217728 ∧
    ((o.2.2.1 = 0 ∧ f = (pc + 2, loc, .ref h.2 :: r, am_new h (.inl (0, n.toNatClampNeg, .inl (fun _ => 0))), k + 1, z + n.toNatClampNeg))
    ∨ (o.2.2.1 = 1 ∧ n.toNatClampNeg ≤ 67108864 ∧ f = (pc + 2, loc, .ref h.2 :: r, am_new h (.inl (1, n.toNatClampNeg, .inr (.inl (fun _ => 0)))), k + 1, z + n.toNatClampNeg))
    ∨ (o.2.2.1 = 3 ∧ f = (pc + 2, loc, .ref h.2 :: r, am_new h (.inl (3, n.toNatClampNeg, .inl (fun _ => 0))), k + 1, z + n.toNatClampNeg))) := by
  unfold am_newa at hf; split at hf
  · rename_i n r
    split at hf
    · cases hf
    · rename_i hn
      refine ⟨n, r, rfl, fun q => hn (Or.inl q), Nat.le_of_not_lt fun q => hn (Or.inr q), ?_⟩
      split at hf
      · rename_i e; exact Or.inl ⟨e, (Option.some.inj hf).symm⟩
      · rename_i e
        split at hf
        · cases hf
        · rename_i q; exact Or.inr (Or.inl ⟨e, Nat.le_of_not_lt q, (Option.some.inj hf).symm⟩)
      · rename_i e; exact Or.inr (Or.inr ⟨e, (Option.some.inj hf).symm⟩)
      · cases hf
  · cases hf
theorem am_oinit_inv (hf : am_oinit pc loc stk h k z = some f) : ∃ a r, stk = .ref a :: r ∧ (r.map fun v => v.category).sum ≤ 8 ∧ f = (pc + 3, loc, r, h, k, z) := by
  unfold am_oinit at hf; split at hf
  · split at hf
    · rename_i e; exact ⟨_, _, rfl, e, (Option.some.inj hf).symm⟩
    · cases hf
  · cases hf
theorem am_ifn_inv {bb : Bool} {o : am_O} (hf : am_ifn bb o pc loc stk h k z = some f) : (∃ a r, stk = .ref a :: r ∧ f = (bif bb then pc + 3 else o.2.2.1, loc, r, h, k, z)) ∨ ∃ r, stk = .null :: r ∧ f = (bif bb then o.2.2.1 else pc + 3, loc, r, h, k, z) := by
  unfold am_ifn at hf; split at hf
  · exact Or.inl ⟨_, _, rfl, (Option.some.inj hf).symm⟩
  · exact Or.inr ⟨_, rfl, (Option.some.inj hf).symm⟩
  · cases hf
theorem am_i2l_inv (hf : am_i2l pc loc stk h k z = some f) : ∃ x r, stk = .int x :: r ∧ f = (pc + 1, loc, .long x.toInt64 :: r, h, k, z) := by
  unfold am_i2l at hf; split at hf
  · exact ⟨_, _, rfl, (Option.some.inj hf).symm⟩
  · cases hf
theorem am_l2i_inv (hf : am_l2i pc loc stk h k z = some f) : ∃ x r, stk = .long x :: r ∧ f = (pc + 1, loc, .int x.toInt32 :: r, h, k, z) := by
  unfold am_l2i at hf; split at hf
  · exact ⟨_, _, rfl, (Option.some.inj hf).symm⟩
  · cases hf
theorem am_land_inv (hf : am_land pc loc stk h k z = some f) : ∃ x y r, stk = .long y :: .long x :: r ∧ f = (pc + 1, loc, .long (x &&& y) :: r, h, k, z) := by
  unfold am_land at hf; split at hf
  · exact ⟨_, _, _, rfl, (Option.some.inj hf).symm⟩
  · cases hf
theorem am_lshr_inv (hf : am_lshr pc loc stk h k z = some f) : ∃ x y r, stk = .int y :: .long x :: r ∧ f = (pc + 1, loc, .long (x >>> (y.toInt64 &&& 63)) :: r, h, k, z) := by
  unfold am_lshr at hf; split at hf
  · exact ⟨_, _, _, rfl, (Option.some.inj hf).symm⟩
  · cases hf
theorem am_lcmp_inv (hf : am_lcmp pc loc stk h k z = some f) : ∃ x y r, stk = .long y :: .long x :: r ∧ f = (pc + 1, loc, .int (lg_cmp x y) :: r, h, k, z) := by
  unfold am_lcmp at hf; split at hf
  · exact ⟨_, _, _, rfl, (Option.some.inj hf).symm⟩
  · cases hf
end AmInv
