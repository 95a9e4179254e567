/-! an instruction makes cells, it never takes one back -/
section AmMono
variable {b X : Nat} {ext : Nat → Nat} {h : am_H} {pc : Nat} {loc : am_L} {stk : List Value} {k z : Nat} {f : am_F}
set_option maxHeartbeats 4000000 in
theorem am_mono {st : Nat → Value} {ty : Nat → Nat → FieldType} {fs : Nat → List Value} {o : am_O} (hf : am_stp X st ty fs o pc loc stk h k z = some f) : k ≤ f.2.2.2.2.1 ∧ z ≤ f.2.2.2.2.2 := by
  unfold am_stp at hf
  split at hf
  all_goals first
    | (obtain rfl := am_push_inv hf; exact ⟨Nat.le_refl _, Nat.le_refl _⟩)
    | (obtain ⟨_, _, rfl⟩ := am_ldI_inv hf; exact ⟨Nat.le_refl _, Nat.le_refl _⟩)
    | (obtain ⟨_, _, rfl⟩ := am_ldL_inv hf; exact ⟨Nat.le_refl _, Nat.le_refl _⟩)
    | (rcases am_ldA_inv hf with ⟨_, _, rfl⟩ | ⟨_, rfl⟩ <;> exact ⟨Nat.le_refl _, Nat.le_refl _⟩)
    | (obtain ⟨_, _, _, _, _, rfl⟩ := am_stI_inv hf; exact ⟨Nat.le_refl _, Nat.le_refl _⟩)
    | (obtain ⟨_, _, _, _, _, rfl⟩ := am_stL_inv hf; exact ⟨Nat.le_refl _, Nat.le_refl _⟩)
    | (obtain ⟨_, _, ⟨_, _, _, rfl⟩ | ⟨_, _, rfl⟩⟩ := am_stA_inv hf <;> exact ⟨Nat.le_refl _, Nat.le_refl _⟩)
    | (obtain ⟨_, _, _, _, _, rfl⟩ := am_inc_inv hf; exact ⟨Nat.le_refl _, Nat.le_refl _⟩)
    | (obtain ⟨_, _, _, rfl⟩ := am_i1_inv hf; exact ⟨Nat.le_refl _, Nat.le_refl _⟩)
    | (obtain ⟨_, _, _, _, rfl⟩ := am_i2_inv hf; exact ⟨Nat.le_refl _, Nat.le_refl _⟩)
    | (obtain ⟨_, _, _, _, _, rfl⟩ := am_i3_inv hf; exact ⟨Nat.le_refl _, Nat.le_refl _⟩)
    | (obtain ⟨_, _, _, rfl⟩ := am_if1_inv hf; exact ⟨Nat.le_refl _, Nat.le_refl _⟩)
    | (obtain ⟨_, _, _, _, rfl⟩ := am_if2_inv hf; exact ⟨Nat.le_refl _, Nat.le_refl _⟩)
    | (obtain ⟨_, _, _, _, rfl⟩ := am_dup_inv hf; exact ⟨Nat.le_refl _, Nat.le_refl _⟩)
    | (obtain ⟨_, _, _, _, rfl⟩ := am_pop_inv hf; exact ⟨Nat.le_refl _, Nat.le_refl _⟩)
    | (obtain ⟨_, _, _, _, _, _, rfl⟩ := am_dupx1_inv hf; exact ⟨Nat.le_refl _, Nat.le_refl _⟩)
    | (obtain ⟨_, _, _, _, _, _, rfl⟩ := am_dup2_inv hf; exact ⟨Nat.le_refl _, Nat.le_refl _⟩)
    | (obtain ⟨_, _, _, _, _, rfl⟩ := am_swI_inv hf; exact ⟨Nat.le_refl _, Nat.le_refl _⟩)
    | (obtain ⟨_, _, _, _, _, _, _, rfl⟩ := am_getf_inv hf; exact ⟨Nat.le_refl _, Nat.le_refl _⟩)
    | (obtain ⟨_, _, _, _, _, _, _, _, _, rfl⟩ := am_putf_inv hf; exact ⟨Nat.le_refl _, Nat.le_refl _⟩)
    | (obtain ⟨_, _, _, _, _, _, _, rfl⟩ := am_alen_inv hf; exact ⟨Nat.le_refl _, Nat.le_refl _⟩)
    | (obtain ⟨_, _, _, _, _, _, _, _, rfl⟩ := am_iald_inv hf; exact ⟨Nat.le_refl _, Nat.le_refl _⟩)
    | (obtain ⟨_, _, _, _, _, _, _, _, _, _, rfl⟩ := am_bald_inv hf; exact ⟨Nat.le_refl _, Nat.le_refl _⟩)
    | (obtain ⟨_, _, _, _, _, _, _, _, rfl⟩ := am_lald_inv hf; exact ⟨Nat.le_refl _, Nat.le_refl _⟩)
    | (obtain ⟨_, _, _, _, _, _, _, _, _, _, rfl⟩ := am_iast_inv hf; exact ⟨Nat.le_refl _, Nat.le_refl _⟩)
    | (obtain ⟨_, _, _, _, _, _, _, _, _, _, _, rfl⟩ := am_bast_inv hf; exact ⟨Nat.le_refl _, Nat.le_refl _⟩)
    | (obtain ⟨_, _, _, _, _, _, _, _, _, _, rfl⟩ := am_last_inv hf; exact ⟨Nat.le_refl _, Nat.le_refl _⟩)
    | (obtain ⟨_, _, _, _, _, ⟨_, rfl⟩ | ⟨_, _, rfl⟩ | ⟨_, rfl⟩⟩ := am_newa_inv hf <;> exact ⟨Nat.le_succ _, Nat.le_add_right _ _⟩)
    | (rcases am_ifn_inv hf with ⟨_, _, _, rfl⟩ | ⟨_, _, rfl⟩ <;> exact ⟨Nat.le_refl _, Nat.le_refl _⟩)
    | (obtain ⟨_, _, _, rfl⟩ := am_i2l_inv hf; exact ⟨Nat.le_refl _, Nat.le_refl _⟩)
    | (obtain ⟨_, _, _, rfl⟩ := am_l2i_inv hf; exact ⟨Nat.le_refl _, Nat.le_refl _⟩)
    | (obtain ⟨_, _, _, _, rfl⟩ := am_land_inv hf; exact ⟨Nat.le_refl _, Nat.le_refl _⟩)
    | (obtain ⟨_, _, _, _, rfl⟩ := am_lshr_inv hf; exact ⟨Nat.le_refl _, Nat.le_refl _⟩)
    | (obtain ⟨_, _, _, _, rfl⟩ := am_lcmp_inv hf; exact ⟨Nat.le_refl _, Nat.le_refl _⟩)
    | (split at hf
       · obtain ⟨_, _, _, _, rfl⟩ := am_oinit_inv hf; exact ⟨Nat.le_refl _, Nat.le_refl _⟩
       · cases hf)
    | (cases hf; exact ⟨Nat.le_refl _, Nat.le_refl _⟩)
    | (cases hf; exact ⟨Nat.le_succ _, Nat.le_add_right _ _⟩)
    | (cases hf; done)
end AmMono
