/-! the mathematics; written by wip/whole/m2parts.py -/
theorem REL_out {C R : zr_Z} (h : REL C R) {V : List Int32} (hV : V.length ≤ 18000) : REL (cset C V) (rset R V) := by
  obtain ⟨⟨T, D, h1⟩, h2, h3, h4, h5⟩ := h
  refine ⟨⟨T, D, IT_part h1 (cset_row C V (by decide)) (cset_row C V (by decide)) (cset_row C V (by decide)) (fun j hj i => rset_rv R V (by omega) i) (rset_zf R V (by decide)) (rset_zf R V (by decide))⟩, RDY_keep h2 (cset_row C V (by decide)) (fun i => rset_rv R V (by decide) i), ⟨?_, ?_, fun i hi => ?_⟩,
    NDS_keep h4 (fun id i1 i2 => cset_row C V (by omega)) rfl (fun j hj i => rset_rv R V (by omega) i) (rset_zf R V (by decide)) (rset_zf R V (by decide)), FLT_keep h5 rfl rfl (rset_zf R V (by decide)) (rset_zf R V (by decide))⟩
  · rw [cset_out]; exact hV
  · rw [cset_out, rset_n]
  · rw [cset_out] at hi ⊢; exact rset_at R V hi
theorem write_rel {C R : zr_Z} (h : REL C R) :
    (∃ a C' R', o_4 C = some (a, C') ∧ o_178 R = some (a, R') ∧ zf R' 0 = 0 ∧ REL C' R' ∧ C'.2.2 = C.2.2 ∧ RF R R') ∨
    (f_44 C = -1 ∧ ∃ R', o_178 R = some (0, R') ∧ zf R' 0 = 1 ∧ REL C R' ∧ RF R R') := by
  obtain ⟨N, pl, n1, n2⟩ := h.2.2.2.1
  rcases n2 with ⟨a, b, c, d⟩ | ⟨a, b, c⟩
  · obtain ⟨V, v1, v2, v3⟩ := write_both n1 a b c d
    exact Or.inl ⟨_, _, _, v1, v2, (rset_zf _ V (by decide)).trans (zf_same _ _ _), REL_out (REL_0 h 0) v3, rfl, rfl, rfl, rfl⟩
  · obtain ⟨e1, e2⟩ := write_none (C := C) (R := R) a b
    exact Or.inr ⟨e1, _, e2, zf_same _ _ _, REL_0 h 1, RF_0 R 1⟩
theorem plain_rel {C R : zr_Z} (h : REL C R) (k : Int32) :
    (∃ a C' R', o_3 C k = some (a, C') ∧ o_170 R k = some (a, R') ∧ zf R' 0 = 0 ∧ REL C' R' ∧ C'.2.2 = C.2.2 ∧ RF R R') ∨
    (f_45 C k = false ∧ ∃ R', o_170 R k = some (0, R') ∧ zf R' 0 = 1 ∧ REL C R' ∧ RF R R') := by
  obtain ⟨N, pl, n1, n2⟩ := h.2.2.2.1
  rcases has_node n1 (nds_cases n2) k with ⟨a, b, c⟩ | ⟨j, hj, rfl, h5, a, b⟩
  · exact Or.inr ⟨a, _, plain_none b, zf_same _ _ _, REL_0 h 1, RF_0 R 1⟩
  · rcases n2 with ⟨-, hr, hN, hp⟩ | g
    · obtain ⟨V, v1, v2, v3⟩ := plain_both n1 h5 hr hN hp hj
      exact Or.inl ⟨_, _, _, v1, v2, (rset_zf _ V (by decide)).trans (zf_same _ _ _), REL_out (REL_0 h 0) v3, rfl, rfl, rfl, rfl⟩
    · rw [g.2.2] at hj; exact absurd hj (by simp)
