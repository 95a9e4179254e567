/-! the mathematics; written by wip/whole/m2parts.py -/
def q_14 (Z : zr_Z) : Option zr_Z := (Option.bind (o_54 Z) fun u1 => (if ¬ (zc u1 2) = 0 then some (f_43 (zsc u1 4 (zc u1 2))) else (Option.bind (o_46 (zsc u1 4 (zc u1 2))) fun u4 => (if u4.1 = true then none else some (f_43 (zsc u4.2 4 3))))))
theorem IT_rows {C R C' R' : zr_Z} {T : List Int32} {D : List (List Int32)} (h : IT C R T D) (hC : ∀ id, id < 115 → C'.1 id = C.1 id) (hR : ∀ j, j < 142 ∨ j = 173 → ∀ i, rv R' j i = rv R j i) (h3 : zf R' 3 = zf R 3) (h7 : zf R' 7 = zf R 7) : IT C' R' T D := by
  obtain ⟨a1, a2, a3, a4, a5⟩ := h
  obtain ⟨d1, d2, d3, d4, d5, d6, d7⟩ := a5
  refine ⟨(hC 61 (by omega)).trans a1, ⟨h3.trans a2.1, fun i hi => (hR 137 (by omega) i).trans (a2.2 i hi)⟩, a3, fun i hi => (hR 173 (by omega) i).trans (a4 i hi), d1, d2, (hC 83 (by omega)).trans d3, (hC 85 (by omega)).trans d4, h7.trans d5, fun d hd => ?_, fun d k hd hk => ?_⟩
  · rw [hR 140 (by omega)]; exact d6 d hd
  · rw [hR 139 (by omega)]; exact d7 d k hd hk
theorem CN_nil {C : zr_Z} (h : ∀ id ∈ 131 :: nrows, C.1 id = []) : CN C [] :=
  ⟨fun id hid => by rw [h id (List.mem_cons_of_mem _ hid)]; rfl, by decide, by rw [h 131 (by simp)]; decide, fun k nd hk => absurd hk (by simp)⟩
theorem zc_same (Z : zr_Z) (j : Nat) (x : Int32) : zc (zsc Z j x) j = x := mup_same _ _ _
theorem zc_oth (Z : zr_Z) {j k : Nat} (x : Int32) (h : ¬ k = j) : zc (zsc Z j x) k = zc Z k := mup_oth _ _ h
def CFR (C C' : zr_Z) : Prop := C'.2.2 = C.2.2 ∧ C'.1 58 = C.1 58 ∧ C'.1 134 = C.1 134
theorem CFR.trans {C D E : zr_Z} (h : CFR C D) (g : CFR D E) : CFR C E := ⟨g.1.trans h.1, g.2.1.trans h.2.1, g.2.2.trans h.2.2⟩
theorem CFR.nk {C D : zr_Z} (h : NK C D) : CFR C D := ⟨h.2.2, h.1 58 (by omega), h.1 134 (by omega)⟩
theorem CFR.f43 (C : zr_Z) (j : Nat) (x : Int32) : CFR C (f_43 (zsc C j x)) := by
  obtain ⟨c1, c2, c3, c4, c5⟩ := c43 (zsc C j x)
  exact ⟨c5, c2 58 (by omega), c2 134 (by omega)⟩
theorem read_both {C R : zr_Z} {T : List Int32} {D : List (List Int32)} (h : IT C R T D) (hpl : ∀ C', o_54 C = some C' → CFR C C' ∧ (zc C' 2 = 0 → zc C' 3 = -1)) :
    (∃ C' R' N pl, o_14 C = some (nI N.length, C') ∧ o_159 R = some (nI N.length, R') ∧ IT C' R' T D ∧ CN C' N ∧ RN R' N pl ∧ pl ≤ 4500 ∧ NOK N ∧ zc C' 5 = 1 ∧ zc C' 4 = 0 ∧ zf R' 46 = 0 ∧ zc C' 3 = zf R' 47 ∧ CFR C C') ∨
    (∃ C' R', q_14 C = some C' ∧ o_159 R = some (0, R') ∧ zf R' 0 = 1 ∧ IT C' R' T D ∧ CN C' [] ∧ zc C' 5 = 0 ∧ zf R' 45 = -1 ∧ zc C' 4 = zf R' 46 ∧ zc C' 3 = zf R' 47 ∧ CFR C C') := by
  rcases marked h with ⟨C', R', h1, h2, h3, h4, h5, h6⟩ | ⟨C1, R1, G, rc, nl, pl, it, h1, h2, h3, h4, h5, h6⟩
  · right
    obtain ⟨c1, c2, c3, c4, c5⟩ := c43 (zsc C' 4 (zc C' 2))
    refine ⟨f_43 (zsc C' 4 (zc C' 2)), zmf (zmf R' 45 (-1)) 0 1, ?_, h6, zf_same _ _ _, IT_rows h2 (fun id hid => c2 id (Or.inl hid)) (fun _ _ _ => rfl) rfl rfl, CN_nil c1, c4, ?_, ?_, ?_, (hpl C' h1).1.trans (CFR.f43 C' 4 _)⟩
    · unfold q_14; rw [h1, Option.bind_some, if_pos h3]
    · rw [zf_other _ _ (by decide), zf_same]
    · rw [c3 4 (by decide), zc_same, zf_other _ _ (by decide), zf_other _ _ (by decide)]; exact h4
    · rw [c3 3 (by decide), zc_oth _ _ (by decide), zf_other _ _ (by decide), zf_other _ _ (by decide)]; exact h5
  · have hp3 := (hpl C1 h1).2 h3
    have hfr := (hpl C1 h1).1
    have hfr0 : CFR C1 (zsc (f_43 (zsc C1 4 (zc C1 2))) 5 1) := CFR.f43 C1 4 (zc C1 2)
    obtain ⟨c1, c2, c3, c4, c5⟩ := c43 (zsc C1 4 (zc C1 2))
    have hrow : ∀ id, (id < 115 ∨ 131 < id) → (zsc (f_43 (zsc C1 4 (zc C1 2))) 5 1).1 id = C1.1 id := fun id hid => c2 id hid
    obtain ⟨R2, pl2, g1, g2, g3, g4, g5⟩ := made_ref h2
    have htk := rdn_tok h2
    have e46 : o_46 (zsc C1 4 (zc C1 2)) = g_46_15 oF (zsc (f_43 (zsc C1 4 (zc C1 2))) 5 1) (-1) (-1) 0 := rfl
    have hft := g5.1 (by rw [zf_other _ _ (by decide)]; exact h4)
    have hr46 : zf (zmf R1 45 0) 47 = zf R1 47 := zf_other _ _ (by decide)
    have hIT2 : ∀ C', (∀ id, id < 115 → C'.1 id = C1.1 id) → IT C' R2 T D := fun C' hC' => IT_rows h2.1 hC' (fun j hj i => g4.1 j (by omega) (by omega) i) ((g4.2.2 3 (by decide) (by decide) (by decide) (by decide)).trans (zf_other _ _ (by decide))) ((g4.2.2 7 (by decide) (by decide) (by decide) (by decide)).trans (zf_other _ _ (by decide)))
    rcases made_class h2 (C0 := zsc (f_43 (zsc C1 4 (zc C1 2))) 5 1) hrow (fun id hid => c1 id hid) with ⟨k1, C2, k2, k3, k4⟩ | ⟨k1, C2, k2, k4⟩
    · left
      have hN := NOK_fold htk.2.2.2.2 k1 htk.2.2.2.1 htk.2.1
      have z4 : zc C2 4 = 0 := by rw [k4.2.1 4 (by decide), zc_oth _ _ (by decide), c3 4 (by decide), zc_same]; exact h3
      have z5 : zc C2 5 = 1 := by rw [k4.2.1 5 (by decide), zc_same]
      have z3 : zc C2 3 = -1 := by rw [k4.2.1 3 (by decide), zc_oth _ _ (by decide), c3 3 (by decide), zc_oth _ _ (by decide)]; exact hp3
      obtain ⟨t1, t2⟩ := hft.1 k1
      refine ⟨C2, R2, (gfold (etk R1 G) S0).1, pl2, ?_, ?_, hIT2 C2 (fun id hid => (k4.1 id (Or.inl hid)).trans (hrow id (Or.inl hid))), k3, g2.1, g3, hN, z5, z4, t1, ?_, (hfr.trans hfr0).trans (CFR.nk k4)⟩
      · unfold o_14
        rw [h1, Option.bind_some, if_neg (by rw [zc_same]; exact fun hh => hh h3), e46, k2, Option.bind_some, if_pos rfl, if_pos z4]
        have : f_44 C2 = nI (gfold (etk R1 G) S0).1.length := by
          unfold f_44; rw [z5, if_neg (by decide)]; unfold zs; rw [k3.1 115 (by simp [nrows])]
        rw [this]
      · rw [h6, g1, Option.bind_some, if_pos t1, g2.1.1]
      · rw [z3, t2, hr46, ← h5]; exact hp3.symm
    · right
      obtain ⟨t1, t2⟩ := hft.2 k1
      obtain ⟨d1, d2, d3, d4, d5⟩ := c43 (zsc C2 4 3)
      have z3 : zc C2 3 = -1 := by rw [k4.2.1 3 (by decide), zc_oth _ _ (by decide), c3 3 (by decide), zc_oth _ _ (by decide)]; exact hp3
      have hh := hIT2 (f_43 (zsc C2 4 3)) (fun id hid => (d2 id (Or.inl hid)).trans ((k4.1 id (Or.inl hid)).trans (hrow id (Or.inl hid))))
      refine ⟨f_43 (zsc C2 4 3), zmf (zmf R2 45 (-1)) 0 1, ?_, ?_, zf_same _ _ _, IT_rows hh (fun _ _ => rfl) (fun _ _ _ => rfl) rfl rfl, CN_nil d1, d4, ?_, ?_, ?_, ((hfr.trans hfr0).trans (CFR.nk k4)).trans (CFR.f43 C2 4 3)⟩
      · unfold q_14; rw [h1, Option.bind_some, if_neg (fun hh => hh h3), e46, k2, Option.bind_some, if_neg (show ¬ false = true by decide)]
      · rw [h6, g1, Option.bind_some, if_neg (by rw [t1]; decide)]
      · rw [zf_other _ _ (by decide), zf_same]
      · rw [d3 4 (by decide), zc_same, zf_other _ _ (by decide), zf_other _ _ (by decide)]; exact t1.symm
      · rw [d3 3 (by decide), zc_oth _ _ (by decide), zf_other _ _ (by decide), zf_other _ _ (by decide), z3]; exact t2.symm
