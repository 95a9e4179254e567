/-! the mathematics; written by wip/whole/m2parts.py -/
abbrev Nd : Type := Int32 × Int32 × Nat × List Int32 × List Int32 × Int32
def rowAt (l : List Int32) (f : Nat) (w : List Int32) : Prop := f + w.length ≤ l.length ∧ ∀ i, i < w.length → l.getD (f + i) (-1) = w.getD i 0
def ND1 (C : zr_Z) (k : Nat) (nd : Nd) : Prop := ldq C 115 k = nd.1 ∧ ldq C 117 k = nd.2.1 ∧ ldq C 119 k = nI nd.2.2.1 ∧ ldq C 129 k = nd.2.2.2.2.2 ∧ ldq C 123 k = nI nd.2.2.2.1.length ∧ ldq C 127 k = nI nd.2.2.2.2.1.length ∧
  (∃ f, f ≤ 4000 ∧ ldq C 121 k = nI f ∧ rowAt (C.1 131) f nd.2.2.2.1) ∧ (∃ g, g ≤ 4000 ∧ ldq C 125 k = nI g ∧ rowAt (C.1 131) g nd.2.2.2.2.1)
abbrev nrows : List Nat := [115, 117, 119, 121, 123, 125, 127, 129]
def CN (C : zr_Z) (N : List Nd) : Prop := (∀ id ∈ nrows, (C.1 id).length = N.length) ∧ N.length ≤ 1500 ∧ (C.1 131).length ≤ 3900 ∧ (∀ k nd, N[k]? = some nd → ND1 C k nd)
def CUR (C : zr_Z) (N : List Nd) (i : Nat) : Prop := ∃ nd f, N[i]? = some nd ∧ ldq C 121 i = nI f ∧ f + nd.2.2.2.1.length = (C.1 131).length
theorem rowAt_app {l : List Int32} {f : Nat} {w : List Int32} (h : rowAt l f w) (m : List Int32) : rowAt (l ++ m) f w := by
  refine ⟨by rw [List.length_append]; have := h.1; omega, fun i hi => ?_⟩
  have := h.1
  rw [getD_app_l (by omega)]; exact h.2 i hi
theorem rowAt_new (l w : List Int32) : rowAt (l ++ w) l.length w := by
  refine ⟨by rw [List.length_append]; exact Nat.le_refl _, fun i hi => ?_⟩
  rw [List.getD_eq_getElem?_getD, List.getElem?_append_right (by omega), Nat.add_sub_cancel_left, List.getD_eq_getElem?_getD, List.getElem?_eq_getElem hi]; rfl
theorem rowAt_snoc {l : List Int32} {f : Nat} {w : List Int32} {c : Int32} (h : rowAt l f w) (he : f + w.length = l.length) : rowAt (l ++ [c]) f (w ++ [c]) := by
  refine ⟨by rw [List.length_append, List.length_append]; simp only [List.length_cons, List.length_nil]; omega, fun i hi => ?_⟩
  rw [List.length_append, List.length_cons, List.length_nil] at hi
  rw [getD_app0 (by omega)]
  by_cases e : i = w.length
  · rw [if_pos e, e, he]; exact getD_app_r rfl
  · rw [if_neg e, getD_app_l (by omega)]; exact h.2 i (by omega)
theorem cn_letter {C : zr_Z} {N : List Nd} {i : Nat} {nd : Nd} {c : Int32} (h : CN C N) (hi : N[i]? = some nd) (hcur : CUR C N i) (hroom : (C.1 131).length < 3900) :
    CN (f_49 C (nI i) c) (N.set i (nd.1, nd.2.1, nd.2.2.1, nd.2.2.2.1 ++ [c], nd.2.2.2.2)) ∧ CUR (f_49 C (nI i) c) (N.set i (nd.1, nd.2.1, nd.2.2.1, nd.2.2.2.1 ++ [c], nd.2.2.2.2)) i ∧ ((f_49 C (nI i) c).1 131) = C.1 131 ++ [c] ∧ (f_49 C (nI i) c).2 = C.2 ∧ ∀ id, ¬ id = 123 → ¬ id = 131 → (f_49 C (nI i) c).1 id = C.1 id := by
  obtain ⟨h1, h2, h3, h4⟩ := h
  have hil : i < N.length := (List.getElem?_eq_some_iff.mp hi).1
  obtain ⟨nd', f, q1, q2, q3⟩ := hcur
  obtain rfl : nd' = nd := Option.some.inj (q1.symm.trans hi)
  have hd := h4 i nd' hi
  have hf4 : f ≤ 3900 := by omega
  have e131 : (zadd C 131 c).1 131 = C.1 131 ++ [c] := zadd_row (by show (C.1 131).length < 3900; exact hroom)
  have hval : (zs (zadd C 131 c) 131) - (zt (zadd C 131 c) 121 (nI i)) = nI (nd'.2.2.2.1.length + 1) := by
    have e1 : zs (zadd C 131 c) 131 = nI ((C.1 131).length + 1) := by unfold zs; rw [e131, List.length_append]; rfl
    have e2 : zt (zadd C 131 c) 121 (nI i) = nI f := by rw [zt_ldq _ _ (by omega), ldq_eq, zadd_oth (by decide)]; exact q2
    rw [e1, e2, pk_sub (by omega)]; congr 1; omega
  obtain ⟨F, hF⟩ : ∃ F, F = f_49 C (nI i) c := ⟨_, rfl⟩
  have hF' : F = zput (zadd C 131 c) 123 (nI i) (nI (nd'.2.2.2.1.length + 1)) := by rw [hF]; unfold f_49; rw [hval]
  rw [← hF]
  have r131 : F.1 131 = C.1 131 ++ [c] := by rw [hF', zput_oth (by decide)]; exact e131
  have ro : ∀ id, ¬ id = 123 → ¬ id = 131 → F.1 id = C.1 id := fun id g1 g2 => by rw [hF', zput_oth g1, zadd_oth g2]
  have l123 : (C.1 123).length = N.length := h1 123 (by decide)
  have r123' : F.1 123 = (C.1 123).set i (nI (nd'.2.2.2.1.length + 1)) := by rw [hF', zput_row (by omega), zadd_oth (by decide)]
  have ld123 : ∀ t, ldq F 123 t = if t = i then nI (nd'.2.2.2.1.length + 1) else ldq C 123 t := fun t => by rw [ldq_eq, ldq_eq, r123', getD_set (by omega)]
  have lo : ∀ id t, ¬ id = 123 → ¬ id = 131 → ldq F id t = ldq C id t := fun id t g1 g2 => by rw [ldq_eq, ldq_eq, ro id g1 g2]
  have hsame : ∀ k nd, N[k]? = some nd → ¬ k = i → ND1 F k nd := by
    intro k nd hk hne
    obtain ⟨a1, a2, a3, a4, a5, a6, ⟨f', b0, b1, b2⟩, ⟨g', c0, c1, c2⟩⟩ := h4 k nd hk
    refine ⟨by rw [lo 115 k (by decide) (by decide)]; exact a1, by rw [lo 117 k (by decide) (by decide)]; exact a2, by rw [lo 119 k (by decide) (by decide)]; exact a3, by rw [lo 129 k (by decide) (by decide)]; exact a4, by rw [ld123, if_neg hne]; exact a5, by rw [lo 127 k (by decide) (by decide)]; exact a6, ⟨f', b0, by rw [lo 121 k (by decide) (by decide)]; exact b1, by rw [r131]; exact rowAt_app b2 _⟩, ⟨g', c0, by rw [lo 125 k (by decide) (by decide)]; exact c1, by rw [r131]; exact rowAt_app c2 _⟩⟩
  refine ⟨⟨fun id hid => ?_, by rw [List.length_set]; exact h2, by rw [r131, List.length_append]; simp only [List.length_cons, List.length_nil]; omega, fun k nd hk => ?_⟩, ?_, r131, by rw [hF']; rfl, ro⟩
  · rw [List.length_set]
    by_cases e : id = 123
    · rw [e, r123', List.length_set]; exact l123
    · rw [ro id e (by rintro rfl; exact absurd hid (by decide))]; exact h1 id hid
  · by_cases e : k = i
    · subst e
      rw [List.getElem?_set_self hil] at hk
      obtain rfl := Option.some.inj hk
      obtain ⟨a1, a2, a3, a4, a5, a6, ⟨f', b0, b1, b2⟩, ⟨g', c0, c1, c2⟩⟩ := hd
      have hff : f' = f := by
        have := b1.symm.trans q2
        exact nI_inj (by omega) (by omega) this
      subst hff
      refine ⟨by rw [lo 115 k (by decide) (by decide)]; exact a1, by rw [lo 117 k (by decide) (by decide)]; exact a2, by rw [lo 119 k (by decide) (by decide)]; exact a3, by rw [lo 129 k (by decide) (by decide)]; exact a4, ?_, by rw [lo 127 k (by decide) (by decide)]; exact a6, ⟨f', b0, by rw [lo 121 k (by decide) (by decide)]; exact b1, ?_⟩, ⟨g', c0, by rw [lo 125 k (by decide) (by decide)]; exact c1, by rw [r131]; exact rowAt_app c2 _⟩⟩
      · rw [ld123, if_pos rfl]; dsimp only; rw [List.length_append]; rfl
      · rw [r131]; exact rowAt_snoc b2 q3
    · rw [List.getElem?_set_ne (fun hh => e hh.symm)] at hk
      exact hsame k nd hk e
  · refine ⟨_, f, List.getElem?_set_self hil, by rw [lo 121 i (by decide) (by decide)]; exact q2, ?_⟩
    dsimp only
    rw [r131, List.length_append, List.length_append]; simp only [List.length_cons, List.length_nil]; omega
