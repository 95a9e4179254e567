/-! MarkInlines.Row: size, at, put, cut -/
/-- the number at place i of a row, or -1 -/
def rat (l : List Int32) (i : Int32) : Int32 := if i < 0 then -1 else l.getD i.toNatClampNeg (-1)
/-- the row with a number put at place i -/
def rput (l : List Int32) (i x : Int32) : List Int32 := if i < 0 then l else l.set i.toNatClampNeg x
/-- the row cut to n -/
def rcut (l : List Int32) (n : Int32) : List Int32 := if n < 0 then l else l.take n.toNatClampNeg
theorem nI_of_nn {x : Int32} (h : ¬ x < 0) : ∃ j : Nat, j < 2 ^ 31 ∧ x = nI j ∧ x.toNatClampNeg = j := by
  obtain ⟨j, h1, rfl⟩ := nI_of h
  exact ⟨j, h1, rfl, nI_clamp h1⟩
theorem rat_nI {l : List Int32} {j : Nat} (h : j < 2 ^ 31) : rat l (nI j) = l.getD j (-1) := by
  unfold rat
  rw [if_neg (nI_pos h), nI_clamp h]
theorem zr_most_lt : ∀ id, id ∈ zr_rows → zr_most id ≤ 18000 ∧ zr_zc id ≤ 36032 := by decide +kernel
theorem zr_rows_X : ∀ id, id ∈ zr_rows → am_X ≤ id := by decide +kernel
theorem zr_up_self {α : Type} (f : Nat → α) (k : Nat) : va_up f k (f k) = f := by funext j; unfold va_up; by_cases h : j = k <;> simp [h]
section RowRead
variable {fm : Value} {sx : Nat × (Nat → Int32)} {d id : Nat} {Z : zr_Z}
set_option maxRecDepth 100000 in
theorem c_row_size (hid : id ∈ zr_rows) : zl fm sx (d + 1) 68 [.ref id] Z (fun r Z' => r = some (.int (nI (Z.1 id).length)) ∧ Z' = Z) := by
  refine zl_of_hw (nL := 1) (loc0 := [some (.ref id)]) rfl rfl rfl fun h B ga gn gf G => ?_
  obtain ⟨r1, r2, r3⟩ := G.2.1 id hid
  refine hw_run 1 (pc' := 1) (loc' := [some (.ref id)]) (stk' := [.ref id]) (fun _ _ => rfl) ?_
  refine hw_get (v := .int (nI (Z.1 id).length)) rfl r1 rfl ?_
  exact hw_reti rfl rfl ⟨Z, B, ⟨ga, gn, gf, G⟩, by omega, by omega, rfl, rfl⟩
set_option maxRecDepth 100000 in
theorem c_row_at (hid : id ∈ zr_rows) (i : Int32) : zl fm sx (d + 1) 69 [.ref id, .int i] Z (fun r Z' => r = some (.int (rat (Z.1 id) i)) ∧ Z' = Z) := by
  refine zl_of_hw (nL := 2) (loc0 := [some (.ref id), some (.int i)]) rfl rfl rfl fun h B ga gn gf G => ?_
  obtain ⟨r1, r2, r3, r4, r5, r6, r7, r8, r9, r10⟩ := G.2.1 id hid
  have hm := zr_most_lt id hid
  have fin : ∀ v, v = rat (Z.1 id) i → hw fm d 69 31 [some (.ref id), some (.int i)] [.int v] h (fun r h' mc ms => ∃ Z' B', zr_P sx Z' B' h' ∧ mc + B' ≤ B ∧ ms + 2 * B' ≤ 2 * B ∧ r = some (.int (rat (Z.1 id) i)) ∧ Z' = Z) := by
    intro v hv
    subst hv
    exact hw_reti rfl rfl ⟨Z, B, ⟨ga, gn, gf, G⟩, by omega, by omega, rfl, rfl⟩
  have out : rat (Z.1 id) i = -1 → hw fm d 69 30 [some (.ref id), some (.int i)] [] h (fun r h' mc ms => ∃ Z' B', zr_P sx Z' B' h' ∧ mc + B' ≤ B ∧ ms + 2 * B' ≤ 2 * B ∧ r = some (.int (rat (Z.1 id) i)) ∧ Z' = Z) := fun e =>
    hw_run 1 (pc' := 31) (loc' := [some (.ref id), some (.int i)]) (stk' := [.int (-1)]) (fun _ _ => rfl) (fin _ e.symm)
  refine hw_run 1 (pc' := 1) (loc' := [some (.ref id), some (.int i)]) (stk' := [.int i]) (fun _ _ => rfl) ?_
  refine hw_br (c := i < 0) (t1 := 30) (t2 := 4) (loc' := [some (.ref id), some (.int i)]) (stk' := []) (fun _ _ => rfl) (fun c1 => out (by unfold rat; rw [if_pos c1])) (fun c1 => ?_)
  obtain ⟨j, hj, rfl, hcl⟩ := nI_of_nn c1
  refine hw_run 2 (pc' := 6) (loc' := [some (.ref id), some (.int (nI j))]) (stk' := [.ref id, .int (nI j)]) (fun _ _ => rfl) ?_
  refine hw_get (v := .int (nI (Z.1 id).length)) rfl r1 rfl ?_
  refine hw_br (c := nI (Z.1 id).length ≤ nI j) (t1 := 30) (t2 := 12) (loc' := [some (.ref id), some (.int (nI j))]) (stk' := []) (fun _ _ => rfl) (fun c2 => out ?_) (fun c2 => ?_)
  · have := (nI_leI (by omega) hj).mp c2
    rw [rat_nI hj, List.getD_eq_getElem?_getD, List.getElem?_eq_none this]
    rfl
  have c3 : j < (Z.1 id).length := by
    rcases Nat.lt_or_ge j (Z.1 id).length with q | q
    · exact q
    · exact absurd (nI_le q (by omega)) c2
  refine hw_run 2 (pc' := 14) (loc' := [some (.ref id), some (.int (nI j))]) (stk' := [.ref id, .int (nI j)]) (fun _ _ => rfl) ?_
  refine hw_get (v := .ref (ga id)) rfl r1 rfl ?_
  refine hw_alen rfl r2 (by decide) ?_
  refine hw_br (c := nI (gn id) ≤ nI j) (t1 := 30) (t2 := 21) (loc' := [some (.ref id), some (.int (nI j))]) (stk' := []) (fun _ _ => rfl) (fun c4 => absurd ((nI_leI (by omega) hj).mp c4) (by omega)) (fun c4 => ?_)
  refine hw_run 1 (pc' := 22) (loc' := [some (.ref id), some (.int (nI j))]) (stk' := [.ref id]) (fun _ _ => rfl) ?_
  refine hw_get (v := .ref (ga id)) rfl r1 rfl ?_
  refine hw_run 1 (pc' := 26) (loc' := [some (.ref id), some (.int (nI j))]) (stk' := [.int (nI j), .ref (ga id)]) (fun _ _ => rfl) ?_
  refine hw_iald rfl r2 (by rw [hcl]; rintro (q | q); exact c1 q; omega) ?_
  refine hw_run 1 (pc' := 31) (loc' := [some (.ref id), some (.int (nI j))]) (stk' := [.int (gf id (nI j).toNatClampNeg)]) (fun _ _ => rfl) ?_
  refine fin _ ?_
  rw [hcl, rat_nI hj, List.getD_eq_getElem?_getD, List.getElem?_eq_getElem c3]
  exact r8 j _ (List.getElem?_eq_getElem c3)
set_option maxRecDepth 100000 in
theorem c_row_put (hid : id ∈ zr_rows) (i x : Int32) : zl fm sx (d + 1) 70 [.ref id, .int i, .int x] Z (fun r Z' => r = none ∧ Z' = (va_up Z.1 id (rput (Z.1 id) i x), Z.2)) := by
  refine zl_of_hw (nL := 3) (loc0 := [some (.ref id), some (.int i), some (.int x)]) rfl rfl rfl fun h B ga gn gf G => ?_
  obtain ⟨r1, r2, r3, r4, r5, r6, r7, r8, r9, r10⟩ := G.2.1 id hid
  have hm := zr_most_lt id hid
  have hX := zr_rows_X id hid
  have out : rput (Z.1 id) i x = Z.1 id → hw fm d 70 28 [some (.ref id), some (.int i), some (.int x)] [] h (fun r h' mc ms => ∃ Z' B', zr_P sx Z' B' h' ∧ mc + B' ≤ B ∧ ms + 2 * B' ≤ 2 * B ∧ r = none ∧ Z' = (va_up Z.1 id (rput (Z.1 id) i x), Z.2)) := fun e =>
    hw_retv rfl rfl ⟨Z, B, ⟨ga, gn, gf, G⟩, by omega, by omega, rfl, by rw [e, zr_up_self]⟩
  refine hw_run 1 (pc' := 1) (loc' := [some (.ref id), some (.int i), some (.int x)]) (stk' := [.int i]) (fun _ _ => rfl) ?_
  refine hw_br (c := i < 0) (t1 := 28) (t2 := 4) (loc' := [some (.ref id), some (.int i), some (.int x)]) (stk' := []) (fun _ _ => rfl) (fun c1 => out (by unfold rput; rw [if_pos c1])) (fun c1 => ?_)
  obtain ⟨j, hj, rfl, hcl⟩ := nI_of_nn c1
  have er : rput (Z.1 id) (nI j) x = (Z.1 id).set j x := by unfold rput; rw [if_neg c1, hcl]
  refine hw_run 2 (pc' := 6) (loc' := [some (.ref id), some (.int (nI j)), some (.int x)]) (stk' := [.ref id, .int (nI j)]) (fun _ _ => rfl) ?_
  refine hw_get (v := .int (nI (Z.1 id).length)) rfl r1 rfl ?_
  refine hw_br (c := nI (Z.1 id).length ≤ nI j) (t1 := 28) (t2 := 12) (loc' := [some (.ref id), some (.int (nI j)), some (.int x)]) (stk' := []) (fun _ _ => rfl) (fun c2 => out ?_) (fun c2 => ?_)
  · rw [er]; exact List.set_eq_of_length_le ((nI_leI (by omega) hj).mp c2)
  have c3 : j < (Z.1 id).length := by
    rcases Nat.lt_or_ge j (Z.1 id).length with q | q
    · exact q
    · exact absurd (nI_le q (by omega)) c2
  refine hw_run 2 (pc' := 14) (loc' := [some (.ref id), some (.int (nI j)), some (.int x)]) (stk' := [.ref id, .int (nI j)]) (fun _ _ => rfl) ?_
  refine hw_get (v := .ref (ga id)) rfl r1 rfl ?_
  refine hw_alen rfl r2 (by decide) ?_
  refine hw_br (c := nI (gn id) ≤ nI j) (t1 := 28) (t2 := 21) (loc' := [some (.ref id), some (.int (nI j)), some (.int x)]) (stk' := []) (fun _ _ => rfl) (fun c4 => absurd ((nI_leI (by omega) hj).mp c4) (by omega)) (fun c4 => ?_)
  refine hw_run 1 (pc' := 22) (loc' := [some (.ref id), some (.int (nI j)), some (.int x)]) (stk' := [.ref id]) (fun _ _ => rfl) ?_
  refine hw_get (v := .ref (ga id)) rfl r1 rfl ?_
  refine hw_run 2 (pc' := 27) (loc' := [some (.ref id), some (.int (nI j)), some (.int x)]) (stk' := [.int x, .int (nI j), .ref (ga id)]) (fun _ _ => rfl) ?_
  refine hw_iast rfl r2 r4 (by rw [hcl]; rintro (q | q); exact c1 q; omega) ?_
  refine hw_retv rfl rfl ⟨(va_up Z.1 id (rput (Z.1 id) (nI j) x), Z.2), B, ?_, by omega, by omega, rfl, rfl⟩
  rw [er, hcl]
  refine ⟨_, _, _, zr_G_row (a' := ga id) (n' := gn id) (f' := upd (gf id) j x) G hid (fun q h1 h2 => by simp [am_up, h2]) (Nat.le_refl _) (Or.inl rfl) ⟨?_, ?_, r3, r4, r5, ?_, ?_, fun q v hq => ?_, r9, r10⟩ ?_⟩
  · have : id ≠ ga id := fun q => by rw [← q, (zr_rows_fix id hid).1] at r3; cases r3
    simp [am_up, this, r1]
  · simp [am_up]
  · simpa using r6
  · simpa using r7
  · rw [List.getElem?_set] at hq
    by_cases e : j = q
    · subst e
      simp [c3] at hq
      simp [upd, hq]
    · simp [e] at hq
      rw [show upd (gf id) j x q = gf id q from if_neg (fun z : q = j => e z.symm)]
      exact r8 q v hq
  · rw [zr_up_self]; exact G.2.2.2.2.2.2.2.2
end RowRead
