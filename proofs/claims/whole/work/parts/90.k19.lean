/-! THE START, 1: what the Statement gives of the strings and of the static fields -/
def sn_v (q : String × Nat × String × Nat) : Term := .field (.string q.1 q.2.1) "java/lang/String" "value" "[B"
def sn_ws (q : String × Nat × String × Nat) (bs : List Int32) : List Cond :=
  .exactly (.string q.1 q.2.1) "java/lang/String" :: .eq (.field (.string q.1 q.2.1) "java/lang/String" "coder" "B") (.int 0) :: .arrayOf (sn_v q) .byte :: .eq (.length (sn_v q)) (.int (Int32.ofNat bs.length)) :: (List.range bs.length).map (fun i => .eq (.elem (sn_v q) (.int (Int32.ofNat i))) (.int (bs.getD i 0)))
theorem sn_all : (flatC (Cond.and given_1 narrow_1)).drop 358 = (am_str.zip am_byt).flatMap (fun q => sn_ws q.1 q.2) := by decide +kernel
theorem sn_getD {α : Type} (l : List α) (d : α) {i : Nat} (h : i < l.length) : l[i]? = some (l.getD i d) := by
  rw [List.getD_eq_getElem?_getD, List.getElem?_eq_getElem h]; rfl
theorem sn_len : ∀ j, j < 27 → (am_str.zip am_byt)[j]? = some (am_str.getD j ("", 0, "", 0), am_byt.getD j []) := fun j hj =>
  List.getElem?_zip_eq_some.mpr ⟨sn_getD _ _ (show j < am_str.length from hj), sn_getD _ _ (show j < am_byt.length from hj)⟩
theorem sn_small : ∀ j, j < 27 → (am_byt.getD j []).length < 2 ^ 31 := by decide +kernel
theorem sn_in {j : Nat} (hj : j < 27) {w : Cond} (hw : w ∈ sn_ws (am_str.getD j ("", 0, "", 0)) (am_byt.getD j [])) : w ∈ flatC (Cond.and given_1 narrow_1) := by
  have h1 : w ∈ (am_str.zip am_byt).flatMap (fun q => sn_ws q.1 q.2) := List.mem_flatMap.mpr ⟨_, List.mem_of_getElem? (sn_len j hj), hw⟩
  rw [← sn_all] at h1
  exact List.mem_of_mem_drop h1
theorem sn_str {args : Array Value} {s : State} {A : Nat → Prop} (hA : ∀ a : Nat, a < s.heap.size → ¬ A a) (hg : (Cond.and given_1 narrow_1).before args s = true) {j : Nat} (hj : j < 27) :
    ∃ aK aV : Nat, (Term.string (am_str.getD j ("", 0, "", 0)).1 (am_str.getD j ("", 0, "", 0)).2.1).eval args s none [] s = some (.ref aK) ∧ va_O "java/lang/String" aK A s s.heap ∧ va_OF "java/lang/String" "coder" "B" (.int 0) aK A s s.heap ∧ va_OF "java/lang/String" "value" "[B" (.ref aV) aK A s s.heap ∧ va_T .byte aV (am_byt.getD j []).length (fun i => .int ((am_byt.getD j []).getD i 0)) A s s.heap := by
  have hs := flat_of_before _ hg
  generalize hq : am_str.getD j ("", 0, "", 0) = q
  have hin : ∀ w ∈ sn_ws q (am_byt.getD j []), w.before args s = true := fun w hw => hs w (sn_in hj (by rw [hq]; exact hw))
  obtain ⟨a, c, cA, kA, q1, q2, q3, q4, q5, q6, -⟩ := Cond.exactly_spec (args := args) (first := s) (o := none) (s := s) (idx := []) (t := .string q.1 q.2.1) (cls := "java/lang/String") (hin _ (by simp [sn_ws]))
  obtain ⟨t, ht, hT⟩ := va_Tof (f := fun i => .int ((am_byt.getD j []).getD i 0)) (A := A) (sn_small j hj) (hin (.arrayOf (sn_v q) .byte) (by simp [sn_ws])) (va_eqt (hin (.eq (.length (sn_v q)) (.int (Int32.ofNat (am_byt.getD j []).length))) (by simp [sn_ws]))) (fun i hi => va_eqt (hin (.eq (.elem (sn_v q) (.int (Int32.ofNat i))) (.int ((am_byt.getD j []).getD i 0))) (by
    unfold sn_ws
    iterate 4 refine List.mem_cons_of_mem _ ?_
    exact List.mem_map.mpr ⟨i, List.mem_range.mpr hi, rfl⟩))) hA
  exact ⟨a, t, q1, ⟨cA, q3, q5, by rw [q6]; exact q2, hA a (Array.getElem?_eq_some_iff.mp q3).1⟩, vk_OFof q1 (va_eqt (hin (.eq (.field (.string q.1 q.2.1) "java/lang/String" "coder" "B") (.int 0)) (by simp [sn_ws]))) hA, vk_OFof q1 ht hA, hT⟩
theorem sn_refs : ∀ q ∈ am_str, Cond.stringRef q.1 q.2.1 q.2.2.1 ∈ lw_tbl := by decide +kernel
/-- the table of named characters -/
def sn_N : Term := .static "MarkInlines$References" "NAMED" "[I"
theorem sn_nam : (Cond.arrayOf sn_N .int :: Cond.eq (.length sn_N) (.int 16) :: (List.range 16).map (fun i => Cond.eq (.elem sn_N (.int (Int32.ofNat i))) (.int (zr_named.getD i 0)))).all (fun w => (flatC (Cond.and given_1 narrow_1)).contains w) = true := by decide +kernel
theorem sn_named {args : Array Value} {s : State} {A : Nat → Prop} (hA : ∀ a : Nat, a < s.heap.size → ¬ A a) (hg : (Cond.and given_1 narrow_1).before args s = true) : ∃ t : Nat, sn_N.eval args s none [] s = some (.ref t) ∧ va_T .int t 16 (fun i => .int (zr_named.getD i 0)) A s s.heap := by
  have hs := flat_of_before _ hg
  have hin : ∀ w ∈ (Cond.arrayOf sn_N .int :: Cond.eq (.length sn_N) (.int 16) :: (List.range 16).map (fun i => Cond.eq (.elem sn_N (.int (Int32.ofNat i))) (.int (zr_named.getD i 0)))), w.before args s = true := fun w hw => hs w (List.contains_iff_mem.mp (List.all_eq_true.mp sn_nam w hw))
  refine va_Tof (by decide) (hin _ List.mem_cons_self) (va_eqt (hin (.eq (.length sn_N) (.int 16)) (by simp))) (fun i hi => va_eqt (hin (.eq (.elem sn_N (.int (Int32.ofNat i))) (.int (zr_named.getD i 0))) ?_)) hA
  iterate 2 refine List.mem_cons_of_mem _ ?_
  exact List.mem_map.mpr ⟨i, List.mem_range.mpr hi, rfl⟩
theorem sn_cs : Cond.eq (.static "java/lang/String" "COMPACT_STRINGS" "Z") (.int 1) ∈ flatC (Cond.and given_1 narrow_1) ∧ Cond.isRef (.static "jdk/internal/util/Preconditions" "SIOOBE_FORMATTER" "Ljava/util/function/BiFunction;") ∈ flatC (Cond.and given_1 narrow_1) ∧ Cond.isRef (.static Bundle.tN "UNASSIGNED_STACK" Bundle.steD) ∈ flatC (Cond.and given_1 narrow_1) ∧ Cond.isRef (.static Bundle.tN "SUPPRESSED_SENTINEL" Bundle.listD) ∈ flatC (Cond.and given_1 narrow_1) ∧ Cond.not (.castable thI thA) ∈ flatC (Cond.and given_1 narrow_1) := by
  refine ⟨?_, ?_, ?_, ?_, ?_⟩ <;> decide +kernel
theorem sn_tb : (∀ q ∈ am_S, Cond.laysStatic q.1 q.2.1 q.2.2 ∈ lw_tbl ∧ Cond.initialized q.1 ∈ lw_tbl) ∧ Cond.laysStatic Bundle.tN "UNASSIGNED_STACK" Bundle.steD ∈ lw_tbl ∧ Cond.laysStatic Bundle.tN "SUPPRESSED_SENTINEL" Bundle.listD ∈ lw_tbl ∧ (∀ X ∈ [thA, thI, thB], Cond.castable X X ∈ lw_tbl) ∧ (∀ ty ∈ [FieldType.int, .long, .byte, .boolean], Cond.arrayClass ty ∈ lw_tbl) ∧ (∀ q ∈ am_nst, Cond.fieldLinkNest q.1 q.2.1 q.2.2.1 q.2.2.2.1 q.2.2.2.2 "MarkInlines" ∈ lw_tbl) := by
  refine ⟨?_, ?_, ?_, ?_, ?_, ?_⟩ <;> decide +kernel
theorem sn_inst : ∀ q ∈ am_cls, ∃ n, Cond.instantiable q.1 n ∈ lw_tbl := by
  have h : ∀ q ∈ am_cls.map (fun q => (q.1, if q.1 = "java/lang/String" then 4 else q.2.2)), Cond.instantiable q.1 q.2 ∈ lw_tbl := by decide +kernel
  intro q hq
  exact ⟨_, h (q.1, if q.1 = "java/lang/String" then 4 else q.2.2) (List.mem_map.mpr ⟨q, hq, rfl⟩)⟩
