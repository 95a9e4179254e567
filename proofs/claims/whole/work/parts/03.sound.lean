/-! THE ABSTRACT MACHINE IS SOUND: one instruction of it is one of the machine. -/
/-- what a place stands for: the first X are cells that were there before, the others count from b on -/
def am_ad (b X : Nat) (ext : Nat → Nat) (a : Nat) : Nat := if a < X then ext a else b + (a - X)
def am_vl (b X : Nat) (ext : Nat → Nat) (v : Value) : Value := match v with
  | .ref a => .ref (am_ad b X ext a)
  | .int x => .int x
  | .long x => .long x
  | .null => .null
  | .float x => .float x
  | .double x => .double x
  | .retAddr x => .retAddr x
def am_cc (dA : Nat → ClassId) (b X : Nat) (ext : Nat → Nat) (c : am_C) : va_E := match c with
  | .inl (q, a) => .inl (dA q, a)
  | .inr (ci, fs) => .inr (ci, fs.map (am_vl b X ext))
/-- the heap holds the abstract one -/
def am_P (D : va_G) (cl : List vw_C) (dA : Nat → ClassId) (b X : Nat) (ext : Nat → Nat) (h : am_H) (H : Heap) : Prop :=
  X ≤ h.2 ∧ H.size = b + (h.2 - X) ∧ (∀ a, a < X → ext a < b) ∧ ∀ a c, h.1 a = some c → a < h.2 ∧ va_at D cl (am_ad b X ext a, am_cc dA b X ext c) H
def am_tys (dA : Nat → ClassId) : List (ClassId × FieldType) := [(dA 0, .int), (dA 1, .long), (dA 2, .byte), (dA 3, .boolean)]
/-- the listed locals -/
def am_pr (b X : Nat) (ext : Nat → Nat) (loc : am_L) : List (Nat × Value) := (List.range loc.length).filterMap (fun i => (am_get loc i).map (fun v => (i, am_vl b X ext v)))
def am_lc (b X : Nat) (ext : Nat → Nat) (ls : Array Slot) (n : Nat) (loc : am_L) : Prop := loc.length = n ∧ lv_has ls n (am_pr b X ext loc)
theorem am_get_lt {loc : am_L} {i : Nat} {v : Value} (h : am_get loc i = some v) : i < loc.length := by
  unfold am_get at h
  rcases Nat.lt_or_ge i loc.length with q | q
  · exact q
  · rw [List.getElem?_eq_none q] at h; cases h
theorem am_pr_mem {b X : Nat} {ext : Nat → Nat} {loc : am_L} {q : Nat × Value} : q ∈ am_pr b X ext loc ↔ ∃ v, am_get loc q.1 = some v ∧ q.2 = am_vl b X ext v := by
  unfold am_pr
  constructor
  · intro h
    obtain ⟨i, hi, hq⟩ := List.mem_filterMap.mp h
    cases hg : am_get loc i with
    | none => rw [hg] at hq; cases hq
    | some v => rw [hg] at hq; cases hq; exact ⟨v, hg, rfl⟩
  · rintro ⟨v, h1, h2⟩
    refine List.mem_filterMap.mpr ⟨q.1, List.mem_range.mpr (am_get_lt h1), ?_⟩
    rw [h1, Option.map_some, ← h2]
theorem am_has_sub {ls : Array Slot} {n : Nat} {l l' : List (Nat × Value)} (h : lv_has ls n l) (hs : ∀ q ∈ l', q ∈ l) : lv_has ls n l' := ⟨h.1, h.2.1, fun q hq => h.2.2 q (hs q hq)⟩
theorem am_lc_at {b X : Nat} {ext : Nat → Nat} {ls : Array Slot} {n : Nat} {loc : am_L} (h : am_lc b X ext ls n loc) {i : Nat} {v : Value} (hv : am_get loc i = some v) : ls[i]? = some (.val (am_vl b X ext v)) :=
  h.2.2.2 (i, am_vl b X ext v) (am_pr_mem.mpr ⟨v, hv, rfl⟩)
theorem am_get_set {loc : am_L} {i j : Nat} {u : Option Value} (hi : i < loc.length) : am_get (loc.set i u) j = if j = i then u else am_get loc j := by
  unfold am_get
  by_cases h : j = i
  · subst h
    rw [if_pos rfl, List.getElem?_set_self hi]
    cases u <;> rfl
  · rw [if_neg h, List.getElem?_set_ne (fun q => h q.symm)]
theorem am_cl_ok {loc : am_L} {i j : Nat} {v : Value} (h : am_cl loc i = true) (hj : j + 1 = i) (hv : am_get loc j = some v) : ¬ v.category = 2 := by
  subst hj
  unfold am_cl at h
  simp only [hv] at h
  cases v <;> simp_all [Value.category]
theorem am_vl_cat (b X : Nat) (ext : Nat → Nat) (v : Value) : (am_vl b X ext v).category = v.category := by cases v <;> rfl
theorem am_lc_set1 {b X : Nat} {ext : Nat → Nat} {ls' : Array Slot} {n : Nat} {loc : am_L} {i : Nat} {v : Value} (hn : loc.length = n) (hi : i < loc.length) (hc : am_cl loc i = true)
    (h : lv_has ls' n ((i, am_vl b X ext v) :: (am_pr b X ext loc).filter (fun q => !(q.1 == i) && !(q.1 + 1 == i && q.2.category == 2)))) : am_lc b X ext ls' n (loc.set i (some v)) := by
  refine ⟨by rw [List.length_set]; exact hn, am_has_sub h fun q hq => ?_⟩
  obtain ⟨w, h1, h2⟩ := am_pr_mem.mp hq
  rw [am_get_set hi] at h1
  by_cases hj : q.1 = i
  · rw [if_pos hj] at h1
    cases h1
    refine List.mem_cons.mpr (Or.inl ?_)
    rw [← hj, ← h2]
  · rw [if_neg hj] at h1
    refine List.mem_cons.mpr (Or.inr (List.mem_filter.mpr ⟨am_pr_mem.mpr ⟨w, h1, h2⟩, ?_⟩))
    have e1 : (q.1 == i) = false := by simpa using hj
    rw [e1]
    by_cases hj2 : q.1 + 1 = i
    · have := am_cl_ok hc hj2 h1
      rw [h2, am_vl_cat]
      simp [this]
    · simp [hj2]
theorem am_lc_set2 {b X : Nat} {ext : Nat → Nat} {ls' : Array Slot} {n : Nat} {loc : am_L} {i : Nat} {v : Value} (hn : loc.length = n) (hi : i + 1 < loc.length) (hc : am_cl loc i = true)
    (h : lv_has ls' n ((i, am_vl b X ext v) :: (am_pr b X ext loc).filter (fun q => !(q.1 == i) && (!(q.1 == i + 1) && !(q.1 + 1 == i && q.2.category == 2))))) : am_lc b X ext ls' n ((loc.set i (some v)).set (i + 1) none) := by
  refine ⟨by rw [List.length_set, List.length_set]; exact hn, am_has_sub h fun q hq => ?_⟩
  obtain ⟨w, h1, h2⟩ := am_pr_mem.mp hq
  rw [am_get_set (by rw [List.length_set]; exact hi), am_get_set (by omega)] at h1
  by_cases hj3 : q.1 = i + 1
  · rw [if_pos hj3] at h1; cases h1
  · rw [if_neg hj3] at h1
    by_cases hj : q.1 = i
    · rw [if_pos hj] at h1
      cases h1
      refine List.mem_cons.mpr (Or.inl ?_)
      rw [← hj, ← h2]
    · rw [if_neg hj] at h1
      refine List.mem_cons.mpr (Or.inr (List.mem_filter.mpr ⟨am_pr_mem.mpr ⟨w, h1, h2⟩, ?_⟩))
      have e1 : (q.1 == i) = false := by simpa using hj
      have e3 : (q.1 == i + 1) = false := by simpa using hj3
      rw [e1, e3]
      by_cases hj2 : q.1 + 1 = i
      · have := am_cl_ok hc hj2 h1
        rw [h2, am_vl_cat]
        simp [this]
      · simp [hj2]
