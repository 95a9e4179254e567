/-! the abstract heap holds the state -/
def zr_zc (id : Nat) : Nat := 2 * zr_most id + 32
def zr_left (gn : Nat → Nat) : Nat := (zr_rows.map (fun id => zr_zc id - gn id)).sum
/-- what never changes: the script, the table of named characters, the strings -/
def zr_ext (sx : Nat × (Nat → Int32)) (c : Nat → Option am_C) : Prop :=
  c 0 = some (.inl (0, sx.1, .inl sx.2)) ∧ c 1 = some (.inl (0, 16, .inl (fun j => zr_named.getD j 0))) ∧ ∀ j, j < 27 → c (2 + 2 * j) = some (.inr (12, [.ref (3 + 2 * j), .int 0])) ∧ c (3 + 2 * j) = some (.inl (2, (am_byt.getD j []).length, .inl (fun i => (am_byt.getD j []).getD i 0)))
/-- a row of the class: its object, its array -/
def zr_row (c : Nat → Option am_C) (sz : Nat) (id a n : Nat) (f : Nat → Int32) (l : List Int32) : Prop :=
  c id = some (.inr (7, [.int (nI (zr_most id)), .ref a, .int (nI l.length)])) ∧ c a = some (.inl (0, n, .inl f)) ∧ zr_fix a = false ∧ am_X ≤ a ∧ a < sz ∧ l.length ≤ n ∧ l.length ≤ zr_most id ∧ (∀ (i : Nat) (x : Int32), l[i]? = some x → f i = x) ∧ 16 ≤ n ∧ n ≤ zr_zc id
def zr_G (sx : Nat × (Nat → Int32)) (Z : zr_Z) (B : Nat) (h : am_H) (ga gn : Nat → Nat) (gf : Nat → Nat → Int32) : Prop :=
  (∀ id v, zr_ob Z.2.1 id = some v → h.1 id = some (.inr v)) ∧ (∀ id, id ∈ zr_rows → zr_row h.1 h.2 id (ga id) (gn id) (gf id) (Z.1 id)) ∧ (∀ i j, i ∈ zr_rows → j ∈ zr_rows → ga i = ga j → i = j)
  ∧ h.1 zr_ref = some (.inr (11, zr_mf Z.2.2.2.1)) ∧ (∀ j, 137 ≤ j → j ≤ 173 → h.1 j = some (.inl (zr_akd j, zr_alen j, .inl (Z.2.2.1 j)))) ∧ h.1 zr_out = some (.inl (1, 1, .inr (.inl Z.2.2.2.2))) ∧ zr_ext sx h.1 ∧ 175 ≤ h.2 ∧ zr_left gn ≤ B
def zr_P (sx : Nat × (Nat → Int32)) (Z : zr_Z) (B : Nat) (h : am_H) : Prop := ∃ ga gn gf, zr_G sx Z B h ga gn gf
theorem zr_rows_fix : ∀ id, id ∈ zr_rows → zr_fix id = true ∧ id < 175 := by decide +kernel
theorem zr_ob_fix {sc : Nat → Int32} {id : Nat} {v : Nat × List Value} (h : zr_ob sc id = some v) : zr_fix id = true ∧ id < 175 ∧ id ∉ zr_rows ∧ id < 136 ∧ am_X ≤ id := by
  unfold zr_ob at h
  split at h <;> first | (exact ⟨by decide, by decide, by decide, by decide, by decide⟩) | (cases h)
theorem zr_ref_fix : ∀ j, 136 ≤ j → j ≤ 174 → zr_fix j = true ∧ j ∉ zr_rows := by
  intro j h1 h2
  have : ∀ j, j < 175 → 136 ≤ j → zr_fix j = true ∧ j ∉ zr_rows := by decide +kernel
  exact this j (by omega) h1
theorem zr_low_fix : ∀ j, j < 57 → zr_fix j = true ∧ j ∉ zr_rows := by decide +kernel
theorem zr_ob_none {sc : Nat → Int32} {id : Nat} (h : 136 ≤ id) : zr_ob sc id = none := by
  cases e : zr_ob sc id with
  | none => rfl
  | some v => have := (zr_ob_fix e).2.2.2.1; omega
theorem zr_sum_up (c gn : Nat → Nat) (id n' : Nat) : ∀ l : List Nat, l.Nodup → id ∈ l → (l.map (fun j => c j - va_up gn id n' j)).sum + (c id - gn id) = (l.map (fun j => c j - gn j)).sum + (c id - n')
  | [], _, h => by cases h
  | a :: l, hn, h => by
    obtain ⟨h1, h2⟩ := List.nodup_cons.mp hn
    by_cases e : a = id
    · subst e
      have e2 : l.map (fun j => c j - va_up gn a n' j) = l.map (fun j => c j - gn j) := by
        apply List.map_congr_left
        intro j hj
        have : j ≠ a := fun q => h1 (q ▸ hj)
        simp [va_up, this]
      simp only [List.map_cons, List.sum_cons, e2]
      simp only [va_up, if_true]
      omega
    · have ih := zr_sum_up c gn id n' l h2 ((List.mem_cons.mp h).resolve_left (fun q => e q.symm))
      simp only [List.map_cons, List.sum_cons]
      have : va_up gn id n' a = gn a := by simp [va_up, e]
      rw [this]
      omega
theorem zr_left_up {gn : Nat → Nat} {id n' : Nat} (hid : id ∈ zr_rows) (h1 : gn id ≤ n') (h2 : n' ≤ zr_zc id) : zr_left (va_up gn id n') + (n' - gn id) = zr_left gn := by
  have := zr_sum_up zr_zc gn id n' zr_rows (by decide +kernel) hid
  unfold zr_left
  omega
/-- a row is made anew, in its old array or in a new one: all else stays -/
theorem zr_G_row {sx : Nat × (Nat → Int32)} {Z : zr_Z} {B B' : Nat} {h h' : am_H} {ga gn : Nat → Nat} {gf : Nat → Nat → Int32} (G : zr_G sx Z B h ga gn gf) {id a' n' : Nat} {f' : Nat → Int32} {l' : List Int32} (hid : id ∈ zr_rows)
    (ho : ∀ j, j ≠ id → j ≠ a' → h'.1 j = h.1 j) (hsz : h.2 ≤ h'.2) (ha : a' = ga id ∨ h.2 ≤ a') (hr : zr_row h'.1 h'.2 id a' n' f' l') (hB : zr_left (va_up gn id n') ≤ B') :
    zr_G sx (va_up Z.1 id l', Z.2) B' h' (va_up ga id a') (va_up gn id n') (va_up gf id f') := by
  obtain ⟨g1, g2, g3, g4, g5, g6, g7, g8, g9⟩ := G
  have nf : ∀ j, zr_fix j = true → j ≠ a' := fun j hj e => by rw [e, hr.2.2.1] at hj; cases hj
  have nr : ∀ j, j ∉ zr_rows → j ≠ id := fun j hj e => hj (e ▸ hid)
  have na : ∀ j, j ∈ zr_rows → j ≠ id → ga j ≠ a' := fun j hj e q => by
    rcases ha with q2 | q2
    · exact e (g3 j id hj hid (q.trans q2))
    · have := (g2 j hj).2.2.2.2.1
      omega
  have nb : ∀ j, j ∈ zr_rows → ga j ≠ id := fun j hj q => by
    have := (g2 j hj).2.2.1
    rw [q, (zr_rows_fix id hid).1] at this
    cases this
  refine ⟨fun j v hv => ?_, fun j hj => ?_, fun i j hi hj => ?_, ?_, fun j h1 h2 => ?_, ?_, ?_, Nat.le_trans g8 hsz, hB⟩
  · have q := zr_ob_fix hv
    rw [ho j (nr j q.2.2.1) (nf j q.1)]; exact g1 j v hv
  · by_cases e : j = id
    · subst e
      simpa [va_up] using hr
    · obtain ⟨q1, q2, q3, q4, q5, q6⟩ := g2 j hj
      have k1 := ho j e (nf j (zr_rows_fix j hj).1)
      have k2 := ho (ga j) (nb j hj) (na j hj e)
      simp only [va_up, if_neg e]
      exact ⟨k1.trans q1, k2.trans q2, q3, q4, Nat.lt_of_lt_of_le q5 hsz, q6⟩
  · simp only [va_up]
    by_cases e1 : i = id
    · by_cases e2 : j = id
      · intro _; rw [e1, e2]
      · rw [if_pos e1, if_neg e2]; exact fun q => absurd q.symm (na j hj e2)
    · by_cases e2 : j = id
      · rw [if_neg e1, if_pos e2]; exact fun q => absurd q (na i hi e1)
      · rw [if_neg e1, if_neg e2]; exact g3 i j hi hj
  · have q := zr_ref_fix zr_ref (by decide) (by decide)
    rw [ho _ (nr _ q.2) (nf _ q.1)]; exact g4
  · have q := zr_ref_fix j (by omega) (by omega)
    rw [ho _ (nr _ q.2) (nf _ q.1)]; exact g5 j h1 h2
  · have q := zr_ref_fix zr_out (by decide) (by decide)
    rw [ho _ (nr _ q.2) (nf _ q.1)]; exact g6
  · have kk : ∀ j, j < 57 → h'.1 j = h.1 j := fun j hj => ho _ (nr _ (zr_low_fix j hj).2) (nf _ (zr_low_fix j hj).1)
    obtain ⟨e1, e2, e3⟩ := g7
    refine ⟨(kk _ (by decide)).trans e1, (kk _ (by decide)).trans e2, fun j hj => ⟨(kk _ (by omega)).trans (e3 j hj).1, (kk _ (by omega)).trans (e3 j hj).2⟩⟩
/-- one of the fixed cells is written: all else stays -/
theorem zr_G_fix {sx : Nat × (Nat → Int32)} {Z Z' : zr_Z} {B : Nat} {h : am_H} {ga gn : Nat → Nat} {gf : Nat → Nat → Int32} (G : zr_G sx Z B h ga gn gf) {id : Nat} {c : am_C} (hf : zr_fix id = true) (hr : id ∉ zr_rows) (h57 : 57 ≤ id) (hZ : Z'.1 = Z.1)
    (h1 : ∀ j v, zr_ob Z'.2.1 j = some v → (j = id ∧ c = .inr v) ∨ (j ≠ id ∧ zr_ob Z.2.1 j = some v))
    (h2 : (zr_ref = id ∧ c = .inr (11, zr_mf Z'.2.2.2.1)) ∨ (zr_ref ≠ id ∧ Z'.2.2.2.1 = Z.2.2.2.1))
    (h3 : ∀ j, 137 ≤ j → j ≤ 173 → (j = id ∧ c = .inl (zr_akd j, zr_alen j, .inl (Z'.2.2.1 j))) ∨ (j ≠ id ∧ Z'.2.2.1 j = Z.2.2.1 j))
    (h4 : (zr_out = id ∧ c = .inl (1, 1, .inr (.inl Z'.2.2.2.2))) ∨ (zr_out ≠ id ∧ Z'.2.2.2.2 = Z.2.2.2.2)) :
    zr_G sx Z' B (am_up h id c) ga gn gf := by
  obtain ⟨g1, g2, g3, g4, g5, g6, g7, g8, g9⟩ := G
  have keep : ∀ j, j ≠ id → (am_up h id c).1 j = h.1 j := fun j hj => by simp [am_up, hj]
  have self : (am_up h id c).1 id = some c := by simp [am_up]
  refine ⟨fun j v hv => ?_, fun j hj => ?_, g3, ?_, fun j q1 q2 => ?_, ?_, ?_, g8, g9⟩
  · rcases h1 j v hv with ⟨rfl, rfl⟩ | ⟨e, q⟩
    · exact self
    · rw [keep j e]; exact g1 j v q
  · obtain ⟨q1, q2, q3⟩ := g2 j hj
    have e1 : j ≠ id := fun q => hr (q ▸ hj)
    have e2 : ga j ≠ id := fun q => by rw [q, hf] at q3; cases q3.1
    rw [hZ]
    exact ⟨(keep j e1).trans q1, (keep _ e2).trans q2, q3⟩
  · rcases h2 with ⟨e, q⟩ | ⟨e, q⟩
    · rw [e, self, q]
    · rw [keep _ e, q]; exact g4
  · rcases h3 j q1 q2 with ⟨e, q⟩ | ⟨e, q⟩
    · rw [e, self, q, e]
    · rw [keep _ e, q]; exact g5 j q1 q2
  · rcases h4 with ⟨e, q⟩ | ⟨e, q⟩
    · rw [e, self, q]
    · rw [keep _ e, q]; exact g6
  · have kk : ∀ j, j < 57 → (am_up h id c).1 j = h.1 j := fun j hj => keep j (by omega)
    obtain ⟨e1, e2, e3⟩ := g7
    refine ⟨(kk _ (by decide)).trans e1, (kk _ (by decide)).trans e2, fun j hj => ⟨(kk _ (by omega)).trans (e3 j hj).1, (kk _ (by omega)).trans (e3 j hj).2⟩⟩
