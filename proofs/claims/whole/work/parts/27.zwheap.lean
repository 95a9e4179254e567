/-! the calculus: fields of the class's objects, fields and arrays of the reference, the law's own cells -/
theorem zr_obup0 (sc : Nat → Int32) (x : Int32) : ∀ (j' : Nat) (v : Nat × List Value), zr_ob (va_up sc 0 x) j' = some v → (j' = 64 ∧ ∃ w, zr_ob sc 64 = some w ∧ v = (w.1, w.2.set 1 (.int x))) ∨ (j' ≠ 64 ∧ zr_ob sc j' = some v) := by
  intro j' v h
  unfold zr_ob at h
  split at h
  all_goals first
    | (cases h; exact Or.inl ⟨rfl, _, rfl, rfl⟩)
    | (cases h; exact Or.inr ⟨by decide, rfl⟩)
    | cases h
theorem zr_obup1 (sc : Nat → Int32) (x : Int32) : ∀ (j' : Nat) (v : Nat × List Value), zr_ob (va_up sc 1 x) j' = some v → (j' = 103 ∧ ∃ w, zr_ob sc 103 = some w ∧ v = (w.1, w.2.set 10 (.int x))) ∨ (j' ≠ 103 ∧ zr_ob sc j' = some v) := by
  intro j' v h
  unfold zr_ob at h
  split at h
  all_goals first
    | (cases h; exact Or.inl ⟨rfl, _, rfl, rfl⟩)
    | (cases h; exact Or.inr ⟨by decide, rfl⟩)
    | cases h
theorem zr_obup2 (sc : Nat → Int32) (x : Int32) : ∀ (j' : Nat) (v : Nat × List Value), zr_ob (va_up sc 2 x) j' = some v → (j' = 89 ∧ ∃ w, zr_ob sc 89 = some w ∧ v = (w.1, w.2.set 6 (.int x))) ∨ (j' ≠ 89 ∧ zr_ob sc j' = some v) := by
  intro j' v h
  unfold zr_ob at h
  split at h
  all_goals first
    | (cases h; exact Or.inl ⟨rfl, _, rfl, rfl⟩)
    | (cases h; exact Or.inr ⟨by decide, rfl⟩)
    | cases h
theorem zr_obup3 (sc : Nat → Int32) (x : Int32) : ∀ (j' : Nat) (v : Nat × List Value), zr_ob (va_up sc 3 x) j' = some v → (j' = 89 ∧ ∃ w, zr_ob sc 89 = some w ∧ v = (w.1, w.2.set 7 (.int x))) ∨ (j' ≠ 89 ∧ zr_ob sc j' = some v) := by
  intro j' v h
  unfold zr_ob at h
  split at h
  all_goals first
    | (cases h; exact Or.inl ⟨rfl, _, rfl, rfl⟩)
    | (cases h; exact Or.inr ⟨by decide, rfl⟩)
    | cases h
theorem zr_obup4 (sc : Nat → Int32) (x : Int32) : ∀ (j' : Nat) (v : Nat × List Value), zr_ob (va_up sc 4 x) j' = some v → (j' = 57 ∧ ∃ w, zr_ob sc 57 = some w ∧ v = (w.1, w.2.set 6 (.int x))) ∨ (j' ≠ 57 ∧ zr_ob sc j' = some v) := by
  intro j' v h
  unfold zr_ob at h
  split at h
  all_goals first
    | (cases h; exact Or.inl ⟨rfl, _, rfl, rfl⟩)
    | (cases h; exact Or.inr ⟨by decide, rfl⟩)
    | cases h
theorem zr_obup5 (sc : Nat → Int32) (x : Int32) : ∀ (j' : Nat) (v : Nat × List Value), zr_ob (va_up sc 5 x) j' = some v → (j' = 114 ∧ ∃ w, zr_ob sc 114 = some w ∧ v = (w.1, w.2.set 12 (.int x))) ∨ (j' ≠ 114 ∧ zr_ob sc j' = some v) := by
  intro j' v h
  unfold zr_ob at h
  split at h
  all_goals first
    | (cases h; exact Or.inl ⟨rfl, _, rfl, rfl⟩)
    | (cases h; exact Or.inr ⟨by decide, rfl⟩)
    | cases h
section ZwHeap
variable {fm : Value} {sx : Nat × (Nat → Int32)} {d y pc : Nat} {loc : am_L} {rest : List Value} {Z : zr_Z} {Q : Option Value → zr_Z → Prop}
theorem zw_st {o : am_O} {stk stk' : List Value} {pc' : Nat} {Z' : zr_Z} (ho : am_ops y pc = some o) (hs : ∀ h B, zr_P sx Z B h → ∃ h', (∀ k z, am_stp am_X (am_st fm) am_ty am_fs o pc loc stk h k z = some (pc', loc, stk', h', k, z)) ∧ zr_P sx Z' B h') (kk : zw fm sx d y pc' loc stk' Z' Q) : zw fm sx d y pc loc stk Z Q :=
  zw_steps (pc' := pc') (loc' := loc) (stk' := stk') (fun h B hP k z => by
    obtain ⟨h', h1, h2⟩ := hs h B hP
    exact ⟨1, h', 0, 0, B, ⟨_, Or.inl ⟨o, ho, h1 k z⟩, rfl⟩, h2, by omega, by omega⟩) kk
theorem zw_get {i n ci k id : Nat} {u v : Value} {fs : List Value} (ho : am_ops y pc = some (.getfield i, n, ci, k, u)) (hob : zr_ob Z.2.1 id = some (ci, fs)) (hv : fs[k]? = some v) (kk : zw fm sx d y (pc + 3) loc (v :: rest) Z Q) : zw fm sx d y pc loc (.ref id :: rest) Z Q :=
  zw_st ho (fun h B hP => ⟨h, fun k z => by
    obtain ⟨ga, gn, gf, G⟩ := hP
    have he := G.1 id _ hob
    simp [am_stp, am_getf, he, hv], hP⟩) kk
theorem zw_mget {i n k : Nat} {u v : Value} (ho : am_ops y pc = some (.getfield i, n, 11, k, u)) (hv : (zr_mf Z.2.2.2.1)[k]? = some v) (kk : zw fm sx d y (pc + 3) loc (v :: rest) Z Q) : zw fm sx d y pc loc (.ref 136 :: rest) Z Q :=
  zw_st ho (fun h B hP => ⟨h, fun k z => by
    obtain ⟨ga, gn, gf, G⟩ := hP
    have he : h.1 136 = some (.inr (11, zr_mf Z.2.2.2.1)) := G.2.2.2.1
    simp only [am_stp, am_getf, he, hv, if_true], hP⟩) kk
/-- a single number of the class is put: j its number, k its field in object id -/
theorem zw_put {i n ci k id j : Nat} {u : Value} {x : Int32} {fs : List Value} (ho : am_ops y pc = some (.putfield i, n, ci, k, u)) (hob : zr_ob Z.2.1 id = some (ci, fs)) (hl : Nat.blt k fs.length = true) (hf : am_fit (am_ty ci k) (.int x) = true)
    (hup : ∀ (j' : Nat) (v : Nat × List Value), zr_ob (va_up Z.2.1 j x) j' = some v → (j' = id ∧ ∃ w, zr_ob Z.2.1 id = some w ∧ v = (w.1, w.2.set k (.int x))) ∨ (j' ≠ id ∧ zr_ob Z.2.1 j' = some v))
    (kk : zw fm sx d y (pc + 3) loc rest (Z.1, va_up Z.2.1 j x, Z.2.2) Q) : zw fm sx d y pc loc (.int x :: .ref id :: rest) Z Q :=
  zw_st ho (fun h B hP => by
    obtain ⟨ga, gn, gf, G⟩ := hP
    have he := G.1 id _ hob
    have q := zr_ob_fix hob
    have hl' : k < fs.length := Nat.le_of_ble_eq_true hl
    refine ⟨am_up h id (.inr (ci, fs.set k (.int x))), fun k z => by simp only [am_stp, am_putf, he]; rw [if_pos ⟨trivial, q.2.2.2.2, hl', hf⟩], ga, gn, gf, zr_G_fix G q.1 q.2.2.1 q.2.2.2.2 rfl (fun j' v hv => ?_) (Or.inr ⟨fun e => absurd q.2.2.2.1 (by rw [← e]; decide), rfl⟩) (fun j' h1 _ => Or.inr ⟨fun e => absurd q.2.2.2.1 (by omega), rfl⟩) (Or.inr ⟨fun e => absurd q.2.2.2.1 (by rw [← e]; decide), rfl⟩)⟩
    rcases hup j' v hv with ⟨e, w, hw, e2⟩ | z
    · refine Or.inl ⟨e, ?_⟩
      rw [hob] at hw
      cases hw
      rw [e2]
    · exact Or.inr z) kk
/-- a number of the reference is put -/
theorem zw_mput {i n k : Nat} {u : Value} {x : Int32} (ho : am_ops y pc = some (.putfield i, n, 11, k, u)) (hk : Nat.blt k 58 = true) (hf : am_fit (am_ty 11 k) (.int x) = true) (hup : zr_mf (va_up Z.2.2.2.1 k x) = (zr_mf Z.2.2.2.1).set k (.int x))
    (kk : zw fm sx d y (pc + 3) loc rest (Z.1, Z.2.1, Z.2.2.1, va_up Z.2.2.2.1 k x, Z.2.2.2.2) Q) : zw fm sx d y pc loc (.int x :: .ref 136 :: rest) Z Q :=
  zw_st ho (fun h B hP => by
    obtain ⟨ga, gn, gf, G⟩ := hP
    have he : h.1 136 = some (.inr (11, zr_mf Z.2.2.2.1)) := G.2.2.2.1
    have q := zr_ref_fix 136 (by decide) (by decide)
    have hl' : k < (zr_mf Z.2.2.2.1).length := (Nat.le_of_ble_eq_true hk : k + 1 ≤ 58)
    refine ⟨am_up h 136 (.inr (11, (zr_mf Z.2.2.2.1).set k (.int x))), fun k z => by simp only [am_stp, am_putf, he]; rw [if_pos ⟨trivial, by decide, hl', hf⟩], ga, gn, gf, zr_G_fix G q.1 q.2 (by decide) rfl (fun j' v hv => Or.inr ⟨fun e => absurd (zr_ob_fix hv).2.2.2.1 (by omega), hv⟩) (Or.inl ⟨rfl, by rw [hup]⟩) (fun j' h1 _ => Or.inr ⟨by omega, rfl⟩) (Or.inr ⟨by decide, rfl⟩)⟩) kk
theorem zw_iald {n c b j : Nat} {u : Value} {i : Int32} (ho : am_ops y pc = some (.iaload, n, c, b, u)) (h1 : 137 ≤ j) (h2 : j ≤ 173) (hk : zr_akd j = 0) (hin : ¬ (i < 0 ∨ zr_alen j ≤ i.toNatClampNeg)) (kk : zw fm sx d y (pc + 1) loc (.int (Z.2.2.1 j i.toNatClampNeg) :: rest) Z Q) : zw fm sx d y pc loc (.int i :: .ref j :: rest) Z Q :=
  zw_st ho (fun h B hP => ⟨h, fun k z => by
    obtain ⟨ga, gn, gf, G⟩ := hP
    have he := G.2.2.2.2.1 j h1 h2
    rw [hk] at he
    simp only [am_stp, am_iald, he]; rw [if_pos ⟨trivial, hin⟩], hP⟩) kk
theorem zw_bald {n c b j : Nat} {u : Value} {i : Int32} (ho : am_ops y pc = some (.baload, n, c, b, u)) (h1 : 137 ≤ j) (h2 : j ≤ 173) (hk : zr_akd j = 3) (hin : ¬ (i < 0 ∨ zr_alen j ≤ i.toNatClampNeg)) (kk : zw fm sx d y (pc + 1) loc (.int (Z.2.2.1 j i.toNatClampNeg) :: rest) Z Q) : zw fm sx d y pc loc (.int i :: .ref j :: rest) Z Q :=
  zw_st ho (fun h B hP => ⟨h, fun k z => by
    obtain ⟨ga, gn, gf, G⟩ := hP
    have he := G.2.2.2.2.1 j h1 h2
    rw [hk] at he
    simp only [am_stp, am_bald, he]; rw [if_pos ⟨Or.inr trivial, hin⟩], hP⟩) kk
theorem zr_P_arr {B : Nat} {h : am_H} (hP : zr_P sx Z B h) {j : Nat} (h1 : 137 ≤ j) (h2 : j ≤ 173) (f : Nat → Int32) : zr_P sx (Z.1, Z.2.1, va_up Z.2.2.1 j f, Z.2.2.2) B (am_up h j (.inl (zr_akd j, zr_alen j, .inl f))) := by
  obtain ⟨ga, gn, gf, G⟩ := hP
  have q := zr_ref_fix j (by omega) (by omega)
  refine ⟨ga, gn, gf, zr_G_fix G q.1 q.2 (by omega) rfl (fun j' v hv => Or.inr ⟨fun e => absurd (zr_ob_fix hv).2.2.2.1 (by omega), hv⟩) (Or.inr ⟨by show 136 ≠ j; omega, rfl⟩) (fun j' _ _ => ?_) (Or.inr ⟨by show 174 ≠ j; omega, rfl⟩)⟩
  by_cases e : j' = j
  · subst e; exact Or.inl ⟨rfl, by simp [va_up]⟩
  · exact Or.inr ⟨e, by simp [va_up, e]⟩
theorem zw_iast {n c b j : Nat} {u : Value} {i x : Int32} (ho : am_ops y pc = some (.iastore, n, c, b, u)) (h1 : 137 ≤ j) (h2 : j ≤ 173) (hk : zr_akd j = 0) (hin : ¬ (i < 0 ∨ zr_alen j ≤ i.toNatClampNeg)) (kk : zw fm sx d y (pc + 1) loc rest (Z.1, Z.2.1, va_up Z.2.2.1 j (upd (Z.2.2.1 j) i.toNatClampNeg x), Z.2.2.2) Q) : zw fm sx d y pc loc (.int x :: .int i :: .ref j :: rest) Z Q :=
  zw_st ho (fun h B hP => ⟨am_up h j (.inl (zr_akd j, zr_alen j, .inl (upd (Z.2.2.1 j) i.toNatClampNeg x))), fun k z => by
    obtain ⟨ga, gn, gf, G⟩ := hP
    have he := G.2.2.2.2.1 j h1 h2
    rw [hk] at he ⊢
    simp only [am_stp, am_iast, he]; rw [if_pos ⟨trivial, (by show 57 ≤ j; omega), hin⟩], zr_P_arr hP h1 h2 _⟩) kk
theorem zw_bast {n c b j : Nat} {u : Value} {i x : Int32} (ho : am_ops y pc = some (.bastore, n, c, b, u)) (h1 : 137 ≤ j) (h2 : j ≤ 173) (hk : zr_akd j = 3) (hx : x = 0 ∨ x = 1) (hin : ¬ (i < 0 ∨ zr_alen j ≤ i.toNatClampNeg)) (kk : zw fm sx d y (pc + 1) loc rest (Z.1, Z.2.1, va_up Z.2.2.1 j (upd (Z.2.2.1 j) i.toNatClampNeg x), Z.2.2.2) Q) : zw fm sx d y pc loc (.int x :: .int i :: .ref j :: rest) Z Q :=
  zw_st ho (fun h B hP => ⟨am_up h j (.inl (zr_akd j, zr_alen j, .inl (upd (Z.2.2.1 j) i.toNatClampNeg x))), fun k z => by
    obtain ⟨ga, gn, gf, G⟩ := hP
    have he := G.2.2.2.2.1 j h1 h2
    rw [hk] at he ⊢
    simp only [am_stp, am_bast, he]; rw [if_pos ⟨trivial, (by show 57 ≤ j; omega), hx, hin⟩], zr_P_arr hP h1 h2 _⟩) kk
/-- the table of named characters -/
theorem zw_nald {n c b : Nat} {u : Value} {i : Int32} (ho : am_ops y pc = some (.iaload, n, c, b, u)) (hin : ¬ (i < 0 ∨ 16 ≤ i.toNatClampNeg)) (kk : zw fm sx d y (pc + 1) loc (.int (zr_named.getD i.toNatClampNeg 0) :: rest) Z Q) : zw fm sx d y pc loc (.int i :: .ref 1 :: rest) Z Q :=
  zw_st ho (fun h B hP => ⟨h, fun k z => by
    obtain ⟨ga, gn, gf, G⟩ := hP
    have he := G.2.2.2.2.2.2.1.2.1
    simp only [am_stp, am_iald, he]; rw [if_pos ⟨trivial, hin⟩], hP⟩) kk
theorem zw_nalen {n c b : Nat} {u : Value} (ho : am_ops y pc = some (.arraylength, n, c, b, u)) (kk : zw fm sx d y (pc + 1) loc (.int (nI 16) :: rest) Z Q) : zw fm sx d y pc loc (.ref 1 :: rest) Z Q :=
  zw_st ho (fun h B hP => ⟨h, fun k z => by
    obtain ⟨ga, gn, gf, G⟩ := hP
    have he := G.2.2.2.2.2.2.1.2.1
    simp only [am_stp, am_alen, he]; rw [if_pos (by decide)]; rfl, hP⟩) kk
end ZwHeap
