theorem REL_C {C R C' : zr_Z} (h : REL C R) (h1 : C'.1 = C.1) (h2 : C'.2.1 = C.2.1) : REL C' R := by
  obtain ⟨⟨T, D, a⟩, b, c, d, e⟩ := h
  have hz : ∀ j, zc C' j = zc C j := fun j => congrFun h2 j
  have hr : ∀ id, C'.1 id = C.1 id := fun id => congrFun h1 id
  exact ⟨⟨T, D, IT_part a (hr 61) (hr 83) (hr 85) (fun _ _ _ => rfl) rfl rfl⟩, RDY_keep b (hr 58) (fun _ => rfl), OUTR_keep c (hr 134) (fun _ => rfl) rfl, NDS_keep d (fun id _ _ => hr id) (hz 5) (fun _ _ _ => rfl) rfl rfl, FLT_keep e (hz 4) (hz 3) rfl rfl⟩
theorem REL_R {C R R' : zr_Z} (h : REL C R) (h1 : R'.2.2.1 = R.2.2.1) (h2 : R'.2.2.2.1 = R.2.2.2.1) : REL C R' := by
  obtain ⟨⟨T, D, a⟩, b, c, d, e⟩ := h
  have hz : ∀ j, zf R' j = zf R j := fun j => congrFun h2 j
  have hr : ∀ j i, rv R' j i = rv R j i := fun j i => congrFun (congrFun h1 j) i
  exact ⟨⟨T, D, IT_part a rfl rfl rfl (fun j _ i => hr j i) (hz 3) (hz 7)⟩, RDY_keep b rfl (fun i => hr 138 i), OUTR_keep c rfl (fun i => hr 172 i) (hz 49), NDS_keep d (fun _ _ _ => rfl) rfl (fun j _ i => hr j i) (hz 45) (hz 10), FLT_keep e rfl rfl (hz 46) (hz 47)⟩
theorem REL_22 {C R R' : zr_Z} (h : REL C R) (h1 : R'.2.2 = R.2.2) : REL C R' := REL_R h (by rw [h1]) (by rw [h1])
theorem REL_one {C R0 R' : zr_Z} (h : REL C R') (h1 : R0.1 = C.1) (h2 : R0.2.1 = C.2.1) (hf : RF R0 R') : REL R' R' := REL_C h (hf.1.trans h1) (hf.2.1.trans h2)
theorem st_feed {Z : zr_Z} (h : REL Z Z) (w0 w1 w2 w3 w4 : Int32) : ∃ Z', o_153 (f_8 Z w0 w1 w2 w3 w4) w0 w1 w2 w3 w4 = some Z' ∧ REL Z' Z' ∧ Z'.2.2.2.2 = Z.2.2.2.2 := by
  obtain ⟨-, -, -, e, -⟩ := feed_both h w0 w1 w2 w3 w4
  obtain ⟨R', a, b, -, c⟩ := feed_both (REL_22 h e) w0 w1 w2 w3 w4
  exact ⟨R', a, REL_one b rfl rfl c, c.2.2.trans (by rw [e])⟩
theorem st_end {Z : zr_Z} (h : REL Z Z) (m : Int32) : ∃ Z', o_155 (f_10 Z m).2 m = some ((f_10 Z m).1, Z') ∧ REL Z' Z' ∧ Z'.2.2.2.2 = Z.2.2.2.2 := by
  obtain ⟨-, -, -, e, -⟩ := end_both h m
  obtain ⟨R', a, b, -, c⟩ := end_both (REL_22 h e) m
  exact ⟨R', a, REL_one b rfl rfl c, c.2.2.trans (by rw [e])⟩
theorem st_wipe {Z : zr_Z} (h : REL Z Z) : ∃ Z', o_156 (f_11 Z) = some Z' ∧ REL Z' Z' ∧ Z'.2.2.2.2 = Z.2.2.2.2 := by
  obtain ⟨-, -, -, e, -⟩ := wipe_both h
  obtain ⟨R', a, b, -, c⟩ := wipe_both (REL_22 h e)
  exact ⟨R', a, REL_one b rfl rfl c, c.2.2.trans (by rw [e])⟩
theorem st_drop {Z : zr_Z} (h : REL Z Z) : ∃ Z', o_158 (f_13 Z) = some Z' ∧ REL Z' Z' ∧ Z'.2.2.2.2 = Z.2.2.2.2 := by
  obtain ⟨-, -, -, e, -⟩ := drop_both h
  obtain ⟨R', a, b, -, c⟩ := drop_both (REL_22 h e)
  exact ⟨R', a, REL_one b rfl rfl c, c.2.2.trans (by rw [e])⟩
theorem st_fault {Z : zr_Z} (h : REL Z Z) (wh : Int32) : ∃ Z', o_160 Z wh = some (f_15 Z wh, Z') ∧ REL Z' Z' := by
  obtain ⟨R', a, b, c⟩ := fault_both h wh
  exact ⟨R', a, REL_one b rfl rfl c⟩
theorem st_node {Z : zr_Z} (h : REL Z Z) (k wh : Int32) : ∃ Z', o_162 Z k wh = some (f_1 Z k wh, Z') ∧ REL Z' Z' := by
  obtain ⟨R', a, b, c⟩ := node_both h k wh
  exact ⟨R', a, REL_one b rfl rfl c⟩
theorem st_letter {Z : zr_Z} (h : REL Z Z) (k : Int32) (ti : Bool) (i : Int32) : ∃ Z', o_163 Z k ti i = some (f_2 Z k ti i, Z') ∧ REL Z' Z' := by
  obtain ⟨R', a, b, c⟩ := letter_both h k ti i
  exact ⟨R', a, REL_one b rfl rfl c⟩
theorem st_output {Z : zr_Z} (h : REL Z Z) (i : Int32) : ∃ Z', o_179 Z i = some (f_5 Z i, Z') ∧ REL Z' Z' := by
  obtain ⟨R', a, b, c⟩ := output_both h i
  exact ⟨R', a, REL_one b rfl rfl c⟩
theorem st_about {Z : zr_Z} (h : REL Z Z) (wh : Int32) : ∃ Z', o_180 Z wh = some (f_6 Z wh, Z') ∧ REL Z' Z' := by
  obtain ⟨R', a, b, c⟩ := about_both h wh
  exact ⟨R', a, REL_one b rfl rfl c⟩
/-- an answer is kept -/
def zlg (Z : zr_Z) (L : Nat → Int64) : zr_Z := (Z.1, Z.2.1, Z.2.2.1, Z.2.2.2.1, L)
/-- a call that may throw: the class answers, or throws; the reference tells the same -/
def TWO (Z : zr_Z) (cl : Option (Int32 × zr_Z)) (rf : zr_Z → Option (Int32 × zr_Z)) (thr : Int32 → zr_Z → Prop) : Prop :=
  (∃ a C', cl = some (a, C') ∧ ∀ L, ∃ Z', rf (zlg C' L) = some (a, Z') ∧ zf Z' 0 = 0 ∧ REL Z' Z' ∧ Z'.2.2.2.2 = L) ∨
  (∃ x C', ¬ x = 0 ∧ thr x C' ∧ ∃ b Z', rf C' = some (b, Z') ∧ zf Z' 0 = x ∧ REL Z' Z' ∧ Z'.2.2.2.2 = Z.2.2.2.2)
theorem st_define {Z : zr_Z} (h : REL Z Z) : TWO Z (o_12 Z) o_157 (fun x C' => (x = 1 ∧ f_19 Z = false ∧ C' = Z) ∨ (x = 2 ∧ f_19 Z = true ∧ (f_20 Z 0 (zs Z 61)).1 = -1 ∧ (f_21 (f_20 Z 0 (zs Z 61)).2).1 = -1 ∧ C' = (f_21 (f_20 Z 0 (zs Z 61)).2).2)) := by
  rcases define_both h with ⟨a, C', R', h1, h2, h3, h4, h5⟩ | ⟨h1, R', h2, h3, h4⟩ | ⟨h1, h2, h3, R', h4, h5, h6, h7⟩
  · left
    refine ⟨a, C', h1, fun L => ?_⟩
    have hR : REL Z (zlg C' L) := REL_R h (by show C'.2.2.1 = _; rw [h5]) (by show C'.2.2.2.1 = _; rw [h5])
    rcases define_both hR with ⟨a2, C2, R2, g1, g2, g3, g4, g5⟩ | ⟨g1, R2, -⟩ | ⟨g1, g2, g3, R2, -⟩
    · cases h1.symm.trans g1
      have hf := RF_o157 g2
      exact ⟨R2, g2, g3, REL_one (R0 := zlg C' L) g4 rfl rfl hf, hf.2.2⟩
    · exfalso; unfold o_12 at h1; rw [g1, if_neg (by decide)] at h1; cases h1
    · exfalso; unfold o_12 olet at h1
      rw [if_pos g1, if_neg (fun hh => hh g2), g3] at h1; dsimp only at h1; rw [if_neg (fun hh => hh rfl)] at h1; cases h1
  · right
    have hf := RF_o157 h2
    exact ⟨1, Z, by decide, Or.inl ⟨rfl, h1, rfl⟩, 0, R', h2, h3, REL_one h4 rfl rfl hf, hf.2.2⟩
  · right
    have hR : REL Z (f_21 (f_20 Z 0 (zs Z 61)).2).2 := REL_22 h h7
    rcases define_both hR with ⟨a2, C2, R2, g1, g2, g3, g4, g5⟩ | ⟨g1, -⟩ | ⟨g1, g2, g3, R2, g4, g5, g6, g7⟩
    · exfalso; unfold o_12 olet at g1
      rw [if_pos h1, if_neg (fun hh => hh h2), h3] at g1; dsimp only at g1; rw [if_neg (fun hh => hh rfl)] at g1; cases g1
    · rw [h1] at g1; cases g1
    · have hf := RF_o157 g4
      exact ⟨2, _, by decide, Or.inr ⟨rfl, h1, h2, h3, rfl⟩, 0, R2, g4, g5, REL_one g6 rfl rfl hf, hf.2.2.trans (by rw [h7])⟩
theorem st_read {Z : zr_Z} (h : REL Z Z) : TWO Z (o_14 Z) o_159 (fun x C' => x = 1 ∧ q_14 Z = some C') := by
  have no : ∀ a C' C2, o_14 Z = some (a, C') → q_14 Z = some C2 → False := by
    intro a C' C2 h1 h2
    unfold o_14 at h1; unfold q_14 at h2
    obtain ⟨u1, e1, h1⟩ := Option.bind_eq_some_iff.mp h1
    rw [e1, Option.bind_some] at h2
    rw [zc_same] at h1
    by_cases hz : zc u1 2 = 0
    · rw [if_neg (fun hh => hh hz)] at h1 h2
      obtain ⟨u4, e4, h1⟩ := Option.bind_eq_some_iff.mp h1
      rw [e4, Option.bind_some] at h2
      by_cases hb : u4.1 = true
      · rw [if_pos hb] at h2; cases h2
      · rw [if_neg hb, zc_same, if_neg (by decide)] at h1; cases h1
    · rw [if_pos hz, if_neg hz] at h1; cases h1
  rcases read_rel h with ⟨a, C', R', h1, h2, h3, h4, h5, h6⟩ | ⟨C', R', h1, h2, h3, h4, h5, h6⟩
  · left
    refine ⟨a, C', h1, fun L => ?_⟩
    have hR : REL Z (zlg C' L) := REL_R h (by show C'.2.2.1 = _; rw [h5]) (by show C'.2.2.2.1 = _; rw [h5])
    rcases read_rel hR with ⟨a2, C2, R2, g1, g2, g3, g4, g5, g6⟩ | ⟨C2, R2, g1, -⟩
    · cases h1.symm.trans g1
      exact ⟨R2, g2, g3, REL_one (R0 := zlg C' L) g4 rfl rfl g6, g6.2.2⟩
    · exact (no _ _ _ h1 g1).elim
  · right
    rcases read_rel (REL_22 h h5) with ⟨a2, C2, R2, g1, -⟩ | ⟨C2, R2, g1, g2, g3, g4, g5, g6⟩
    · exact (no _ _ _ g1 h1).elim
    · cases h1.symm.trans g1
      exact ⟨1, C', by decide, ⟨rfl, h1⟩, 0, R2, g2, g3, REL_one g4 rfl rfl g6, g6.2.2.trans (by rw [h5])⟩
theorem st_plain {Z : zr_Z} (h : REL Z Z) (k : Int32) : TWO Z (o_3 Z k) (fun Z => o_170 Z k) (fun x C' => x = 1 ∧ f_45 Z k = false ∧ C' = Z) := by
  rcases plain_rel h k with ⟨a, C', R', h1, h2, h3, h4, h5, h6⟩ | ⟨h1, R', h2, h3, h4, h5⟩
  · left
    refine ⟨a, C', h1, fun L => ?_⟩
    have hR : REL Z (zlg C' L) := REL_R h (by show C'.2.2.1 = _; rw [h5]) (by show C'.2.2.2.1 = _; rw [h5])
    rcases plain_rel hR k with ⟨a2, C2, R2, g1, g2, g3, g4, g5, g6⟩ | ⟨g1, -⟩
    · cases h1.symm.trans g1
      exact ⟨R2, g2, g3, REL_one (R0 := zlg C' L) g4 rfl rfl g6, g6.2.2⟩
    · exfalso; unfold o_3 at h1; rw [g1, if_neg (by decide)] at h1; cases h1
  · right
    exact ⟨1, Z, by decide, ⟨rfl, h1, rfl⟩, 0, R', h2, h3, REL_one h4 rfl rfl h5, h5.2.2⟩
theorem st_write {Z : zr_Z} (h : REL Z Z) : TWO Z (o_4 Z) o_178 (fun x C' => x = 1 ∧ f_44 Z = -1 ∧ C' = Z) := by
  rcases write_rel h with ⟨a, C', R', h1, h2, h3, h4, h5, h6⟩ | ⟨h1, R', h2, h3, h4, h5⟩
  · left
    refine ⟨a, C', h1, fun L => ?_⟩
    have hR : REL Z (zlg C' L) := REL_R h (by show C'.2.2.1 = _; rw [h5]) (by show C'.2.2.2.1 = _; rw [h5])
    rcases write_rel hR with ⟨a2, C2, R2, g1, g2, g3, g4, g5, g6⟩ | ⟨g1, -⟩
    · cases h1.symm.trans g1
      exact ⟨R2, g2, g3, REL_one (R0 := zlg C' L) g4 rfl rfl g6, g6.2.2⟩
    · exfalso; unfold o_4 at h1; rw [g1, if_neg (by decide)] at h1; cases h1
  · right
    exact ⟨1, Z, by decide, ⟨rfl, h1, rfl⟩, 0, R', h2, h3, REL_one h4 rfl rfl h5, h5.2.2⟩
