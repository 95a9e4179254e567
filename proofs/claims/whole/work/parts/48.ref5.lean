/-! walks into Option; written by wip/whole/gen_opt.py -/
/-- MarkInlinesModel.feed, its loop at 8 -/
def g_153_8 : Nat → zr_Z → Int32 → Int32 → Int32 → Int32 → Int32 → Int32 → Option zr_Z
  | 0, _, _, _, _, _, _, _ => none
  | n + 1, Z, w0, w1, w2, w3, w4, x6 => (if 20 ≤ x6 then some Z else (olet ((if 4 ≤ x6 then (if 8 ≤ x6 then (if 12 ≤ x6 then (if 16 ≤ x6 then w4 else w3 : Int32) else w2 : Int32) else w1 : Int32) else w0 : Int32) : Int32) fun x8 => (if inq 138 x6 then g_153_8 n (zar Z 138 x6 ((x8 >>> ((24 - (8 * (x6 - x6 / 4 * 4))) &&& 31)) &&& 255)) w0 w1 w2 w3 w4 (x6 + 1) else none)))
set_option maxRecDepth 100000 in
set_option maxHeartbeats 4000000 in
theorem l_153_8 {fm : Value} {sx : Nat × (Nat → Int32)} {d : Nat} {Q : Option Value → zr_Z → Prop} (hu : fm = .null ∨ ∃ q, fm = .ref q) (w0 : Int32) (w1 : Int32) (w2 : Int32) (w3 : Int32) (w4 : Int32) : ∀ (n : Nat) (Z : zr_Z) (x6 : Int32), oq (g_153_8 n Z w0 w1 w2 w3 w4 x6) (fun x => Q none x) → zw fm sx (d + 0) 153 8 [some (.ref 136), some (.int w0), some (.int w1), some (.int w2), some (.int w3), some (.int w4), some (.int x6), none] [] Z Q := by
  intro n
  induction n with
  | zero => intro Z x6 H; exact absurd H oq_none
  | succ n ih =>
    intro Z x6 H
    unfold g_153_8 at H
    refine zw_run 2 (pc' := 12) (loc' := [some (.ref 136), some (.int w0), some (.int w1), some (.int w2), some (.int w3), some (.int w4), some (.int x6), none]) (stk' := [.int 20, .int x6]) (fun _ _ _ => rfl) ?_
    refine zw_br (c := 20 ≤ x6) (t1 := 93) (t2 := 15) (loc' := [some (.ref 136), some (.int w0), some (.int w1), some (.int w2), some (.int w3), some (.int w4), some (.int x6), none]) (stk' := []) (fun _ _ _ => rfl) (fun c1 => ?_) (fun c1 => ?_)
    · rw [if_pos c1] at H
      refine zw_retv rfl rfl ?_
      have H := oq_some H
      exact H
    · rw [if_neg c1] at H
      refine zw_run 2 (pc' := 18) (loc' := [some (.ref 136), some (.int w0), some (.int w1), some (.int w2), some (.int w3), some (.int w4), some (.int x6), none]) (stk' := [.int 4, .int x6]) (fun _ _ _ => rfl) ?_
      have J7 : ∀ (v6 : Int32), v6 = (if 4 ≤ x6 then (if 8 ≤ x6 then (if 12 ≤ x6 then (if 16 ≤ x6 then w4 else w3 : Int32) else w2 : Int32) else w1 : Int32) else w0 : Int32) → zw fm sx (d + 0) 153 61 [some (.ref 136), some (.int w0), some (.int w1), some (.int w2), some (.int w3), some (.int w4), some (.int x6), none] [.int v6] Z Q := by
        intro v6 ev6
        subst ev6
        refine zw_run 1 (pc' := 63) (loc' := [some (.ref 136), some (.int w0), some (.int w1), some (.int w2), some (.int w3), some (.int w4), some (.int x6), some (.int (if 4 ≤ x6 then (if 8 ≤ x6 then (if 12 ≤ x6 then (if 16 ≤ x6 then w4 else w3 : Int32) else w2 : Int32) else w1 : Int32) else w0 : Int32))]) (stk' := []) (fun _ _ _ => rfl) ?_
        obtain ⟨x8, hx8⟩ : ∃ w : Int32, w = (if 4 ≤ x6 then (if 8 ≤ x6 then (if 12 ≤ x6 then (if 16 ≤ x6 then w4 else w3 : Int32) else w2 : Int32) else w1 : Int32) else w0 : Int32) := ⟨_, rfl⟩
        rw [← hx8]
        have H := oq_let H x8 hx8
        refine zw_run 1 (pc' := 64) (loc' := [some (.ref 136), some (.int w0), some (.int w1), some (.int w2), some (.int w3), some (.int w4), some (.int x6), some (.int x8)]) (stk' := [.ref 136]) (fun _ _ _ => rfl) ?_
        refine zw_mget (v := .ref 138) rfl rfl ?_
        refine zw_run 12 (pc' := 86) (loc' := [some (.ref 136), some (.int w0), some (.int w1), some (.int w2), some (.int w3), some (.int w4), some (.int x6), some (.int x8)]) (stk' := [.int ((x8 >>> ((24 - (8 * (x6 - x6 / 4 * 4))) &&& 31)) &&& 255), .int x6, .ref 138]) (fun _ _ _ => rfl) ?_
        obtain ⟨b9, H⟩ := oq_ob H
        refine zw_iast (j := 138) rfl (by decide) (by decide) rfl b9 ?_
        show zw fm sx (d + 0) 153 87 [some (.ref 136), some (.int w0), some (.int w1), some (.int w2), some (.int w3), some (.int w4), some (.int x6), some (.int x8)] [] (zar Z 138 x6 ((x8 >>> ((24 - (8 * (x6 - x6 / 4 * 4))) &&& 31)) &&& 255)) Q
        refine zw_run 2 (pc' := 8) (loc' := [some (.ref 136), some (.int w0), some (.int w1), some (.int w2), some (.int w3), some (.int w4), some (.int (x6 + 1)), some (.int x8)]) (stk' := []) (fun _ _ _ => rfl) ?_
        refine zw_fgt [true, true, true, true, true, true, true, false] rfl ?_
        exact ih (zar Z 138 x6 ((x8 >>> ((24 - (8 * (x6 - x6 / 4 * 4))) &&& 31)) &&& 255)) (x6 + 1) H
      refine zw_br (c := 4 ≤ x6) (t1 := 25) (t2 := 21) (loc' := [some (.ref 136), some (.int w0), some (.int w1), some (.int w2), some (.int w3), some (.int w4), some (.int x6), none]) (stk' := []) (fun _ _ _ => rfl) (fun c2 => ?_) (fun c2 => ?_)
      · skip
        refine zw_run 2 (pc' := 29) (loc' := [some (.ref 136), some (.int w0), some (.int w1), some (.int w2), some (.int w3), some (.int w4), some (.int x6), none]) (stk' := [.int 8, .int x6]) (fun _ _ _ => rfl) ?_
        refine zw_br (c := 8 ≤ x6) (t1 := 36) (t2 := 32) (loc' := [some (.ref 136), some (.int w0), some (.int w1), some (.int w2), some (.int w3), some (.int w4), some (.int x6), none]) (stk' := []) (fun _ _ _ => rfl) (fun c3 => ?_) (fun c3 => ?_)
        · skip
          refine zw_run 2 (pc' := 40) (loc' := [some (.ref 136), some (.int w0), some (.int w1), some (.int w2), some (.int w3), some (.int w4), some (.int x6), none]) (stk' := [.int 12, .int x6]) (fun _ _ _ => rfl) ?_
          refine zw_br (c := 12 ≤ x6) (t1 := 47) (t2 := 43) (loc' := [some (.ref 136), some (.int w0), some (.int w1), some (.int w2), some (.int w3), some (.int w4), some (.int x6), none]) (stk' := []) (fun _ _ _ => rfl) (fun c4 => ?_) (fun c4 => ?_)
          · skip
            refine zw_run 2 (pc' := 51) (loc' := [some (.ref 136), some (.int w0), some (.int w1), some (.int w2), some (.int w3), some (.int w4), some (.int x6), none]) (stk' := [.int 16, .int x6]) (fun _ _ _ => rfl) ?_
            refine zw_br (c := 16 ≤ x6) (t1 := 59) (t2 := 54) (loc' := [some (.ref 136), some (.int w0), some (.int w1), some (.int w2), some (.int w3), some (.int w4), some (.int x6), none]) (stk' := []) (fun _ _ _ => rfl) (fun c5 => ?_) (fun c5 => ?_)
            · skip
              refine zw_run 1 (pc' := 61) (loc' := [some (.ref 136), some (.int w0), some (.int w1), some (.int w2), some (.int w3), some (.int w4), some (.int x6), none]) (stk' := [.int w4]) (fun _ _ _ => rfl) ?_
              exact J7 _ (by first | (rw [if_pos c2, if_pos c3, if_pos c4, if_pos c5]; done) | (rw [if_pos c2, if_pos c3, if_pos c4, if_pos c5]; rfl) | (clear H J7; simp_all [bI]; done))
            · skip
              refine zw_run 2 (pc' := 61) (loc' := [some (.ref 136), some (.int w0), some (.int w1), some (.int w2), some (.int w3), some (.int w4), some (.int x6), none]) (stk' := [.int w3]) (fun _ _ _ => rfl) ?_
              exact J7 _ (by first | (rw [if_pos c2, if_pos c3, if_pos c4, if_neg c5]; done) | (rw [if_pos c2, if_pos c3, if_pos c4, if_neg c5]; rfl) | (clear H J7; simp_all [bI]; done))
          · skip
            refine zw_run 2 (pc' := 61) (loc' := [some (.ref 136), some (.int w0), some (.int w1), some (.int w2), some (.int w3), some (.int w4), some (.int x6), none]) (stk' := [.int w2]) (fun _ _ _ => rfl) ?_
            exact J7 _ (by first | (rw [if_pos c2, if_pos c3, if_neg c4]; done) | (rw [if_pos c2, if_pos c3, if_neg c4]; rfl) | (clear H J7; simp_all [bI]; done))
        · skip
          refine zw_run 2 (pc' := 61) (loc' := [some (.ref 136), some (.int w0), some (.int w1), some (.int w2), some (.int w3), some (.int w4), some (.int x6), none]) (stk' := [.int w1]) (fun _ _ _ => rfl) ?_
          exact J7 _ (by first | (rw [if_pos c2, if_neg c3]; done) | (rw [if_pos c2, if_neg c3]; rfl) | (clear H J7; simp_all [bI]; done))
      · skip
        refine zw_run 2 (pc' := 61) (loc' := [some (.ref 136), some (.int w0), some (.int w1), some (.int w2), some (.int w3), some (.int w4), some (.int x6), none]) (stk' := [.int w0]) (fun _ _ _ => rfl) ?_
        exact J7 _ (by first | (rw [if_neg c2]; done) | (rw [if_neg c2]; rfl) | (clear H J7; simp_all [bI]; done))
/-- MarkInlinesModel.feed -/
def o_153 (Z : zr_Z) (w0 : Int32) (w1 : Int32) (w2 : Int32) (w3 : Int32) (w4 : Int32) : Option zr_Z := g_153_8 oF (zmf Z 0 0) w0 w1 w2 w3 w4 0
set_option maxRecDepth 100000 in
set_option maxHeartbeats 4000000 in
theorem t_153 {fm : Value} {sx : Nat × (Nat → Int32)} {d : Nat} {Z : zr_Z} {Q : Option Value → zr_Z → Prop} (hu : fm = .null ∨ ∃ q, fm = .ref q) (w0 : Int32) (w1 : Int32) (w2 : Int32) (w3 : Int32) (w4 : Int32) (H : oq (o_153 Z w0 w1 w2 w3 w4) (fun x => Q none x)) : zw fm sx (d + 0) 153 0 [some (.ref 136), some (.int w0), some (.int w1), some (.int w2), some (.int w3), some (.int w4), none, none] [] Z Q := by
  unfold o_153 at H
  refine zw_run 2 (pc' := 2) (loc' := [some (.ref 136), some (.int w0), some (.int w1), some (.int w2), some (.int w3), some (.int w4), none, none]) (stk' := [.int 0, .ref 136]) (fun _ _ _ => rfl) ?_
  refine zw_mput rfl rfl rfl rfl ?_
  show zw fm sx (d + 0) 153 5 [some (.ref 136), some (.int w0), some (.int w1), some (.int w2), some (.int w3), some (.int w4), none, none] [] (zmf Z 0 0) Q
  refine zw_run 2 (pc' := 8) (loc' := [some (.ref 136), some (.int w0), some (.int w1), some (.int w2), some (.int w3), some (.int w4), some (.int 0), none]) (stk' := []) (fun _ _ _ => rfl) ?_
  exact l_153_8 hu w0 w1 w2 w3 w4 _ (zmf Z 0 0) 0 H
theorem c_153 {fm : Value} {sx : Nat × (Nat → Int32)} {d : Nat} {Z : zr_Z} (hu : fm = .null ∨ ∃ q, fm = .ref q) (w0 : Int32) (w1 : Int32) (w2 : Int32) (w3 : Int32) (w4 : Int32) {x : zr_Z} (hx : o_153 Z w0 w1 w2 w3 w4 = some x) : zl fm sx (d + 1) 153 [.ref 136, .int w0, .int w1, .int w2, .int w3, .int w4] Z (fun r Z' => r = none ∧ Z' = x) :=
  zl_of (nL := 8) (loc0 := [some (.ref 136), some (.int w0), some (.int w1), some (.int w2), some (.int w3), some (.int w4), none, none]) rfl rfl rfl (t_153 hu w0 w1 w2 w3 w4 ⟨x, hx, rfl, rfl⟩)
/-- MarkInlinesModel.end, its loop at 31 -/
def g_155_31 : Nat → zr_Z → Int32 → Int32 → Option (Int32 × zr_Z)
  | 0, _, _, _ => none
  | n + 1, Z, m, x2 => (if 20 ≤ x2 then some (zf Z 3, Z) else (if m ≤ x2 then (if inq 138 x2 then g_155_31 n (zar Z 138 x2 0) m (x2 + 1) else none) else (if inq 138 x2 then (if inq 137 (zf Z 3) then (if inq 138 x2 then g_155_31 n (zar (zmf (zar Z 137 (zf Z 3) (zv Z 138 x2)) 3 ((zf Z 3) + 1)) 138 x2 0) m (x2 + 1) else none) else none) else none)))
set_option maxRecDepth 100000 in
set_option maxHeartbeats 4000000 in
theorem l_155_31 {fm : Value} {sx : Nat × (Nat → Int32)} {d : Nat} {Q : Option Value → zr_Z → Prop} (hu : fm = .null ∨ ∃ q, fm = .ref q) (m : Int32) : ∀ (n : Nat) (Z : zr_Z) (x2 : Int32), oq (g_155_31 n Z m x2) (fun x => Q (some (.int x.1)) x.2) → zw fm sx (d + 0) 155 31 [some (.ref 136), some (.int m), some (.int x2)] [] Z Q := by
  intro n
  induction n with
  | zero => intro Z x2 H; exact absurd H oq_none
  | succ n ih =>
    intro Z x2 H
    unfold g_155_31 at H
    refine zw_run 2 (pc' := 34) (loc' := [some (.ref 136), some (.int m), some (.int x2)]) (stk' := [.int 20, .int x2]) (fun _ _ _ => rfl) ?_
    refine zw_br (c := 20 ≤ x2) (t1 := 80) (t2 := 37) (loc' := [some (.ref 136), some (.int m), some (.int x2)]) (stk' := []) (fun _ _ _ => rfl) (fun c1 => ?_) (fun c1 => ?_)
    · rw [if_pos c1] at H
      refine zw_run 1 (pc' := 81) (loc' := [some (.ref 136), some (.int m), some (.int x2)]) (stk' := [.ref 136]) (fun _ _ _ => rfl) ?_
      refine zw_mget (v := .int (zf Z 3)) rfl rfl ?_
      refine zw_reti (i := .nop) rfl rfl ?_
      have H := oq_some H
      exact H
    · rw [if_neg c1] at H
      refine zw_run 2 (pc' := 39) (loc' := [some (.ref 136), some (.int m), some (.int x2)]) (stk' := [.int m, .int x2]) (fun _ _ _ => rfl) ?_
      refine zw_br (c := m ≤ x2) (t1 := 67) (t2 := 42) (loc' := [some (.ref 136), some (.int m), some (.int x2)]) (stk' := []) (fun _ _ _ => rfl) (fun c2 => ?_) (fun c2 => ?_)
      · rw [if_pos c2] at H
        refine zw_run 1 (pc' := 68) (loc' := [some (.ref 136), some (.int m), some (.int x2)]) (stk' := [.ref 136]) (fun _ _ _ => rfl) ?_
        refine zw_mget (v := .ref 138) rfl rfl ?_
        refine zw_run 2 (pc' := 73) (loc' := [some (.ref 136), some (.int m), some (.int x2)]) (stk' := [.int 0, .int x2, .ref 138]) (fun _ _ _ => rfl) ?_
        obtain ⟨b3, H⟩ := oq_ob H
        refine zw_iast (j := 138) rfl (by decide) (by decide) rfl b3 ?_
        show zw fm sx (d + 0) 155 74 [some (.ref 136), some (.int m), some (.int x2)] [] (zar Z 138 x2 0) Q
        refine zw_run 2 (pc' := 31) (loc' := [some (.ref 136), some (.int m), some (.int (x2 + 1))]) (stk' := []) (fun _ _ _ => rfl) ?_
        exact ih (zar Z 138 x2 0) (x2 + 1) H
      · rw [if_neg c2] at H
        refine zw_run 1 (pc' := 43) (loc' := [some (.ref 136), some (.int m), some (.int x2)]) (stk' := [.ref 136]) (fun _ _ _ => rfl) ?_
        refine zw_mget (v := .ref 137) rfl rfl ?_
        refine zw_run 1 (pc' := 47) (loc' := [some (.ref 136), some (.int m), some (.int x2)]) (stk' := [.ref 136, .ref 137]) (fun _ _ _ => rfl) ?_
        refine zw_mget (v := .int (zf Z 3)) rfl rfl ?_
        refine zw_run 1 (pc' := 51) (loc' := [some (.ref 136), some (.int m), some (.int x2)]) (stk' := [.ref 136, .int (zf Z 3), .ref 137]) (fun _ _ _ => rfl) ?_
        refine zw_mget (v := .ref 138) rfl rfl ?_
        refine zw_run 1 (pc' := 55) (loc' := [some (.ref 136), some (.int m), some (.int x2)]) (stk' := [.int x2, .ref 138, .int (zf Z 3), .ref 137]) (fun _ _ _ => rfl) ?_
        obtain ⟨b4, H⟩ := oq_ob H
        refine zw_iald (j := 138) rfl (by decide) (by decide) rfl b4 ?_
        obtain ⟨b5, H⟩ := oq_ob H
        refine zw_iast (j := 137) rfl (by decide) (by decide) rfl b5 ?_
        show zw fm sx (d + 0) 155 57 [some (.ref 136), some (.int m), some (.int x2)] [] (zar Z 137 (zf Z 3) (zv Z 138 x2)) Q
        refine zw_run 2 (pc' := 59) (loc' := [some (.ref 136), some (.int m), some (.int x2)]) (stk' := [.ref 136, .ref 136]) (fun _ _ _ => rfl) ?_
        refine zw_mget (v := .int (zf Z 3)) rfl rfl ?_
        refine zw_run 2 (pc' := 64) (loc' := [some (.ref 136), some (.int m), some (.int x2)]) (stk' := [.int ((zf Z 3) + 1), .ref 136]) (fun _ _ _ => rfl) ?_
        refine zw_mput rfl rfl rfl rfl ?_
        show zw fm sx (d + 0) 155 67 [some (.ref 136), some (.int m), some (.int x2)] [] (zmf (zar Z 137 (zf Z 3) (zv Z 138 x2)) 3 ((zf Z 3) + 1)) Q
        refine zw_run 1 (pc' := 68) (loc' := [some (.ref 136), some (.int m), some (.int x2)]) (stk' := [.ref 136]) (fun _ _ _ => rfl) ?_
        refine zw_mget (v := .ref 138) rfl rfl ?_
        refine zw_run 2 (pc' := 73) (loc' := [some (.ref 136), some (.int m), some (.int x2)]) (stk' := [.int 0, .int x2, .ref 138]) (fun _ _ _ => rfl) ?_
        obtain ⟨b6, H⟩ := oq_ob H
        refine zw_iast (j := 138) rfl (by decide) (by decide) rfl b6 ?_
        show zw fm sx (d + 0) 155 74 [some (.ref 136), some (.int m), some (.int x2)] [] (zar (zmf (zar Z 137 (zf Z 3) (zv Z 138 x2)) 3 ((zf Z 3) + 1)) 138 x2 0) Q
        refine zw_run 2 (pc' := 31) (loc' := [some (.ref 136), some (.int m), some (.int (x2 + 1))]) (stk' := []) (fun _ _ _ => rfl) ?_
        exact ih (zar (zmf (zar Z 137 (zf Z 3) (zv Z 138 x2)) 3 ((zf Z 3) + 1)) 138 x2 0) (x2 + 1) H
/-- MarkInlinesModel.end -/
def o_155 (Z : zr_Z) (m : Int32) : Option (Int32 × zr_Z) := (if m < 0 then some ((-1), zmf Z 0 0) else (if 20 < m then some ((-1), zmf Z 0 0) else (if ((zf Z 3) + m) ≤ 1500 then g_155_31 oF (zmf Z 0 0) m 0 else some ((-1), zmf Z 0 0))))
set_option maxRecDepth 100000 in
set_option maxHeartbeats 4000000 in
theorem t_155 {fm : Value} {sx : Nat × (Nat → Int32)} {d : Nat} {Z : zr_Z} {Q : Option Value → zr_Z → Prop} (hu : fm = .null ∨ ∃ q, fm = .ref q) (m : Int32) (H : oq (o_155 Z m) (fun x => Q (some (.int x.1)) x.2)) : zw fm sx (d + 0) 155 0 [some (.ref 136), some (.int m), none] [] Z Q := by
  unfold o_155 at H
  refine zw_run 2 (pc' := 2) (loc' := [some (.ref 136), some (.int m), none]) (stk' := [.int 0, .ref 136]) (fun _ _ _ => rfl) ?_
  refine zw_mput rfl rfl rfl rfl ?_
  show zw fm sx (d + 0) 155 5 [some (.ref 136), some (.int m), none] [] (zmf Z 0 0) Q
  refine zw_run 1 (pc' := 6) (loc' := [some (.ref 136), some (.int m), none]) (stk' := [.int m]) (fun _ _ _ => rfl) ?_
  refine zw_br (c := m < 0) (t1 := 27) (t2 := 9) (loc' := [some (.ref 136), some (.int m), none]) (stk' := []) (fun _ _ _ => rfl) (fun c1 => ?_) (fun c1 => ?_)
  · rw [if_pos c1] at H
    refine zw_run 1 (pc' := 28) (loc' := [some (.ref 136), some (.int m), none]) (stk' := [.int (-1)]) (fun _ _ _ => rfl) ?_
    refine zw_reti (i := .nop) rfl rfl ?_
    have H := oq_some H
    exact H
  · rw [if_neg c1] at H
    refine zw_run 2 (pc' := 12) (loc' := [some (.ref 136), some (.int m), none]) (stk' := [.int 20, .int m]) (fun _ _ _ => rfl) ?_
    refine zw_br (c := 20 < m) (t1 := 27) (t2 := 15) (loc' := [some (.ref 136), some (.int m), none]) (stk' := []) (fun _ _ _ => rfl) (fun c2 => ?_) (fun c2 => ?_)
    · rw [if_pos c2] at H
      refine zw_run 1 (pc' := 28) (loc' := [some (.ref 136), some (.int m), none]) (stk' := [.int (-1)]) (fun _ _ _ => rfl) ?_
      refine zw_reti (i := .nop) rfl rfl ?_
      have H := oq_some H
      exact H
    · rw [if_neg c2] at H
      refine zw_run 1 (pc' := 16) (loc' := [some (.ref 136), some (.int m), none]) (stk' := [.ref 136]) (fun _ _ _ => rfl) ?_
      refine zw_mget (v := .int (zf Z 3)) rfl rfl ?_
      refine zw_run 3 (pc' := 24) (loc' := [some (.ref 136), some (.int m), none]) (stk' := [.int 1500, .int ((zf Z 3) + m)]) (fun _ _ _ => rfl) ?_
      refine zw_br (c := ((zf Z 3) + m) ≤ 1500) (t1 := 29) (t2 := 27) (loc' := [some (.ref 136), some (.int m), none]) (stk' := []) (fun _ _ _ => rfl) (fun c3 => ?_) (fun c3 => ?_)
      · rw [if_pos c3] at H
        refine zw_run 2 (pc' := 31) (loc' := [some (.ref 136), some (.int m), some (.int 0)]) (stk' := []) (fun _ _ _ => rfl) ?_
        exact l_155_31 hu m _ (zmf Z 0 0) 0 H
      · rw [if_neg c3] at H
        refine zw_run 1 (pc' := 28) (loc' := [some (.ref 136), some (.int m), none]) (stk' := [.int (-1)]) (fun _ _ _ => rfl) ?_
        refine zw_reti (i := .nop) rfl rfl ?_
        have H := oq_some H
        exact H
theorem c_155 {fm : Value} {sx : Nat × (Nat → Int32)} {d : Nat} {Z : zr_Z} (hu : fm = .null ∨ ∃ q, fm = .ref q) (m : Int32) {x : Int32 × zr_Z} (hx : o_155 Z m = some x) : zl fm sx (d + 1) 155 [.ref 136, .int m] Z (fun r Z' => r = some (.int x.1) ∧ Z' = x.2) :=
  zl_of (nL := 3) (loc0 := [some (.ref 136), some (.int m), none]) rfl rfl rfl (t_155 hu m ⟨x, hx, rfl, rfl⟩)
/-- MarkInlinesModel.wipe -/
def o_156 (Z : zr_Z)  : Option zr_Z := some (zmf (zmf Z 0 0) 3 0)
set_option maxRecDepth 100000 in
set_option maxHeartbeats 4000000 in
theorem t_156 {fm : Value} {sx : Nat × (Nat → Int32)} {d : Nat} {Z : zr_Z} {Q : Option Value → zr_Z → Prop} (hu : fm = .null ∨ ∃ q, fm = .ref q)  (H : oq (o_156 Z) (fun x => Q none x)) : zw fm sx (d + 0) 156 0 [some (.ref 136)] [] Z Q := by
  unfold o_156 at H
  refine zw_run 2 (pc' := 2) (loc' := [some (.ref 136)]) (stk' := [.int 0, .ref 136]) (fun _ _ _ => rfl) ?_
  refine zw_mput rfl rfl rfl rfl ?_
  show zw fm sx (d + 0) 156 5 [some (.ref 136)] [] (zmf Z 0 0) Q
  refine zw_run 2 (pc' := 7) (loc' := [some (.ref 136)]) (stk' := [.int 0, .ref 136]) (fun _ _ _ => rfl) ?_
  refine zw_mput rfl rfl rfl rfl ?_
  show zw fm sx (d + 0) 156 10 [some (.ref 136)] [] (zmf (zmf Z 0 0) 3 0) Q
  refine zw_retv rfl rfl ?_
  have H := oq_some H
  exact H
theorem c_156 {fm : Value} {sx : Nat × (Nat → Int32)} {d : Nat} {Z : zr_Z} (hu : fm = .null ∨ ∃ q, fm = .ref q)  {x : zr_Z} (hx : o_156 Z = some x) : zl fm sx (d + 1) 156 [.ref 136] Z (fun r Z' => r = none ∧ Z' = x) :=
  zl_of (nL := 1) (loc0 := [some (.ref 136)]) rfl rfl rfl (t_156 hu ⟨x, hx, rfl, rfl⟩)
/-- MarkInlinesModel.define, its loop at 91 -/
def g_157_91 : Nat → zr_Z → Int32 → Int32 → Option (Int32 × zr_Z)
  | 0, _, _, _ => none
  | n + 1, Z, x1, x2 => (if (zf Z 8) ≤ x2 then some (x1, zmf Z 3 0) else (if inq 141 x2 then (if inq 139 ((100 * x1) + x2) then g_157_91 n (zar Z 139 ((100 * x1) + x2) (zv Z 141 x2)) x1 (x2 + 1) else none) else none))
set_option maxRecDepth 100000 in
set_option maxHeartbeats 4000000 in
theorem l_157_91 {fm : Value} {sx : Nat × (Nat → Int32)} {d : Nat} {Q : Option Value → zr_Z → Prop} (hu : fm = .null ∨ ∃ q, fm = .ref q)  : ∀ (n : Nat) (Z : zr_Z) (x1 : Int32) (x2 : Int32), oq (g_157_91 n Z x1 x2) (fun x => Q (some (.int x.1)) x.2) → zw fm sx (d + 2) 157 91 [some (.ref 136), some (.int x1), some (.int x2)] [] Z Q := by
  intro n
  induction n with
  | zero => intro Z x1 x2 H; exact absurd H oq_none
  | succ n ih =>
    intro Z x1 x2 H
    unfold g_157_91 at H
    refine zw_run 2 (pc' := 93) (loc' := [some (.ref 136), some (.int x1), some (.int x2)]) (stk' := [.ref 136, .int x2]) (fun _ _ _ => rfl) ?_
    refine zw_mget (v := .int (zf Z 8)) rfl rfl ?_
    refine zw_br (c := (zf Z 8) ≤ x2) (t1 := 122) (t2 := 99) (loc' := [some (.ref 136), some (.int x1), some (.int x2)]) (stk' := []) (fun _ _ _ => rfl) (fun c1 => ?_) (fun c1 => ?_)
    · rw [if_pos c1] at H
      refine zw_run 2 (pc' := 124) (loc' := [some (.ref 136), some (.int x1), some (.int x2)]) (stk' := [.int 0, .ref 136]) (fun _ _ _ => rfl) ?_
      refine zw_mput rfl rfl rfl rfl ?_
      show zw fm sx (d + 2) 157 127 [some (.ref 136), some (.int x1), some (.int x2)] [] (zmf Z 3 0) Q
      refine zw_run 1 (pc' := 128) (loc' := [some (.ref 136), some (.int x1), some (.int x2)]) (stk' := [.int x1]) (fun _ _ _ => rfl) ?_
      refine zw_reti (i := .nop) rfl rfl ?_
      have H := oq_some H
      exact H
    · rw [if_neg c1] at H
      refine zw_run 1 (pc' := 100) (loc' := [some (.ref 136), some (.int x1), some (.int x2)]) (stk' := [.ref 136]) (fun _ _ _ => rfl) ?_
      refine zw_mget (v := .ref 139) rfl rfl ?_
      refine zw_run 6 (pc' := 110) (loc' := [some (.ref 136), some (.int x1), some (.int x2)]) (stk' := [.ref 136, .int ((100 * x1) + x2), .ref 139]) (fun _ _ _ => rfl) ?_
      refine zw_mget (v := .ref 141) rfl rfl ?_
      refine zw_run 1 (pc' := 114) (loc' := [some (.ref 136), some (.int x1), some (.int x2)]) (stk' := [.int x2, .ref 141, .int ((100 * x1) + x2), .ref 139]) (fun _ _ _ => rfl) ?_
      obtain ⟨b2, H⟩ := oq_ob H
      refine zw_iald (j := 141) rfl (by decide) (by decide) rfl b2 ?_
      obtain ⟨b3, H⟩ := oq_ob H
      refine zw_iast (j := 139) rfl (by decide) (by decide) rfl b3 ?_
      show zw fm sx (d + 2) 157 116 [some (.ref 136), some (.int x1), some (.int x2)] [] (zar Z 139 ((100 * x1) + x2) (zv Z 141 x2)) Q
      refine zw_run 2 (pc' := 91) (loc' := [some (.ref 136), some (.int x1), some (.int (x2 + 1))]) (stk' := []) (fun _ _ _ => rfl) ?_
      exact ih (zar Z 139 ((100 * x1) + x2) (zv Z 141 x2)) x1 (x2 + 1) H
/-- MarkInlinesModel.define -/
def o_157 (Z : zr_Z)  : Option (Int32 × zr_Z) := (Option.bind (o_115 (zmf Z 0 0) 0 (zf Z 3)) fun u1 => (if u1 = true then (Option.bind (o_123 (zmf Z 0 0) 0 (zf Z 3)) fun u3 => (Option.bind (o_124 u3) fun u4 => (if ¬ u4 = (-1) then (if ¬ u4 = (-1) then some (u4, zmf u3 3 0) else (if inq 140 (zf u3 7) then g_157_91 oF (zar (zmf u3 7 ((zf u3 7) + 1)) 140 (zf u3 7) (zf u3 8)) (zf u3 7) 0 else none)) else (if ¬ (zf u3 7) = 20 then (if ¬ u4 = (-1) then some (u4, zmf u3 3 0) else (if inq 140 (zf u3 7) then g_157_91 oF (zar (zmf u3 7 ((zf u3 7) + 1)) 140 (zf u3 7) (zf u3 8)) (zf u3 7) 0 else none)) else some (0, zmf u3 0 2))))) else some (0, zmf (zmf Z 0 0) 0 1)))
set_option maxRecDepth 100000 in
set_option maxHeartbeats 4000000 in
theorem t_157 {fm : Value} {sx : Nat × (Nat → Int32)} {d : Nat} {Z : zr_Z} {Q : Option Value → zr_Z → Prop} (hu : fm = .null ∨ ∃ q, fm = .ref q)  (H : oq (o_157 Z) (fun x => Q (some (.int x.1)) x.2)) : zw fm sx (d + 2) 157 0 [some (.ref 136), none, none] [] Z Q := by
  unfold o_157 at H
  refine zw_run 2 (pc' := 2) (loc' := [some (.ref 136), none, none]) (stk' := [.int 0, .ref 136]) (fun _ _ _ => rfl) ?_
  refine zw_mput rfl rfl rfl rfl ?_
  show zw fm sx (d + 2) 157 5 [some (.ref 136), none, none] [] (zmf Z 0 0) Q
  refine zw_run 3 (pc' := 8) (loc' := [some (.ref 136), none, none]) (stk' := [.ref 136, .int 0, .ref 136]) (fun _ _ _ => rfl) ?_
  refine zw_mget (v := .int (zf Z 3)) rfl rfl ?_
  obtain ⟨u1, hu1, H⟩ := oq_bind H
  refine zw_callf (As := [.ref 136, .int 0, .int (zf Z 3)]) (rest := []) (c_115 hu 0 (zf Z 3) hu1 (d := d + 0)) rfl rfl rfl rfl ?_
  show zw fm sx (d + 2) 157 14 [some (.ref 136), none, none] [.int (bI u1)] (zmf Z 0 0) Q
  refine zw_b1 (b := u1) (t1 := 24) (t2 := 17) (loc' := [some (.ref 136), none, none]) (stk' := []) (fun _ _ _ => rfl) (fun c2 => ?_) (fun c2 => ?_)
  · rw [if_pos c2] at H
    refine zw_run 3 (pc' := 27) (loc' := [some (.ref 136), none, none]) (stk' := [.ref 136, .int 0, .ref 136]) (fun _ _ _ => rfl) ?_
    refine zw_mget (v := .int (zf Z 3)) rfl rfl ?_
    obtain ⟨u3, hu3, H⟩ := oq_bind H
    refine zw_callf (As := [.ref 136, .int 0, .int (zf Z 3)]) (rest := []) (c_123 hu 0 (zf Z 3) hu3 (d := d + 0)) rfl rfl rfl rfl ?_
    show zw fm sx (d + 2) 157 33 [some (.ref 136), none, none] [] u3 Q
    refine zw_run 1 (pc' := 34) (loc' := [some (.ref 136), none, none]) (stk' := [.ref 136]) (fun _ _ _ => rfl) ?_
    obtain ⟨u4, hu4, H⟩ := oq_bind H
    refine zw_callf (As := [.ref 136]) (rest := []) (c_124 hu hu4 (d := d + 1)) rfl rfl rfl rfl ?_
    show zw fm sx (d + 2) 157 37 [some (.ref 136), none, none] [.int u4] u3 Q
    refine zw_run 3 (pc' := 40) (loc' := [some (.ref 136), some (.int u4), none]) (stk' := [.int (-1), .int u4]) (fun _ _ _ => rfl) ?_
    refine zw_br (c := ¬ u4 = (-1)) (t1 := 59) (t2 := 43) (loc' := [some (.ref 136), some (.int u4), none]) (stk' := []) (fun _ _ _ => rfl) (fun c5 => ?_) (fun c5 => ?_)
    · rw [if_pos c5] at H
      refine zw_run 2 (pc' := 61) (loc' := [some (.ref 136), some (.int u4), none]) (stk' := [.int (-1), .int u4]) (fun _ _ _ => rfl) ?_
      refine zw_br (c := ¬ u4 = (-1)) (t1 := 122) (t2 := 64) (loc' := [some (.ref 136), some (.int u4), none]) (stk' := []) (fun _ _ _ => rfl) (fun c6 => ?_) (fun c6 => ?_)
      · rw [if_pos c6] at H
        refine zw_run 2 (pc' := 124) (loc' := [some (.ref 136), some (.int u4), none]) (stk' := [.int 0, .ref 136]) (fun _ _ _ => rfl) ?_
        refine zw_mput rfl rfl rfl rfl ?_
        show zw fm sx (d + 2) 157 127 [some (.ref 136), some (.int u4), none] [] (zmf u3 3 0) Q
        refine zw_run 1 (pc' := 128) (loc' := [some (.ref 136), some (.int u4), none]) (stk' := [.int u4]) (fun _ _ _ => rfl) ?_
        refine zw_reti (i := .nop) rfl rfl ?_
        have H := oq_some H
        exact H
      · rw [if_neg c6] at H
        refine zw_run 1 (pc' := 65) (loc' := [some (.ref 136), some (.int u4), none]) (stk' := [.ref 136]) (fun _ _ _ => rfl) ?_
        refine zw_mget (v := .int (zf u3 7)) rfl rfl ?_
        refine zw_run 3 (pc' := 71) (loc' := [some (.ref 136), some (.int (zf u3 7)), none]) (stk' := [.ref 136, .ref 136]) (fun _ _ _ => rfl) ?_
        refine zw_mget (v := .int (zf u3 7)) rfl rfl ?_
        refine zw_run 2 (pc' := 76) (loc' := [some (.ref 136), some (.int (zf u3 7)), none]) (stk' := [.int ((zf u3 7) + 1), .ref 136]) (fun _ _ _ => rfl) ?_
        refine zw_mput rfl rfl rfl rfl ?_
        show zw fm sx (d + 2) 157 79 [some (.ref 136), some (.int (zf u3 7)), none] [] (zmf u3 7 ((zf u3 7) + 1)) Q
        refine zw_run 1 (pc' := 80) (loc' := [some (.ref 136), some (.int (zf u3 7)), none]) (stk' := [.ref 136]) (fun _ _ _ => rfl) ?_
        refine zw_mget (v := .ref 140) rfl rfl ?_
        refine zw_run 2 (pc' := 85) (loc' := [some (.ref 136), some (.int (zf u3 7)), none]) (stk' := [.ref 136, .int (zf u3 7), .ref 140]) (fun _ _ _ => rfl) ?_
        refine zw_mget (v := .int (zf u3 8)) rfl rfl ?_
        obtain ⟨b7, H⟩ := oq_ob H
        refine zw_iast (j := 140) rfl (by decide) (by decide) rfl b7 ?_
        show zw fm sx (d + 2) 157 89 [some (.ref 136), some (.int (zf u3 7)), none] [] (zar (zmf u3 7 ((zf u3 7) + 1)) 140 (zf u3 7) (zf u3 8)) Q
        refine zw_run 2 (pc' := 91) (loc' := [some (.ref 136), some (.int (zf u3 7)), some (.int 0)]) (stk' := []) (fun _ _ _ => rfl) ?_
        exact l_157_91 hu _ (zar (zmf u3 7 ((zf u3 7) + 1)) 140 (zf u3 7) (zf u3 8)) (zf u3 7) 0 H
    · rw [if_neg c5] at H
      refine zw_run 1 (pc' := 44) (loc' := [some (.ref 136), some (.int u4), none]) (stk' := [.ref 136]) (fun _ _ _ => rfl) ?_
      refine zw_mget (v := .int (zf u3 7)) rfl rfl ?_
      refine zw_run 1 (pc' := 49) (loc' := [some (.ref 136), some (.int u4), none]) (stk' := [.int 20, .int (zf u3 7)]) (fun _ _ _ => rfl) ?_
      refine zw_br (c := ¬ (zf u3 7) = 20) (t1 := 59) (t2 := 52) (loc' := [some (.ref 136), some (.int u4), none]) (stk' := []) (fun _ _ _ => rfl) (fun c8 => ?_) (fun c8 => ?_)
      · rw [if_pos c8] at H
        refine zw_run 2 (pc' := 61) (loc' := [some (.ref 136), some (.int u4), none]) (stk' := [.int (-1), .int u4]) (fun _ _ _ => rfl) ?_
        refine zw_br (c := ¬ u4 = (-1)) (t1 := 122) (t2 := 64) (loc' := [some (.ref 136), some (.int u4), none]) (stk' := []) (fun _ _ _ => rfl) (fun c9 => ?_) (fun c9 => ?_)
        · rw [if_pos c9] at H
          refine zw_run 2 (pc' := 124) (loc' := [some (.ref 136), some (.int u4), none]) (stk' := [.int 0, .ref 136]) (fun _ _ _ => rfl) ?_
          refine zw_mput rfl rfl rfl rfl ?_
          show zw fm sx (d + 2) 157 127 [some (.ref 136), some (.int u4), none] [] (zmf u3 3 0) Q
          refine zw_run 1 (pc' := 128) (loc' := [some (.ref 136), some (.int u4), none]) (stk' := [.int u4]) (fun _ _ _ => rfl) ?_
          refine zw_reti (i := .nop) rfl rfl ?_
          have H := oq_some H
          exact H
        · rw [if_neg c9] at H
          refine zw_run 1 (pc' := 65) (loc' := [some (.ref 136), some (.int u4), none]) (stk' := [.ref 136]) (fun _ _ _ => rfl) ?_
          refine zw_mget (v := .int (zf u3 7)) rfl rfl ?_
          refine zw_run 3 (pc' := 71) (loc' := [some (.ref 136), some (.int (zf u3 7)), none]) (stk' := [.ref 136, .ref 136]) (fun _ _ _ => rfl) ?_
          refine zw_mget (v := .int (zf u3 7)) rfl rfl ?_
          refine zw_run 2 (pc' := 76) (loc' := [some (.ref 136), some (.int (zf u3 7)), none]) (stk' := [.int ((zf u3 7) + 1), .ref 136]) (fun _ _ _ => rfl) ?_
          refine zw_mput rfl rfl rfl rfl ?_
          show zw fm sx (d + 2) 157 79 [some (.ref 136), some (.int (zf u3 7)), none] [] (zmf u3 7 ((zf u3 7) + 1)) Q
          refine zw_run 1 (pc' := 80) (loc' := [some (.ref 136), some (.int (zf u3 7)), none]) (stk' := [.ref 136]) (fun _ _ _ => rfl) ?_
          refine zw_mget (v := .ref 140) rfl rfl ?_
          refine zw_run 2 (pc' := 85) (loc' := [some (.ref 136), some (.int (zf u3 7)), none]) (stk' := [.ref 136, .int (zf u3 7), .ref 140]) (fun _ _ _ => rfl) ?_
          refine zw_mget (v := .int (zf u3 8)) rfl rfl ?_
          obtain ⟨b10, H⟩ := oq_ob H
          refine zw_iast (j := 140) rfl (by decide) (by decide) rfl b10 ?_
          show zw fm sx (d + 2) 157 89 [some (.ref 136), some (.int (zf u3 7)), none] [] (zar (zmf u3 7 ((zf u3 7) + 1)) 140 (zf u3 7) (zf u3 8)) Q
          refine zw_run 2 (pc' := 91) (loc' := [some (.ref 136), some (.int (zf u3 7)), some (.int 0)]) (stk' := []) (fun _ _ _ => rfl) ?_
          exact l_157_91 hu _ (zar (zmf u3 7 ((zf u3 7) + 1)) 140 (zf u3 7) (zf u3 8)) (zf u3 7) 0 H
      · rw [if_neg c8] at H
        refine zw_run 2 (pc' := 54) (loc' := [some (.ref 136), some (.int u4), none]) (stk' := [.int 2, .ref 136]) (fun _ _ _ => rfl) ?_
        refine zw_mput rfl rfl rfl rfl ?_
        show zw fm sx (d + 2) 157 57 [some (.ref 136), some (.int u4), none] [] (zmf u3 0 2) Q
        refine zw_run 1 (pc' := 58) (loc' := [some (.ref 136), some (.int u4), none]) (stk' := [.int 0]) (fun _ _ _ => rfl) ?_
        refine zw_reti (i := .nop) rfl rfl ?_
        have H := oq_some H
        exact H
  · rw [if_neg c2] at H
    refine zw_run 2 (pc' := 19) (loc' := [some (.ref 136), none, none]) (stk' := [.int 1, .ref 136]) (fun _ _ _ => rfl) ?_
    refine zw_mput rfl rfl rfl rfl ?_
    show zw fm sx (d + 2) 157 22 [some (.ref 136), none, none] [] (zmf (zmf Z 0 0) 0 1) Q
    refine zw_run 1 (pc' := 23) (loc' := [some (.ref 136), none, none]) (stk' := [.int 0]) (fun _ _ _ => rfl) ?_
    refine zw_reti (i := .nop) rfl rfl ?_
    have H := oq_some H
    exact H
theorem c_157 {fm : Value} {sx : Nat × (Nat → Int32)} {d : Nat} {Z : zr_Z} (hu : fm = .null ∨ ∃ q, fm = .ref q)  {x : Int32 × zr_Z} (hx : o_157 Z = some x) : zl fm sx (d + 3) 157 [.ref 136] Z (fun r Z' => r = some (.int x.1) ∧ Z' = x.2) :=
  zl_of (nL := 3) (loc0 := [some (.ref 136), none, none]) rfl rfl rfl (t_157 hu ⟨x, hx, rfl, rfl⟩)
/-- MarkInlinesModel.drop -/
def o_158 (Z : zr_Z)  : Option zr_Z := some (zmf (zmf Z 0 0) 7 0)
set_option maxRecDepth 100000 in
set_option maxHeartbeats 4000000 in
theorem t_158 {fm : Value} {sx : Nat × (Nat → Int32)} {d : Nat} {Z : zr_Z} {Q : Option Value → zr_Z → Prop} (hu : fm = .null ∨ ∃ q, fm = .ref q)  (H : oq (o_158 Z) (fun x => Q none x)) : zw fm sx (d + 0) 158 0 [some (.ref 136)] [] Z Q := by
  unfold o_158 at H
  refine zw_run 2 (pc' := 2) (loc' := [some (.ref 136)]) (stk' := [.int 0, .ref 136]) (fun _ _ _ => rfl) ?_
  refine zw_mput rfl rfl rfl rfl ?_
  show zw fm sx (d + 0) 158 5 [some (.ref 136)] [] (zmf Z 0 0) Q
  refine zw_run 2 (pc' := 7) (loc' := [some (.ref 136)]) (stk' := [.int 0, .ref 136]) (fun _ _ _ => rfl) ?_
  refine zw_mput rfl rfl rfl rfl ?_
  show zw fm sx (d + 0) 158 10 [some (.ref 136)] [] (zmf (zmf Z 0 0) 7 0) Q
  refine zw_retv rfl rfl ?_
  have H := oq_some H
  exact H
theorem c_158 {fm : Value} {sx : Nat × (Nat → Int32)} {d : Nat} {Z : zr_Z} (hu : fm = .null ∨ ∃ q, fm = .ref q)  {x : zr_Z} (hx : o_158 Z = some x) : zl fm sx (d + 1) 158 [.ref 136] Z (fun r Z' => r = none ∧ Z' = x) :=
  zl_of (nL := 1) (loc0 := [some (.ref 136)]) rfl rfl rfl (t_158 hu ⟨x, hx, rfl, rfl⟩)
/-- MarkInlinesModel.fault -/
def o_160 (Z : zr_Z) (wh : Int32) : Option (Int32 × zr_Z) := some ((if ¬ wh = 0 then (if ¬ wh = 1 then (-1) else (zf Z 47) : Int32) else (zf Z 46) : Int32), zmf Z 0 0)
set_option maxRecDepth 100000 in
set_option maxHeartbeats 4000000 in
theorem t_160 {fm : Value} {sx : Nat × (Nat → Int32)} {d : Nat} {Z : zr_Z} {Q : Option Value → zr_Z → Prop} (hu : fm = .null ∨ ∃ q, fm = .ref q) (wh : Int32) (H : oq (o_160 Z wh) (fun x => Q (some (.int x.1)) x.2)) : zw fm sx (d + 0) 160 0 [some (.ref 136), some (.int wh)] [] Z Q := by
  unfold o_160 at H
  refine zw_run 2 (pc' := 2) (loc' := [some (.ref 136), some (.int wh)]) (stk' := [.int 0, .ref 136]) (fun _ _ _ => rfl) ?_
  refine zw_mput rfl rfl rfl rfl ?_
  show zw fm sx (d + 0) 160 5 [some (.ref 136), some (.int wh)] [] (zmf Z 0 0) Q
  refine zw_run 1 (pc' := 6) (loc' := [some (.ref 136), some (.int wh)]) (stk' := [.int wh]) (fun _ _ _ => rfl) ?_
  have J4 : ∀ (v3 : Int32), v3 = (if ¬ wh = 0 then (if ¬ wh = 1 then (-1) else (zf Z 47) : Int32) else (zf Z 46) : Int32) → zw fm sx (d + 0) 160 29 [some (.ref 136), some (.int wh)] [.int v3] (zmf Z 0 0) Q := by
    intro v3 ev3
    subst ev3
    refine zw_reti (i := .nop) rfl rfl ?_
    have H := oq_some H
    exact H
  refine zw_br (c := ¬ wh = 0) (t1 := 16) (t2 := 9) (loc' := [some (.ref 136), some (.int wh)]) (stk' := []) (fun _ _ _ => rfl) (fun c1 => ?_) (fun c1 => ?_)
  · skip
    refine zw_run 2 (pc' := 18) (loc' := [some (.ref 136), some (.int wh)]) (stk' := [.int 1, .int wh]) (fun _ _ _ => rfl) ?_
    refine zw_br (c := ¬ wh = 1) (t1 := 28) (t2 := 21) (loc' := [some (.ref 136), some (.int wh)]) (stk' := []) (fun _ _ _ => rfl) (fun c2 => ?_) (fun c2 => ?_)
    · skip
      refine zw_run 1 (pc' := 29) (loc' := [some (.ref 136), some (.int wh)]) (stk' := [.int (-1)]) (fun _ _ _ => rfl) ?_
      exact J4 _ (by first | (rw [if_pos c1, if_pos c2]; done) | (rw [if_pos c1, if_pos c2]; rfl) | (clear H J4; simp_all [bI]; done))
    · skip
      refine zw_run 1 (pc' := 22) (loc' := [some (.ref 136), some (.int wh)]) (stk' := [.ref 136]) (fun _ _ _ => rfl) ?_
      refine zw_mget (v := .int (zf Z 47)) rfl rfl ?_
      refine zw_run 1 (pc' := 29) (loc' := [some (.ref 136), some (.int wh)]) (stk' := [.int (zf Z 47)]) (fun _ _ _ => rfl) ?_
      exact J4 _ (by first | (rw [if_pos c1, if_neg c2]; done) | (rw [if_pos c1, if_neg c2]; rfl) | (clear H J4; simp_all [bI]; done))
  · skip
    refine zw_run 1 (pc' := 10) (loc' := [some (.ref 136), some (.int wh)]) (stk' := [.ref 136]) (fun _ _ _ => rfl) ?_
    refine zw_mget (v := .int (zf Z 46)) rfl rfl ?_
    refine zw_run 1 (pc' := 29) (loc' := [some (.ref 136), some (.int wh)]) (stk' := [.int (zf Z 46)]) (fun _ _ _ => rfl) ?_
    exact J4 _ (by first | (rw [if_neg c1]; done) | (rw [if_neg c1]; rfl) | (clear H J4; simp_all [bI]; done))
theorem c_160 {fm : Value} {sx : Nat × (Nat → Int32)} {d : Nat} {Z : zr_Z} (hu : fm = .null ∨ ∃ q, fm = .ref q) (wh : Int32) {x : Int32 × zr_Z} (hx : o_160 Z wh = some x) : zl fm sx (d + 1) 160 [.ref 136, .int wh] Z (fun r Z' => r = some (.int x.1) ∧ Z' = x.2) :=
  zl_of (nL := 2) (loc0 := [some (.ref 136), some (.int wh)]) rfl rfl rfl (t_160 hu wh ⟨x, hx, rfl, rfl⟩)
/-- MarkInlinesModel.node -/
def o_162 (Z : zr_Z) (k : Int32) (wh : Int32) : Option (Int32 × zr_Z) := (if (f_161 (zmf Z 0 0) k) = true then (if wh = 0 then (if inq 164 k then some (zv Z 164 k, zmf Z 0 0) else none) else (if wh = 1 then (if inq 165 k then some (zv Z 165 k, zmf Z 0 0) else none) else (if wh = 2 then (if inq 167 k then some (zv Z 167 k, zmf Z 0 0) else none) else (if wh = 3 then (if inq 169 k then some (zv Z 169 k, zmf Z 0 0) else none) else (if wh = 4 then (if inq 170 k then some (zv Z 170 k, zmf Z 0 0) else none) else (if wh = 5 then (if inq 171 k then some (zv Z 171 k, zmf Z 0 0) else none) else some ((-1), zmf Z 0 0))))))) else some ((-1), zmf Z 0 0))
set_option maxRecDepth 100000 in
set_option maxHeartbeats 4000000 in
theorem t_162 {fm : Value} {sx : Nat × (Nat → Int32)} {d : Nat} {Z : zr_Z} {Q : Option Value → zr_Z → Prop} (hu : fm = .null ∨ ∃ q, fm = .ref q) (k : Int32) (wh : Int32) (H : oq (o_162 Z k wh) (fun x => Q (some (.int x.1)) x.2)) : zw fm sx (d + 1) 162 0 [some (.ref 136), some (.int k), some (.int wh)] [] Z Q := by
  unfold o_162 at H
  refine zw_run 2 (pc' := 2) (loc' := [some (.ref 136), some (.int k), some (.int wh)]) (stk' := [.int 0, .ref 136]) (fun _ _ _ => rfl) ?_
  refine zw_mput rfl rfl rfl rfl ?_
  show zw fm sx (d + 1) 162 5 [some (.ref 136), some (.int k), some (.int wh)] [] (zmf Z 0 0) Q
  refine zw_run 2 (pc' := 7) (loc' := [some (.ref 136), some (.int k), some (.int wh)]) (stk' := [.int k, .ref 136]) (fun _ _ _ => rfl) ?_
  refine zw_callf (As := [.ref 136, .int k]) (rest := []) (c_161 k (d := d + 0)) rfl rfl rfl rfl ?_
  show zw fm sx (d + 1) 162 10 [some (.ref 136), some (.int k), some (.int wh)] [.int (bI (f_161 (zmf Z 0 0) k))] (zmf Z 0 0) Q
  refine zw_b1 (b := (f_161 (zmf Z 0 0) k)) (t1 := 15) (t2 := 13) (loc' := [some (.ref 136), some (.int k), some (.int wh)]) (stk' := []) (fun _ _ _ => rfl) (fun c1 => ?_) (fun c1 => ?_)
  · rw [if_pos c1] at H
    refine zw_run 1 (pc' := 16) (loc' := [some (.ref 136), some (.int k), some (.int wh)]) (stk' := [.int wh]) (fun _ _ _ => rfl) ?_
    by_cases c2 : wh = 0
    · rw [if_pos c2] at H
      refine zw_run 1 (pc' := 56) (loc' := [some (.ref 136), some (.int k), some (.int wh)]) (stk' := []) (fun _ _ _ => by rw [c2]; rfl) ?_
      refine zw_run 1 (pc' := 57) (loc' := [some (.ref 136), some (.int k), some (.int wh)]) (stk' := [.ref 136]) (fun _ _ _ => rfl) ?_
      refine zw_mget (v := .ref 164) rfl rfl ?_
      refine zw_run 1 (pc' := 61) (loc' := [some (.ref 136), some (.int k), some (.int wh)]) (stk' := [.int k, .ref 164]) (fun _ _ _ => rfl) ?_
      obtain ⟨b3, H⟩ := oq_ob H
      refine zw_iald (j := 164) rfl (by decide) (by decide) rfl b3 ?_
      refine zw_reti (i := .nop) rfl rfl ?_
      have H := oq_some H
      exact H
    rw [if_neg c2] at H
    by_cases c4 : wh = 1
    · rw [if_pos c4] at H
      refine zw_run 1 (pc' := 63) (loc' := [some (.ref 136), some (.int k), some (.int wh)]) (stk' := []) (fun _ _ _ => by rw [c4]; rfl) ?_
      refine zw_run 1 (pc' := 64) (loc' := [some (.ref 136), some (.int k), some (.int wh)]) (stk' := [.ref 136]) (fun _ _ _ => rfl) ?_
      refine zw_mget (v := .ref 165) rfl rfl ?_
      refine zw_run 1 (pc' := 68) (loc' := [some (.ref 136), some (.int k), some (.int wh)]) (stk' := [.int k, .ref 165]) (fun _ _ _ => rfl) ?_
      obtain ⟨b5, H⟩ := oq_ob H
      refine zw_iald (j := 165) rfl (by decide) (by decide) rfl b5 ?_
      refine zw_reti (i := .nop) rfl rfl ?_
      have H := oq_some H
      exact H
    rw [if_neg c4] at H
    by_cases c6 : wh = 2
    · rw [if_pos c6] at H
      refine zw_run 1 (pc' := 70) (loc' := [some (.ref 136), some (.int k), some (.int wh)]) (stk' := []) (fun _ _ _ => by rw [c6]; rfl) ?_
      refine zw_run 1 (pc' := 71) (loc' := [some (.ref 136), some (.int k), some (.int wh)]) (stk' := [.ref 136]) (fun _ _ _ => rfl) ?_
      refine zw_mget (v := .ref 167) rfl rfl ?_
      refine zw_run 1 (pc' := 75) (loc' := [some (.ref 136), some (.int k), some (.int wh)]) (stk' := [.int k, .ref 167]) (fun _ _ _ => rfl) ?_
      obtain ⟨b7, H⟩ := oq_ob H
      refine zw_iald (j := 167) rfl (by decide) (by decide) rfl b7 ?_
      refine zw_reti (i := .nop) rfl rfl ?_
      have H := oq_some H
      exact H
    rw [if_neg c6] at H
    by_cases c8 : wh = 3
    · rw [if_pos c8] at H
      refine zw_run 1 (pc' := 77) (loc' := [some (.ref 136), some (.int k), some (.int wh)]) (stk' := []) (fun _ _ _ => by rw [c8]; rfl) ?_
      refine zw_run 1 (pc' := 78) (loc' := [some (.ref 136), some (.int k), some (.int wh)]) (stk' := [.ref 136]) (fun _ _ _ => rfl) ?_
      refine zw_mget (v := .ref 169) rfl rfl ?_
      refine zw_run 1 (pc' := 82) (loc' := [some (.ref 136), some (.int k), some (.int wh)]) (stk' := [.int k, .ref 169]) (fun _ _ _ => rfl) ?_
      obtain ⟨b9, H⟩ := oq_ob H
      refine zw_iald (j := 169) rfl (by decide) (by decide) rfl b9 ?_
      refine zw_reti (i := .nop) rfl rfl ?_
      have H := oq_some H
      exact H
    rw [if_neg c8] at H
    by_cases c10 : wh = 4
    · rw [if_pos c10] at H
      refine zw_run 1 (pc' := 84) (loc' := [some (.ref 136), some (.int k), some (.int wh)]) (stk' := []) (fun _ _ _ => by rw [c10]; rfl) ?_
      refine zw_run 1 (pc' := 85) (loc' := [some (.ref 136), some (.int k), some (.int wh)]) (stk' := [.ref 136]) (fun _ _ _ => rfl) ?_
      refine zw_mget (v := .ref 170) rfl rfl ?_
      refine zw_run 1 (pc' := 89) (loc' := [some (.ref 136), some (.int k), some (.int wh)]) (stk' := [.int k, .ref 170]) (fun _ _ _ => rfl) ?_
      obtain ⟨b11, H⟩ := oq_ob H
      refine zw_iald (j := 170) rfl (by decide) (by decide) rfl b11 ?_
      refine zw_reti (i := .nop) rfl rfl ?_
      have H := oq_some H
      exact H
    rw [if_neg c10] at H
    by_cases c12 : wh = 5
    · rw [if_pos c12] at H
      refine zw_run 1 (pc' := 91) (loc' := [some (.ref 136), some (.int k), some (.int wh)]) (stk' := []) (fun _ _ _ => by rw [c12]; rfl) ?_
      refine zw_run 1 (pc' := 92) (loc' := [some (.ref 136), some (.int k), some (.int wh)]) (stk' := [.ref 136]) (fun _ _ _ => rfl) ?_
      refine zw_mget (v := .ref 171) rfl rfl ?_
      refine zw_run 1 (pc' := 96) (loc' := [some (.ref 136), some (.int k), some (.int wh)]) (stk' := [.int k, .ref 171]) (fun _ _ _ => rfl) ?_
      obtain ⟨b13, H⟩ := oq_ob H
      refine zw_iald (j := 171) rfl (by decide) (by decide) rfl b13 ?_
      refine zw_reti (i := .nop) rfl rfl ?_
      have H := oq_some H
      exact H
    rw [if_neg c12] at H
    refine zw_sw (pc' := 98) (loc' := [some (.ref 136), some (.int k), some (.int wh)]) (stk' := []) rfl (am_tswd (fun i h1 h2 => ?_)) ?_
    · rcases (show i = 0 ∨ i = 1 ∨ i = 2 ∨ i = 3 ∨ i = 4 ∨ i = 5 by omega) with rfl | rfl | rfl | rfl | rfl | rfl
      · exact fun q => c2 (Int32.toInt_inj.mp q)
      · exact fun q => c4 (Int32.toInt_inj.mp q)
      · exact fun q => c6 (Int32.toInt_inj.mp q)
      · exact fun q => c8 (Int32.toInt_inj.mp q)
      · exact fun q => c10 (Int32.toInt_inj.mp q)
      · exact fun q => c12 (Int32.toInt_inj.mp q)
    refine zw_run 1 (pc' := 99) (loc' := [some (.ref 136), some (.int k), some (.int wh)]) (stk' := [.int (-1)]) (fun _ _ _ => rfl) ?_
    refine zw_reti (i := .nop) rfl rfl ?_
    have H := oq_some H
    exact H
  · rw [if_neg c1] at H
    refine zw_run 1 (pc' := 14) (loc' := [some (.ref 136), some (.int k), some (.int wh)]) (stk' := [.int (-1)]) (fun _ _ _ => rfl) ?_
    refine zw_reti (i := .nop) rfl rfl ?_
    have H := oq_some H
    exact H
theorem c_162 {fm : Value} {sx : Nat × (Nat → Int32)} {d : Nat} {Z : zr_Z} (hu : fm = .null ∨ ∃ q, fm = .ref q) (k : Int32) (wh : Int32) {x : Int32 × zr_Z} (hx : o_162 Z k wh = some x) : zl fm sx (d + 2) 162 [.ref 136, .int k, .int wh] Z (fun r Z' => r = some (.int x.1) ∧ Z' = x.2) :=
  zl_of (nL := 3) (loc0 := [some (.ref 136), some (.int k), some (.int wh)]) rfl rfl rfl (t_162 hu k wh ⟨x, hx, rfl, rfl⟩)
/-- MarkInlinesModel.letter -/
def o_163 (Z : zr_Z) (k : Int32) (ti : Bool) (i : Int32) : Option (Int32 × zr_Z) := (if (f_161 (zmf Z 0 0) k) = true then (if i < 0 then some ((-1), zmf Z 0 0) else (if (if ti = true then (inq 169 k ∧ True) else (inq 167 k ∧ True)) then (if i < (if ti = true then (zv Z 169 k) else (zv Z 167 k) : Int32) then (if (if ti = true then (inq 168 k ∧ True) else (inq 166 k ∧ True)) then (if inq 142 ((if ti = true then (zv Z 168 k) else (zv Z 166 k) : Int32) + i) then some (zv Z 142 ((if ti = true then (zv Z 168 k) else (zv Z 166 k) : Int32) + i), zmf Z 0 0) else none) else none) else some ((-1), zmf Z 0 0)) else none)) else some ((-1), zmf Z 0 0))
set_option maxRecDepth 100000 in
set_option maxHeartbeats 4000000 in
theorem t_163 {fm : Value} {sx : Nat × (Nat → Int32)} {d : Nat} {Z : zr_Z} {Q : Option Value → zr_Z → Prop} (hu : fm = .null ∨ ∃ q, fm = .ref q) (k : Int32) (ti : Bool) (i : Int32) (H : oq (o_163 Z k ti i) (fun x => Q (some (.int x.1)) x.2)) : zw fm sx (d + 1) 163 0 [some (.ref 136), some (.int k), some (.int (bI ti)), some (.int i)] [] Z Q := by
  unfold o_163 at H
  refine zw_run 2 (pc' := 2) (loc' := [some (.ref 136), some (.int k), some (.int (bI ti)), some (.int i)]) (stk' := [.int 0, .ref 136]) (fun _ _ _ => rfl) ?_
  refine zw_mput rfl rfl rfl rfl ?_
  show zw fm sx (d + 1) 163 5 [some (.ref 136), some (.int k), some (.int (bI ti)), some (.int i)] [] (zmf Z 0 0) Q
  refine zw_run 2 (pc' := 7) (loc' := [some (.ref 136), some (.int k), some (.int (bI ti)), some (.int i)]) (stk' := [.int k, .ref 136]) (fun _ _ _ => rfl) ?_
  refine zw_callf (As := [.ref 136, .int k]) (rest := []) (c_161 k (d := d + 0)) rfl rfl rfl rfl ?_
  show zw fm sx (d + 1) 163 10 [some (.ref 136), some (.int k), some (.int (bI ti)), some (.int i)] [.int (bI (f_161 (zmf Z 0 0) k))] (zmf Z 0 0) Q
  refine zw_b0 (b := (f_161 (zmf Z 0 0) k)) (t1 := 13) (t2 := 40) (loc' := [some (.ref 136), some (.int k), some (.int (bI ti)), some (.int i)]) (stk' := []) (fun _ _ _ => rfl) (fun c1 => ?_) (fun c1 => ?_)
  · rw [if_pos c1] at H
    refine zw_run 1 (pc' := 14) (loc' := [some (.ref 136), some (.int k), some (.int (bI ti)), some (.int i)]) (stk' := [.int i]) (fun _ _ _ => rfl) ?_
    refine zw_br (c := i < 0) (t1 := 40) (t2 := 17) (loc' := [some (.ref 136), some (.int k), some (.int (bI ti)), some (.int i)]) (stk' := []) (fun _ _ _ => rfl) (fun c2 => ?_) (fun c2 => ?_)
    · rw [if_pos c2] at H
      refine zw_run 1 (pc' := 41) (loc' := [some (.ref 136), some (.int k), some (.int (bI ti)), some (.int i)]) (stk' := [.int (-1)]) (fun _ _ _ => rfl) ?_
      refine zw_reti (i := .nop) rfl rfl ?_
      have H := oq_some H
      exact H
    · rw [if_neg c2] at H
      refine zw_run 2 (pc' := 19) (loc' := [some (.ref 136), some (.int k), some (.int (bI ti)), some (.int i)]) (stk' := [.int (bI ti), .int i]) (fun _ _ _ => rfl) ?_
      obtain ⟨HR, H⟩ := oq_ob H
      have J7 : ∀ (v6 : Int32), v6 = (if ti = true then (zv Z 169 k) else (zv Z 167 k) : Int32) → zw fm sx (d + 1) 163 37 [some (.ref 136), some (.int k), some (.int (bI ti)), some (.int i)] [.int v6, .int i] (zmf Z 0 0) Q := by
        intro v6 ev6
        subst ev6
        refine zw_br (c := i < (if ti = true then (zv Z 169 k) else (zv Z 167 k) : Int32)) (t1 := 42) (t2 := 40) (loc' := [some (.ref 136), some (.int k), some (.int (bI ti)), some (.int i)]) (stk' := []) (fun _ _ _ => rfl) (fun c8 => ?_) (fun c8 => ?_)
        · rw [if_pos c8] at H
          refine zw_run 1 (pc' := 43) (loc' := [some (.ref 136), some (.int k), some (.int (bI ti)), some (.int i)]) (stk' := [.ref 136]) (fun _ _ _ => rfl) ?_
          refine zw_mget (v := .ref 142) rfl rfl ?_
          refine zw_run 1 (pc' := 47) (loc' := [some (.ref 136), some (.int k), some (.int (bI ti)), some (.int i)]) (stk' := [.int (bI ti), .ref 142]) (fun _ _ _ => rfl) ?_
          obtain ⟨HR, H⟩ := oq_ob H
          have J13 : ∀ (v12 : Int32), v12 = (if ti = true then (zv Z 168 k) else (zv Z 166 k) : Int32) → zw fm sx (d + 1) 163 65 [some (.ref 136), some (.int k), some (.int (bI ti)), some (.int i)] [.int v12, .ref 142] (zmf Z 0 0) Q := by
            intro v12 ev12
            subst ev12
            refine zw_run 2 (pc' := 67) (loc' := [some (.ref 136), some (.int k), some (.int (bI ti)), some (.int i)]) (stk' := [.int ((if ti = true then (zv Z 168 k) else (zv Z 166 k) : Int32) + i), .ref 142]) (fun _ _ _ => rfl) ?_
            obtain ⟨b14, H⟩ := oq_ob H
            refine zw_iald (j := 142) rfl (by decide) (by decide) rfl b14 ?_
            refine zw_reti (i := .nop) rfl rfl ?_
            have H := oq_some H
            exact H
          clear H
          have H := HR
          refine zw_b0 (b := ti) (t1 := 50) (t2 := 59) (loc' := [some (.ref 136), some (.int k), some (.int (bI ti)), some (.int i)]) (stk' := [.ref 142]) (fun _ _ _ => rfl) (fun c9 => ?_) (fun c9 => ?_)
          · rw [if_pos c9] at H
            refine zw_run 1 (pc' := 51) (loc' := [some (.ref 136), some (.int k), some (.int (bI ti)), some (.int i)]) (stk' := [.ref 136, .ref 142]) (fun _ _ _ => rfl) ?_
            refine zw_mget (v := .ref 168) rfl rfl ?_
            refine zw_run 1 (pc' := 55) (loc' := [some (.ref 136), some (.int k), some (.int (bI ti)), some (.int i)]) (stk' := [.int k, .ref 168, .ref 142]) (fun _ _ _ => rfl) ?_
            obtain ⟨b10, H⟩ := H
            refine zw_iald (j := 168) rfl (by decide) (by decide) rfl b10 ?_
            refine zw_run 1 (pc' := 65) (loc' := [some (.ref 136), some (.int k), some (.int (bI ti)), some (.int i)]) (stk' := [.int (zv Z 168 k), .ref 142]) (fun _ _ _ => rfl) ?_
            exact J13 _ (by first | (rw [if_pos c9]; done) | (rw [if_pos c9]; rfl) | (clear H J13; simp_all [bI]; done))
          · rw [if_neg c9] at H
            refine zw_run 1 (pc' := 60) (loc' := [some (.ref 136), some (.int k), some (.int (bI ti)), some (.int i)]) (stk' := [.ref 136, .ref 142]) (fun _ _ _ => rfl) ?_
            refine zw_mget (v := .ref 166) rfl rfl ?_
            refine zw_run 1 (pc' := 64) (loc' := [some (.ref 136), some (.int k), some (.int (bI ti)), some (.int i)]) (stk' := [.int k, .ref 166, .ref 142]) (fun _ _ _ => rfl) ?_
            obtain ⟨b11, H⟩ := H
            refine zw_iald (j := 166) rfl (by decide) (by decide) rfl b11 ?_
            exact J13 _ (by first | (rw [if_neg c9]; done) | (rw [if_neg c9]; rfl) | (clear H J13; simp_all [bI]; done))
        · rw [if_neg c8] at H
          refine zw_run 1 (pc' := 41) (loc' := [some (.ref 136), some (.int k), some (.int (bI ti)), some (.int i)]) (stk' := [.int (-1)]) (fun _ _ _ => rfl) ?_
          refine zw_reti (i := .nop) rfl rfl ?_
          have H := oq_some H
          exact H
      clear H
      have H := HR
      refine zw_b0 (b := ti) (t1 := 22) (t2 := 31) (loc' := [some (.ref 136), some (.int k), some (.int (bI ti)), some (.int i)]) (stk' := [.int i]) (fun _ _ _ => rfl) (fun c3 => ?_) (fun c3 => ?_)
      · rw [if_pos c3] at H
        refine zw_run 1 (pc' := 23) (loc' := [some (.ref 136), some (.int k), some (.int (bI ti)), some (.int i)]) (stk' := [.ref 136, .int i]) (fun _ _ _ => rfl) ?_
        refine zw_mget (v := .ref 169) rfl rfl ?_
        refine zw_run 1 (pc' := 27) (loc' := [some (.ref 136), some (.int k), some (.int (bI ti)), some (.int i)]) (stk' := [.int k, .ref 169, .int i]) (fun _ _ _ => rfl) ?_
        obtain ⟨b4, H⟩ := H
        refine zw_iald (j := 169) rfl (by decide) (by decide) rfl b4 ?_
        refine zw_run 1 (pc' := 37) (loc' := [some (.ref 136), some (.int k), some (.int (bI ti)), some (.int i)]) (stk' := [.int (zv Z 169 k), .int i]) (fun _ _ _ => rfl) ?_
        exact J7 _ (by first | (rw [if_pos c3]; done) | (rw [if_pos c3]; rfl) | (clear H J7; simp_all [bI]; done))
      · rw [if_neg c3] at H
        refine zw_run 1 (pc' := 32) (loc' := [some (.ref 136), some (.int k), some (.int (bI ti)), some (.int i)]) (stk' := [.ref 136, .int i]) (fun _ _ _ => rfl) ?_
        refine zw_mget (v := .ref 167) rfl rfl ?_
        refine zw_run 1 (pc' := 36) (loc' := [some (.ref 136), some (.int k), some (.int (bI ti)), some (.int i)]) (stk' := [.int k, .ref 167, .int i]) (fun _ _ _ => rfl) ?_
        obtain ⟨b5, H⟩ := H
        refine zw_iald (j := 167) rfl (by decide) (by decide) rfl b5 ?_
        exact J7 _ (by first | (rw [if_neg c3]; done) | (rw [if_neg c3]; rfl) | (clear H J7; simp_all [bI]; done))
  · rw [if_neg c1] at H
    refine zw_run 1 (pc' := 41) (loc' := [some (.ref 136), some (.int k), some (.int (bI ti)), some (.int i)]) (stk' := [.int (-1)]) (fun _ _ _ => rfl) ?_
    refine zw_reti (i := .nop) rfl rfl ?_
    have H := oq_some H
    exact H
theorem c_163 {fm : Value} {sx : Nat × (Nat → Int32)} {d : Nat} {Z : zr_Z} (hu : fm = .null ∨ ∃ q, fm = .ref q) (k : Int32) (ti : Bool) (i : Int32) {x : Int32 × zr_Z} (hx : o_163 Z k ti i = some x) : zl fm sx (d + 2) 163 [.ref 136, .int k, .int (bI ti), .int i] Z (fun r Z' => r = some (.int x.1) ∧ Z' = x.2) :=
  zl_of (nL := 4) (loc0 := [some (.ref 136), some (.int k), some (.int (bI ti)), some (.int i)]) rfl rfl rfl (t_163 hu k ti i ⟨x, hx, rfl, rfl⟩)
/-- MarkInlinesModel.thrown -/
def o_132 (Z : zr_Z)  : Option Int32 := some (zf Z 0)
set_option maxRecDepth 100000 in
set_option maxHeartbeats 4000000 in
theorem t_132 {fm : Value} {sx : Nat × (Nat → Int32)} {d : Nat} {Z : zr_Z} {Q : Option Value → zr_Z → Prop} (hu : fm = .null ∨ ∃ q, fm = .ref q)  (H : oq (o_132 Z) (fun x => Q (some (.int x)) Z)) : zw fm sx (d + 0) 132 0 [some (.ref 136)] [] Z Q := by
  unfold o_132 at H
  refine zw_run 1 (pc' := 1) (loc' := [some (.ref 136)]) (stk' := [.ref 136]) (fun _ _ _ => rfl) ?_
  refine zw_mget (v := .int (zf Z 0)) rfl rfl ?_
  refine zw_reti (i := .nop) rfl rfl ?_
  have H := oq_some H
  exact H
theorem c_132 {fm : Value} {sx : Nat × (Nat → Int32)} {d : Nat} {Z : zr_Z} (hu : fm = .null ∨ ∃ q, fm = .ref q)  {x : Int32} (hx : o_132 Z = some x) : zl fm sx (d + 1) 132 [.ref 136] Z (fun r Z' => r = some (.int x) ∧ Z' = Z) :=
  zl_of (nL := 1) (loc0 := [some (.ref 136)]) rfl rfl rfl (t_132 hu ⟨x, hx, rfl, rfl⟩)
/-- MarkInlinesModel.output -/
def o_179 (Z : zr_Z) (i : Int32) : Option (Int32 × zr_Z) := (if (if i < 0 then True else (if (zf Z 49) ≤ i then True else (inq 172 i ∧ True))) then some ((if i < 0 then (-1) else (if (zf Z 49) ≤ i then (-1) else (zv Z 172 i) : Int32) : Int32), zmf Z 0 0) else none)
set_option maxRecDepth 100000 in
set_option maxHeartbeats 4000000 in
theorem t_179 {fm : Value} {sx : Nat × (Nat → Int32)} {d : Nat} {Z : zr_Z} {Q : Option Value → zr_Z → Prop} (hu : fm = .null ∨ ∃ q, fm = .ref q) (i : Int32) (H : oq (o_179 Z i) (fun x => Q (some (.int x.1)) x.2)) : zw fm sx (d + 0) 179 0 [some (.ref 136), some (.int i)] [] Z Q := by
  unfold o_179 at H
  refine zw_run 2 (pc' := 2) (loc' := [some (.ref 136), some (.int i)]) (stk' := [.int 0, .ref 136]) (fun _ _ _ => rfl) ?_
  refine zw_mput rfl rfl rfl rfl ?_
  show zw fm sx (d + 0) 179 5 [some (.ref 136), some (.int i)] [] (zmf Z 0 0) Q
  refine zw_run 1 (pc' := 6) (loc' := [some (.ref 136), some (.int i)]) (stk' := [.int i]) (fun _ _ _ => rfl) ?_
  obtain ⟨HR, H⟩ := oq_ob H
  have J5 : ∀ (v4 : Int32), v4 = (if i < 0 then (-1) else (if (zf Z 49) ≤ i then (-1) else (zv Z 172 i) : Int32) : Int32) → zw fm sx (d + 0) 179 27 [some (.ref 136), some (.int i)] [.int v4] (zmf Z 0 0) Q := by
    intro v4 ev4
    subst ev4
    refine zw_reti (i := .nop) rfl rfl ?_
    have H := oq_some H
    exact H
  clear H
  have H := HR
  refine zw_br (c := i < 0) (t1 := 26) (t2 := 9) (loc' := [some (.ref 136), some (.int i)]) (stk' := []) (fun _ _ _ => rfl) (fun c1 => ?_) (fun c1 => ?_)
  · rw [if_pos c1] at H
    refine zw_run 1 (pc' := 27) (loc' := [some (.ref 136), some (.int i)]) (stk' := [.int (-1)]) (fun _ _ _ => rfl) ?_
    exact J5 _ (by first | (rw [if_pos c1]; done) | (rw [if_pos c1]; rfl) | (clear H J5; simp_all [bI]; done))
  · rw [if_neg c1] at H
    refine zw_run 2 (pc' := 11) (loc' := [some (.ref 136), some (.int i)]) (stk' := [.ref 136, .int i]) (fun _ _ _ => rfl) ?_
    refine zw_mget (v := .int (zf Z 49)) rfl rfl ?_
    refine zw_br (c := (zf Z 49) ≤ i) (t1 := 26) (t2 := 17) (loc' := [some (.ref 136), some (.int i)]) (stk' := []) (fun _ _ _ => rfl) (fun c2 => ?_) (fun c2 => ?_)
    · rw [if_pos c2] at H
      refine zw_run 1 (pc' := 27) (loc' := [some (.ref 136), some (.int i)]) (stk' := [.int (-1)]) (fun _ _ _ => rfl) ?_
      exact J5 _ (by first | (rw [if_neg c1, if_pos c2]; done) | (rw [if_neg c1, if_pos c2]; rfl) | (clear H J5; simp_all [bI]; done))
    · rw [if_neg c2] at H
      refine zw_run 1 (pc' := 18) (loc' := [some (.ref 136), some (.int i)]) (stk' := [.ref 136]) (fun _ _ _ => rfl) ?_
      refine zw_mget (v := .ref 172) rfl rfl ?_
      refine zw_run 1 (pc' := 22) (loc' := [some (.ref 136), some (.int i)]) (stk' := [.int i, .ref 172]) (fun _ _ _ => rfl) ?_
      obtain ⟨b3, H⟩ := H
      refine zw_iald (j := 172) rfl (by decide) (by decide) rfl b3 ?_
      refine zw_run 1 (pc' := 27) (loc' := [some (.ref 136), some (.int i)]) (stk' := [.int (zv Z 172 i)]) (fun _ _ _ => rfl) ?_
      exact J5 _ (by first | (rw [if_neg c1, if_neg c2]; done) | (rw [if_neg c1, if_neg c2]; rfl) | (clear H J5; simp_all [bI]; done))
theorem c_179 {fm : Value} {sx : Nat × (Nat → Int32)} {d : Nat} {Z : zr_Z} (hu : fm = .null ∨ ∃ q, fm = .ref q) (i : Int32) {x : Int32 × zr_Z} (hx : o_179 Z i = some x) : zl fm sx (d + 1) 179 [.ref 136, .int i] Z (fun r Z' => r = some (.int x.1) ∧ Z' = x.2) :=
  zl_of (nL := 2) (loc0 := [some (.ref 136), some (.int i)]) rfl rfl rfl (t_179 hu i ⟨x, hx, rfl, rfl⟩)
/-- MarkInlinesModel.about -/
def o_180 (Z : zr_Z) (wh : Int32) : Option (Int32 × zr_Z) := (if wh = 0 then some (zf Z 3, zmf Z 0 0) else (if wh = 1 then some (zf Z 7, zmf Z 0 0) else (if wh = 2 then some (zf Z 45, zmf Z 0 0) else (if wh = 3 then some (zf Z 49, zmf Z 0 0) else some ((-1), zmf Z 0 0)))))
set_option maxRecDepth 100000 in
set_option maxHeartbeats 4000000 in
theorem t_180 {fm : Value} {sx : Nat × (Nat → Int32)} {d : Nat} {Z : zr_Z} {Q : Option Value → zr_Z → Prop} (hu : fm = .null ∨ ∃ q, fm = .ref q) (wh : Int32) (H : oq (o_180 Z wh) (fun x => Q (some (.int x.1)) x.2)) : zw fm sx (d + 0) 180 0 [some (.ref 136), some (.int wh)] [] Z Q := by
  unfold o_180 at H
  refine zw_run 2 (pc' := 2) (loc' := [some (.ref 136), some (.int wh)]) (stk' := [.int 0, .ref 136]) (fun _ _ _ => rfl) ?_
  refine zw_mput rfl rfl rfl rfl ?_
  show zw fm sx (d + 0) 180 5 [some (.ref 136), some (.int wh)] [] (zmf Z 0 0) Q
  refine zw_run 1 (pc' := 6) (loc' := [some (.ref 136), some (.int wh)]) (stk' := [.int wh]) (fun _ _ _ => rfl) ?_
  by_cases c1 : wh = 0
  · rw [if_pos c1] at H
    refine zw_run 1 (pc' := 36) (loc' := [some (.ref 136), some (.int wh)]) (stk' := []) (fun _ _ _ => by rw [c1]; rfl) ?_
    refine zw_run 1 (pc' := 37) (loc' := [some (.ref 136), some (.int wh)]) (stk' := [.ref 136]) (fun _ _ _ => rfl) ?_
    refine zw_mget (v := .int (zf Z 3)) rfl rfl ?_
    refine zw_reti (i := .nop) rfl rfl ?_
    have H := oq_some H
    exact H
  rw [if_neg c1] at H
  by_cases c2 : wh = 1
  · rw [if_pos c2] at H
    refine zw_run 1 (pc' := 41) (loc' := [some (.ref 136), some (.int wh)]) (stk' := []) (fun _ _ _ => by rw [c2]; rfl) ?_
    refine zw_run 1 (pc' := 42) (loc' := [some (.ref 136), some (.int wh)]) (stk' := [.ref 136]) (fun _ _ _ => rfl) ?_
    refine zw_mget (v := .int (zf Z 7)) rfl rfl ?_
    refine zw_reti (i := .nop) rfl rfl ?_
    have H := oq_some H
    exact H
  rw [if_neg c2] at H
  by_cases c3 : wh = 2
  · rw [if_pos c3] at H
    refine zw_run 1 (pc' := 46) (loc' := [some (.ref 136), some (.int wh)]) (stk' := []) (fun _ _ _ => by rw [c3]; rfl) ?_
    refine zw_run 1 (pc' := 47) (loc' := [some (.ref 136), some (.int wh)]) (stk' := [.ref 136]) (fun _ _ _ => rfl) ?_
    refine zw_mget (v := .int (zf Z 45)) rfl rfl ?_
    refine zw_reti (i := .nop) rfl rfl ?_
    have H := oq_some H
    exact H
  rw [if_neg c3] at H
  by_cases c4 : wh = 3
  · rw [if_pos c4] at H
    refine zw_run 1 (pc' := 51) (loc' := [some (.ref 136), some (.int wh)]) (stk' := []) (fun _ _ _ => by rw [c4]; rfl) ?_
    refine zw_run 1 (pc' := 52) (loc' := [some (.ref 136), some (.int wh)]) (stk' := [.ref 136]) (fun _ _ _ => rfl) ?_
    refine zw_mget (v := .int (zf Z 49)) rfl rfl ?_
    refine zw_reti (i := .nop) rfl rfl ?_
    have H := oq_some H
    exact H
  rw [if_neg c4] at H
  refine zw_sw (pc' := 56) (loc' := [some (.ref 136), some (.int wh)]) (stk' := []) rfl (am_tswd (fun i h1 h2 => ?_)) ?_
  · rcases (show i = 0 ∨ i = 1 ∨ i = 2 ∨ i = 3 by omega) with rfl | rfl | rfl | rfl
    · exact fun q => c1 (Int32.toInt_inj.mp q)
    · exact fun q => c2 (Int32.toInt_inj.mp q)
    · exact fun q => c3 (Int32.toInt_inj.mp q)
    · exact fun q => c4 (Int32.toInt_inj.mp q)
  refine zw_run 1 (pc' := 57) (loc' := [some (.ref 136), some (.int wh)]) (stk' := [.int (-1)]) (fun _ _ _ => rfl) ?_
  refine zw_reti (i := .nop) rfl rfl ?_
  have H := oq_some H
  exact H
theorem c_180 {fm : Value} {sx : Nat × (Nat → Int32)} {d : Nat} {Z : zr_Z} (hu : fm = .null ∨ ∃ q, fm = .ref q) (wh : Int32) {x : Int32 × zr_Z} (hx : o_180 Z wh = some x) : zl fm sx (d + 1) 180 [.ref 136, .int wh] Z (fun r Z' => r = some (.int x.1) ∧ Z' = x.2) :=
  zl_of (nL := 2) (loc0 := [some (.ref 136), some (.int wh)]) rfl rfl rfl (t_180 hu wh ⟨x, hx, rfl, rfl⟩)
