/-! walks into Option; written by wip/whole/gen_opt.py -/
/-- MarkInlines.define -/
def o_12 (Z : zr_Z)  : Option (Int32 × zr_Z) := (if (f_19 Z) = true then (if ¬ ((f_20 Z 0 (zs Z 61)).1) = (-1) then (if ¬ ((f_20 Z 0 (zs Z 61)).1) = (-1) then some ((f_20 Z 0 (zs Z 61)).1, zcut ((f_20 Z 0 (zs Z 61)).2) 61 0) else none) else (olet ((f_21 ((f_20 Z 0 (zs Z 61)).2)).1 : Int32) fun x4 => (if ¬ x4 = (-1) then some (x4, zcut ((f_21 ((f_20 Z 0 (zs Z 61)).2)).2) 61 0) else none))) else none)
set_option maxRecDepth 100000 in
set_option maxHeartbeats 4000000 in
theorem t_12 {fm : Value} {sx : Nat × (Nat → Int32)} {d : Nat} {Z : zr_Z} {Q : Option Value → zr_Z → Prop} (hu : fm = .null ∨ ∃ q, fm = .ref q)  (H : oq (o_12 Z) (fun x => Q (some (.int x.1)) x.2)) : zw fm sx (d + 4) 12 0 [some (.ref 57), none] [] Z Q := by
  unfold o_12 at H
  refine zw_run 1 (pc' := 1) (loc' := [some (.ref 57), none]) (stk' := [.ref 57]) (fun _ _ _ => rfl) ?_
  refine zw_get (v := .ref 82) rfl rfl rfl ?_
  refine zw_callf (As := [.ref 82]) (rest := []) (c_19 (d := d + 0)) rfl rfl rfl rfl ?_
  show zw fm sx (d + 4) 12 7 [some (.ref 57), none] [.int (bI (f_19 Z))] Z Q
  refine zw_b1 (b := (f_19 Z)) (t1 := 20) (t2 := 10) (loc' := [some (.ref 57), none]) (stk' := []) (fun _ _ _ => rfl) (fun c1 => ?_) (fun c1 => ?_)
  · rw [if_pos c1] at H
    refine zw_run 1 (pc' := 21) (loc' := [some (.ref 57), none]) (stk' := [.ref 57]) (fun _ _ _ => rfl) ?_
    refine zw_get (v := .ref 82) rfl rfl rfl ?_
    refine zw_run 2 (pc' := 26) (loc' := [some (.ref 57), none]) (stk' := [.ref 57, .int 0, .ref 82]) (fun _ _ _ => rfl) ?_
    refine zw_get (v := .ref 61) rfl rfl rfl ?_
    refine zw_callf (As := [.ref 61]) (rest := [.int 0, .ref 82]) (c_row_size (id := 61) (by decide) (d := d + 3)) rfl rfl rfl rfl ?_
    show zw fm sx (d + 4) 12 32 [some (.ref 57), none] [.int (zs Z 61), .int 0, .ref 82] Z Q
    refine zw_callf (As := [.ref 82, .int 0, .int (zs Z 61)]) (rest := []) (c_20 0 (zs Z 61) (d := d + 0)) rfl rfl rfl rfl ?_
    show zw fm sx (d + 4) 12 35 [some (.ref 57), none] [.int ((f_20 Z 0 (zs Z 61)).1)] ((f_20 Z 0 (zs Z 61)).2) Q
    refine zw_run 3 (pc' := 38) (loc' := [some (.ref 57), some (.int ((f_20 Z 0 (zs Z 61)).1))]) (stk' := [.int (-1), .int ((f_20 Z 0 (zs Z 61)).1)]) (fun _ _ _ => rfl) ?_
    refine zw_br (c := ¬ ((f_20 Z 0 (zs Z 61)).1) = (-1)) (t1 := 49) (t2 := 41) (loc' := [some (.ref 57), some (.int ((f_20 Z 0 (zs Z 61)).1))]) (stk' := []) (fun _ _ _ => rfl) (fun c2 => ?_) (fun c2 => ?_)
    · rw [if_pos c2] at H
      refine zw_run 2 (pc' := 51) (loc' := [some (.ref 57), some (.int ((f_20 Z 0 (zs Z 61)).1))]) (stk' := [.int (-1), .int ((f_20 Z 0 (zs Z 61)).1)]) (fun _ _ _ => rfl) ?_
      refine zw_br (c := ¬ ((f_20 Z 0 (zs Z 61)).1) = (-1)) (t1 := 64) (t2 := 54) (loc' := [some (.ref 57), some (.int ((f_20 Z 0 (zs Z 61)).1))]) (stk' := []) (fun _ _ _ => rfl) (fun c3 => ?_) (fun c3 => ?_)
      · rw [if_pos c3] at H
        refine zw_run 1 (pc' := 65) (loc' := [some (.ref 57), some (.int ((f_20 Z 0 (zs Z 61)).1))]) (stk' := [.ref 57]) (fun _ _ _ => rfl) ?_
        refine zw_get (v := .ref 61) rfl rfl rfl ?_
        refine zw_run 1 (pc' := 69) (loc' := [some (.ref 57), some (.int ((f_20 Z 0 (zs Z 61)).1))]) (stk' := [.int 0, .ref 61]) (fun _ _ _ => rfl) ?_
        refine zw_callf (As := [.ref 61, .int 0]) (rest := []) (c_row_cut (id := 61) (by decide) 0 (d := d + 3)) rfl rfl rfl rfl ?_
        show zw fm sx (d + 4) 12 72 [some (.ref 57), some (.int ((f_20 Z 0 (zs Z 61)).1))] [] (zcut ((f_20 Z 0 (zs Z 61)).2) 61 0) Q
        refine zw_run 1 (pc' := 73) (loc' := [some (.ref 57), some (.int ((f_20 Z 0 (zs Z 61)).1))]) (stk' := [.int ((f_20 Z 0 (zs Z 61)).1)]) (fun _ _ _ => rfl) ?_
        refine zw_reti (i := .nop) rfl rfl ?_
        have H := oq_some H
        exact H
      · rw [if_neg c3] at H
        exact absurd H oq_none
    · rw [if_neg c2] at H
      refine zw_run 1 (pc' := 42) (loc' := [some (.ref 57), some (.int ((f_20 Z 0 (zs Z 61)).1))]) (stk' := [.ref 57]) (fun _ _ _ => rfl) ?_
      refine zw_get (v := .ref 82) rfl rfl rfl ?_
      refine zw_callf (As := [.ref 82]) (rest := []) (c_21 (d := d + 1)) rfl rfl rfl rfl ?_
      show zw fm sx (d + 4) 12 48 [some (.ref 57), some (.int ((f_20 Z 0 (zs Z 61)).1))] [.int ((f_21 ((f_20 Z 0 (zs Z 61)).2)).1)] ((f_21 ((f_20 Z 0 (zs Z 61)).2)).2) Q
      refine zw_run 1 (pc' := 49) (loc' := [some (.ref 57), some (.int ((f_21 ((f_20 Z 0 (zs Z 61)).2)).1))]) (stk' := []) (fun _ _ _ => rfl) ?_
      obtain ⟨x4, hx4⟩ : ∃ w : Int32, w = (f_21 ((f_20 Z 0 (zs Z 61)).2)).1 := ⟨_, rfl⟩
      rw [← hx4]
      have H := oq_let H x4 hx4
      refine zw_run 2 (pc' := 51) (loc' := [some (.ref 57), some (.int x4)]) (stk' := [.int (-1), .int x4]) (fun _ _ _ => rfl) ?_
      refine zw_br (c := ¬ x4 = (-1)) (t1 := 64) (t2 := 54) (loc' := [some (.ref 57), some (.int x4)]) (stk' := []) (fun _ _ _ => rfl) (fun c5 => ?_) (fun c5 => ?_)
      · rw [if_pos c5] at H
        refine zw_run 1 (pc' := 65) (loc' := [some (.ref 57), some (.int x4)]) (stk' := [.ref 57]) (fun _ _ _ => rfl) ?_
        refine zw_get (v := .ref 61) rfl rfl rfl ?_
        refine zw_run 1 (pc' := 69) (loc' := [some (.ref 57), some (.int x4)]) (stk' := [.int 0, .ref 61]) (fun _ _ _ => rfl) ?_
        refine zw_callf (As := [.ref 61, .int 0]) (rest := []) (c_row_cut (id := 61) (by decide) 0 (d := d + 3)) rfl rfl rfl rfl ?_
        show zw fm sx (d + 4) 12 72 [some (.ref 57), some (.int x4)] [] (zcut ((f_21 ((f_20 Z 0 (zs Z 61)).2)).2) 61 0) Q
        refine zw_run 1 (pc' := 73) (loc' := [some (.ref 57), some (.int x4)]) (stk' := [.int x4]) (fun _ _ _ => rfl) ?_
        refine zw_reti (i := .nop) rfl rfl ?_
        have H := oq_some H
        exact H
      · rw [if_neg c5] at H
        exact absurd H oq_none
  · rw [if_neg c1] at H
    exact absurd H oq_none
theorem c_12 {fm : Value} {sx : Nat × (Nat → Int32)} {d : Nat} {Z : zr_Z} (hu : fm = .null ∨ ∃ q, fm = .ref q)  {x : Int32 × zr_Z} (hx : o_12 Z = some x) : zl fm sx (d + 5) 12 [.ref 57] Z (fun r Z' => r = some (.int x.1) ∧ Z' = x.2) :=
  zl_of (nL := 2) (loc0 := [some (.ref 57), none]) rfl rfl rfl (t_12 hu ⟨x, hx, rfl, rfl⟩)
/-- MarkInlines.read -/
def o_14 (Z : zr_Z)  : Option (Int32 × zr_Z) := (Option.bind (o_54 Z) fun u1 => (if ¬ (zc (zsc u1 4 (zc u1 2)) 4) = 0 then (if (zc (zsc u1 4 (zc u1 2)) 4) = 0 then some (f_44 (zsc u1 4 (zc u1 2)), zsc u1 4 (zc u1 2)) else none) else (Option.bind (o_46 (zsc u1 4 (zc u1 2))) fun u4 => (if u4.1 = true then (if (zc u4.2 4) = 0 then some (f_44 u4.2, u4.2) else none) else (if (zc (zsc u4.2 4 3) 4) = 0 then some (f_44 (zsc u4.2 4 3), zsc u4.2 4 3) else none)))))
set_option maxRecDepth 100000 in
set_option maxHeartbeats 4000000 in
theorem t_14 {fm : Value} {sx : Nat × (Nat → Int32)} {d : Nat} {Z : zr_Z} {Q : Option Value → zr_Z → Prop} (hu : fm = .null ∨ ∃ q, fm = .ref q)  (H : oq (o_14 Z) (fun x => Q (some (.int x.1)) x.2)) : zw fm sx (d + 10) 14 0 [some (.ref 57)] [] Z Q := by
  unfold o_14 at H
  refine zw_run 1 (pc' := 1) (loc' := [some (.ref 57)]) (stk' := [.ref 57]) (fun _ _ _ => rfl) ?_
  refine zw_get (v := .ref 89) rfl rfl rfl ?_
  obtain ⟨u1, hu1, H⟩ := oq_bind H
  refine zw_callf (As := [.ref 89]) (rest := []) (c_54 hu hu1 (d := d + 2)) rfl rfl rfl rfl ?_
  show zw fm sx (d + 10) 14 7 [some (.ref 57)] [] u1 Q
  refine zw_run 2 (pc' := 9) (loc' := [some (.ref 57)]) (stk' := [.ref 57, .ref 57]) (fun _ _ _ => rfl) ?_
  refine zw_get (v := .ref 89) rfl rfl rfl ?_
  refine zw_get (v := .int (zc u1 2)) rfl rfl rfl ?_
  refine zw_put (j := 4) rfl rfl rfl rfl (zr_obup4 _ _) ?_
  show zw fm sx (d + 10) 14 18 [some (.ref 57)] [] (zsc u1 4 (zc u1 2)) Q
  refine zw_run 1 (pc' := 19) (loc' := [some (.ref 57)]) (stk' := [.ref 57]) (fun _ _ _ => rfl) ?_
  refine zw_get (v := .int (zc (zsc u1 4 (zc u1 2)) 4)) rfl rfl rfl ?_
  refine zw_br (c := ¬ (zc (zsc u1 4 (zc u1 2)) 4) = 0) (t1 := 40) (t2 := 25) (loc' := [some (.ref 57)]) (stk' := []) (fun _ _ _ => rfl) (fun c2 => ?_) (fun c2 => ?_)
  · rw [if_pos c2] at H
    refine zw_run 1 (pc' := 41) (loc' := [some (.ref 57)]) (stk' := [.ref 57]) (fun _ _ _ => rfl) ?_
    refine zw_get (v := .int (zc (zsc u1 4 (zc u1 2)) 4)) rfl rfl rfl ?_
    refine zw_br (c := (zc (zsc u1 4 (zc u1 2)) 4) = 0) (t1 := 64) (t2 := 47) (loc' := [some (.ref 57)]) (stk' := []) (fun _ _ _ => rfl) (fun c3 => ?_) (fun c3 => ?_)
    · rw [if_pos c3] at H
      refine zw_run 1 (pc' := 65) (loc' := [some (.ref 57)]) (stk' := [.ref 57]) (fun _ _ _ => rfl) ?_
      refine zw_get (v := .ref 114) rfl rfl rfl ?_
      refine zw_callf (As := [.ref 114]) (rest := []) (c_44 (d := d + 8)) rfl rfl rfl rfl ?_
      show zw fm sx (d + 10) 14 71 [some (.ref 57)] [.int (f_44 (zsc u1 4 (zc u1 2)))] (zsc u1 4 (zc u1 2)) Q
      refine zw_reti (i := .nop) rfl rfl ?_
      have H := oq_some H
      exact H
    · rw [if_neg c3] at H
      refine zw_run 1 (pc' := 48) (loc' := [some (.ref 57)]) (stk' := [.ref 57]) (fun _ _ _ => rfl) ?_
      refine zw_get (v := .ref 114) rfl rfl rfl ?_
      refine zw_callf (As := [.ref 114]) (rest := []) (c_43 (d := d + 8)) rfl rfl rfl rfl ?_
      show zw fm sx (d + 10) 14 54 [some (.ref 57)] [] (f_43 (zsc u1 4 (zc u1 2))) Q
      exact absurd H oq_none
  · rw [if_neg c2] at H
    refine zw_run 1 (pc' := 26) (loc' := [some (.ref 57)]) (stk' := [.ref 57]) (fun _ _ _ => rfl) ?_
    refine zw_get (v := .ref 114) rfl rfl rfl ?_
    obtain ⟨u4, hu4, H⟩ := oq_bind H
    refine zw_callf (As := [.ref 114]) (rest := []) (c_46 hu hu4 (d := d + 0)) rfl rfl rfl rfl ?_
    show zw fm sx (d + 10) 14 32 [some (.ref 57)] [.int (bI u4.1)] u4.2 Q
    refine zw_b1 (b := u4.1) (t1 := 40) (t2 := 35) (loc' := [some (.ref 57)]) (stk' := []) (fun _ _ _ => rfl) (fun c5 => ?_) (fun c5 => ?_)
    · rw [if_pos c5] at H
      refine zw_run 1 (pc' := 41) (loc' := [some (.ref 57)]) (stk' := [.ref 57]) (fun _ _ _ => rfl) ?_
      refine zw_get (v := .int (zc u4.2 4)) rfl rfl rfl ?_
      refine zw_br (c := (zc u4.2 4) = 0) (t1 := 64) (t2 := 47) (loc' := [some (.ref 57)]) (stk' := []) (fun _ _ _ => rfl) (fun c6 => ?_) (fun c6 => ?_)
      · rw [if_pos c6] at H
        refine zw_run 1 (pc' := 65) (loc' := [some (.ref 57)]) (stk' := [.ref 57]) (fun _ _ _ => rfl) ?_
        refine zw_get (v := .ref 114) rfl rfl rfl ?_
        refine zw_callf (As := [.ref 114]) (rest := []) (c_44 (d := d + 8)) rfl rfl rfl rfl ?_
        show zw fm sx (d + 10) 14 71 [some (.ref 57)] [.int (f_44 u4.2)] u4.2 Q
        refine zw_reti (i := .nop) rfl rfl ?_
        have H := oq_some H
        exact H
      · rw [if_neg c6] at H
        refine zw_run 1 (pc' := 48) (loc' := [some (.ref 57)]) (stk' := [.ref 57]) (fun _ _ _ => rfl) ?_
        refine zw_get (v := .ref 114) rfl rfl rfl ?_
        refine zw_callf (As := [.ref 114]) (rest := []) (c_43 (d := d + 8)) rfl rfl rfl rfl ?_
        show zw fm sx (d + 10) 14 54 [some (.ref 57)] [] (f_43 u4.2) Q
        exact absurd H oq_none
    · rw [if_neg c5] at H
      refine zw_run 2 (pc' := 37) (loc' := [some (.ref 57)]) (stk' := [.int 3, .ref 57]) (fun _ _ _ => rfl) ?_
      refine zw_put (j := 4) rfl rfl rfl rfl (zr_obup4 _ _) ?_
      show zw fm sx (d + 10) 14 40 [some (.ref 57)] [] (zsc u4.2 4 3) Q
      refine zw_run 1 (pc' := 41) (loc' := [some (.ref 57)]) (stk' := [.ref 57]) (fun _ _ _ => rfl) ?_
      refine zw_get (v := .int (zc (zsc u4.2 4 3) 4)) rfl rfl rfl ?_
      refine zw_br (c := (zc (zsc u4.2 4 3) 4) = 0) (t1 := 64) (t2 := 47) (loc' := [some (.ref 57)]) (stk' := []) (fun _ _ _ => rfl) (fun c7 => ?_) (fun c7 => ?_)
      · rw [if_pos c7] at H
        refine zw_run 1 (pc' := 65) (loc' := [some (.ref 57)]) (stk' := [.ref 57]) (fun _ _ _ => rfl) ?_
        refine zw_get (v := .ref 114) rfl rfl rfl ?_
        refine zw_callf (As := [.ref 114]) (rest := []) (c_44 (d := d + 8)) rfl rfl rfl rfl ?_
        show zw fm sx (d + 10) 14 71 [some (.ref 57)] [.int (f_44 (zsc u4.2 4 3))] (zsc u4.2 4 3) Q
        refine zw_reti (i := .nop) rfl rfl ?_
        have H := oq_some H
        exact H
      · rw [if_neg c7] at H
        refine zw_run 1 (pc' := 48) (loc' := [some (.ref 57)]) (stk' := [.ref 57]) (fun _ _ _ => rfl) ?_
        refine zw_get (v := .ref 114) rfl rfl rfl ?_
        refine zw_callf (As := [.ref 114]) (rest := []) (c_43 (d := d + 8)) rfl rfl rfl rfl ?_
        show zw fm sx (d + 10) 14 54 [some (.ref 57)] [] (f_43 (zsc u4.2 4 3)) Q
        exact absurd H oq_none
theorem c_14 {fm : Value} {sx : Nat × (Nat → Int32)} {d : Nat} {Z : zr_Z} (hu : fm = .null ∨ ∃ q, fm = .ref q)  {x : Int32 × zr_Z} (hx : o_14 Z = some x) : zl fm sx (d + 11) 14 [.ref 57] Z (fun r Z' => r = some (.int x.1) ∧ Z' = x.2) :=
  zl_of (nL := 1) (loc0 := [some (.ref 57)]) rfl rfl rfl (t_14 hu ⟨x, hx, rfl, rfl⟩)
/-- MarkInlines.plain -/
def o_3 (Z : zr_Z) (k : Int32) : Option (Int32 × zr_Z) := (if (f_45 Z k) = true then (Option.bind (o_103 Z k) fun u2 => some (zs u2 134, u2)) else none)
set_option maxRecDepth 100000 in
set_option maxHeartbeats 4000000 in
theorem t_3 {fm : Value} {sx : Nat × (Nat → Int32)} {d : Nat} {Z : zr_Z} {Q : Option Value → zr_Z → Prop} (hu : fm = .null ∨ ∃ q, fm = .ref q) (k : Int32) (H : oq (o_3 Z k) (fun x => Q (some (.int x.1)) x.2)) : zw fm sx (d + 8) 3 0 [some (.ref 57), some (.int k)] [] Z Q := by
  unfold o_3 at H
  refine zw_run 1 (pc' := 1) (loc' := [some (.ref 57), some (.int k)]) (stk' := [.ref 57]) (fun _ _ _ => rfl) ?_
  refine zw_get (v := .ref 114) rfl rfl rfl ?_
  refine zw_run 1 (pc' := 5) (loc' := [some (.ref 57), some (.int k)]) (stk' := [.int k, .ref 114]) (fun _ _ _ => rfl) ?_
  refine zw_callf (As := [.ref 114, .int k]) (rest := []) (c_45 k (d := d + 5)) rfl rfl rfl rfl ?_
  show zw fm sx (d + 8) 3 8 [some (.ref 57), some (.int k)] [.int (bI (f_45 Z k))] Z Q
  refine zw_b1 (b := (f_45 Z k)) (t1 := 21) (t2 := 11) (loc' := [some (.ref 57), some (.int k)]) (stk' := []) (fun _ _ _ => rfl) (fun c1 => ?_) (fun c1 => ?_)
  · rw [if_pos c1] at H
    refine zw_run 1 (pc' := 22) (loc' := [some (.ref 57), some (.int k)]) (stk' := [.ref 57]) (fun _ _ _ => rfl) ?_
    refine zw_get (v := .ref 133) rfl rfl rfl ?_
    refine zw_run 1 (pc' := 26) (loc' := [some (.ref 57), some (.int k)]) (stk' := [.int k, .ref 133]) (fun _ _ _ => rfl) ?_
    obtain ⟨u2, hu2, H⟩ := oq_bind H
    refine zw_callf (As := [.ref 133, .int k]) (rest := []) (c_103 hu k hu2 (d := d + 0)) rfl rfl rfl rfl ?_
    show zw fm sx (d + 8) 3 29 [some (.ref 57), some (.int k)] [] u2 Q
    refine zw_run 1 (pc' := 30) (loc' := [some (.ref 57), some (.int k)]) (stk' := [.ref 57]) (fun _ _ _ => rfl) ?_
    refine zw_get (v := .ref 133) rfl rfl rfl ?_
    refine zw_get (v := .ref 134) rfl rfl rfl ?_
    refine zw_callf (As := [.ref 134]) (rest := []) (c_row_size (id := 134) (by decide) (d := d + 7)) rfl rfl rfl rfl ?_
    show zw fm sx (d + 8) 3 39 [some (.ref 57), some (.int k)] [.int (zs u2 134)] u2 Q
    refine zw_reti (i := .nop) rfl rfl ?_
    have H := oq_some H
    exact H
  · rw [if_neg c1] at H
    exact absurd H oq_none
theorem c_3 {fm : Value} {sx : Nat × (Nat → Int32)} {d : Nat} {Z : zr_Z} (hu : fm = .null ∨ ∃ q, fm = .ref q) (k : Int32) {x : Int32 × zr_Z} (hx : o_3 Z k = some x) : zl fm sx (d + 9) 3 [.ref 57, .int k] Z (fun r Z' => r = some (.int x.1) ∧ Z' = x.2) :=
  zl_of (nL := 2) (loc0 := [some (.ref 57), some (.int k)]) rfl rfl rfl (t_3 hu k ⟨x, hx, rfl, rfl⟩)
/-- MarkInlines.write -/
def o_4 (Z : zr_Z)  : Option (Int32 × zr_Z) := (if ¬ (f_44 Z) = (-1) then (Option.bind (o_104 Z) fun u2 => some (zs u2 134, u2)) else none)
set_option maxRecDepth 100000 in
set_option maxHeartbeats 4000000 in
theorem t_4 {fm : Value} {sx : Nat × (Nat → Int32)} {d : Nat} {Z : zr_Z} {Q : Option Value → zr_Z → Prop} (hu : fm = .null ∨ ∃ q, fm = .ref q)  (H : oq (o_4 Z) (fun x => Q (some (.int x.1)) x.2)) : zw fm sx (d + 9) 4 0 [some (.ref 57)] [] Z Q := by
  unfold o_4 at H
  refine zw_run 1 (pc' := 1) (loc' := [some (.ref 57)]) (stk' := [.ref 57]) (fun _ _ _ => rfl) ?_
  refine zw_get (v := .ref 114) rfl rfl rfl ?_
  refine zw_callf (As := [.ref 114]) (rest := []) (c_44 (d := d + 7)) rfl rfl rfl rfl ?_
  show zw fm sx (d + 9) 4 7 [some (.ref 57)] [.int (f_44 Z)] Z Q
  refine zw_run 1 (pc' := 8) (loc' := [some (.ref 57)]) (stk' := [.int (-1), .int (f_44 Z)]) (fun _ _ _ => rfl) ?_
  refine zw_br (c := ¬ (f_44 Z) = (-1)) (t1 := 21) (t2 := 11) (loc' := [some (.ref 57)]) (stk' := []) (fun _ _ _ => rfl) (fun c1 => ?_) (fun c1 => ?_)
  · rw [if_pos c1] at H
    refine zw_run 1 (pc' := 22) (loc' := [some (.ref 57)]) (stk' := [.ref 57]) (fun _ _ _ => rfl) ?_
    refine zw_get (v := .ref 133) rfl rfl rfl ?_
    obtain ⟨u2, hu2, H⟩ := oq_bind H
    refine zw_callf (As := [.ref 133]) (rest := []) (c_104 hu hu2 (d := d + 0)) rfl rfl rfl rfl ?_
    show zw fm sx (d + 9) 4 28 [some (.ref 57)] [] u2 Q
    refine zw_run 1 (pc' := 29) (loc' := [some (.ref 57)]) (stk' := [.ref 57]) (fun _ _ _ => rfl) ?_
    refine zw_get (v := .ref 133) rfl rfl rfl ?_
    refine zw_get (v := .ref 134) rfl rfl rfl ?_
    refine zw_callf (As := [.ref 134]) (rest := []) (c_row_size (id := 134) (by decide) (d := d + 8)) rfl rfl rfl rfl ?_
    show zw fm sx (d + 9) 4 38 [some (.ref 57)] [.int (zs u2 134)] u2 Q
    refine zw_reti (i := .nop) rfl rfl ?_
    have H := oq_some H
    exact H
  · rw [if_neg c1] at H
    exact absurd H oq_none
theorem c_4 {fm : Value} {sx : Nat × (Nat → Int32)} {d : Nat} {Z : zr_Z} (hu : fm = .null ∨ ∃ q, fm = .ref q)  {x : Int32 × zr_Z} (hx : o_4 Z = some x) : zl fm sx (d + 10) 4 [.ref 57] Z (fun r Z' => r = some (.int x.1) ∧ Z' = x.2) :=
  zl_of (nL := 1) (loc0 := [some (.ref 57)]) rfl rfl rfl (t_4 hu ⟨x, hx, rfl, rfl⟩)
