/-! walks into Option; written by wip/whole/gen_opt.py -/
/-- MarkInlines$Nodes.addAddress, its loop at 46 -/
def g_38_46 : Nat → zr_Z → Int32 → Bool → Int32 → Option zr_Z
  | 0, _, _, _, _ => none
  | n + 1, Z, ld, mail, x3 => (if (zt Z 76 ld) ≤ x3 then some Z else g_38_46 n (zadd Z 131 (zt Z 61 x3)) ld mail (x3 + 1))
set_option maxRecDepth 100000 in
set_option maxHeartbeats 4000000 in
theorem l_38_46 {fm : Value} {sx : Nat × (Nat → Int32)} {d : Nat} {Q : Option Value → zr_Z → Prop} (hu : fm = .null ∨ ∃ q, fm = .ref q) (ld : Int32) (mail : Bool) : ∀ (n : Nat) (Z : zr_Z) (x3 : Int32), oq (g_38_46 n Z ld mail x3) (fun x => Q none x) → zw fm sx (d + 4) 38 46 [some (.ref 114), some (.int ld), none, some (.int x3)] [] Z Q := by
  intro n
  induction n with
  | zero => intro Z x3 H; exact absurd H oq_none
  | succ n ih =>
    intro Z x3 H
    unfold g_38_46 at H
    refine zw_run 2 (pc' := 48) (loc' := [some (.ref 114), some (.int ld), none, some (.int x3)]) (stk' := [.ref 114, .int x3]) (fun _ _ _ => rfl) ?_
    refine zw_get (v := .ref 65) rfl rfl rfl ?_
    refine zw_get (v := .ref 76) rfl rfl rfl ?_
    refine zw_run 1 (pc' := 55) (loc' := [some (.ref 114), some (.int ld), none, some (.int x3)]) (stk' := [.int ld, .ref 76, .int x3]) (fun _ _ _ => rfl) ?_
    refine zw_callf (As := [.ref 76, .int ld]) (rest := [.int x3]) (c_row_at (id := 76) (by decide) ld (d := d + 3)) rfl rfl rfl rfl ?_
    show zw fm sx (d + 4) 38 58 [some (.ref 114), some (.int ld), none, some (.int x3)] [.int (zt Z 76 ld), .int x3] Z Q
    refine zw_br (c := (zt Z 76 ld) ≤ x3) (t1 := 82) (t2 := 61) (loc' := [some (.ref 114), some (.int ld), none, some (.int x3)]) (stk' := []) (fun _ _ _ => rfl) (fun c1 => ?_) (fun c1 => ?_)
    · rw [if_pos c1] at H
      refine zw_retv rfl rfl ?_
      have H := oq_some H
      exact H
    · rw [if_neg c1] at H
      refine zw_run 1 (pc' := 62) (loc' := [some (.ref 114), some (.int ld), none, some (.int x3)]) (stk' := [.ref 114]) (fun _ _ _ => rfl) ?_
      refine zw_get (v := .ref 131) rfl rfl rfl ?_
      refine zw_run 1 (pc' := 66) (loc' := [some (.ref 114), some (.int ld), none, some (.int x3)]) (stk' := [.ref 114, .ref 131]) (fun _ _ _ => rfl) ?_
      refine zw_get (v := .ref 61) rfl rfl rfl ?_
      refine zw_run 1 (pc' := 70) (loc' := [some (.ref 114), some (.int ld), none, some (.int x3)]) (stk' := [.int x3, .ref 61, .ref 131]) (fun _ _ _ => rfl) ?_
      refine zw_callf (As := [.ref 61, .int x3]) (rest := [.ref 131]) (c_row_at (id := 61) (by decide) x3 (d := d + 3)) rfl rfl rfl rfl ?_
      show zw fm sx (d + 4) 38 73 [some (.ref 114), some (.int ld), none, some (.int x3)] [.int (zt Z 61 x3), .ref 131] Z Q
      refine zw_callf (As := [.ref 131, .int (zt Z 61 x3)]) (rest := []) (c_row_add (id := 131) (by decide) (zt Z 61 x3) (d := d + 2)) rfl rfl rfl rfl ?_
      show zw fm sx (d + 4) 38 76 [some (.ref 114), some (.int ld), none, some (.int x3)] [] (zadd Z 131 (zt Z 61 x3)) Q
      refine zw_run 2 (pc' := 46) (loc' := [some (.ref 114), some (.int ld), none, some (.int (x3 + 1))]) (stk' := []) (fun _ _ _ => rfl) ?_
      exact ih (zadd Z 131 (zt Z 61 x3)) (x3 + 1) H
/-- MarkInlines$Nodes.addAddress, its loop at 2 -/
def g_38_2 : Nat → zr_Z → Int32 → Bool → Int32 → Option zr_Z
  | 0, _, _, _, _ => none
  | n + 1, Z, ld, mail, x3 => (if mail = true then (if (sln 3) ≤ x3 then g_38_46 oF Z ld mail (zt Z 74 ld) else (if sci 3 x3 then g_38_2 n (zadd Z 131 (sch 3 x3)) ld mail (x3 + 1) else none)) else g_38_46 oF Z ld mail (zt Z 74 ld))
set_option maxRecDepth 100000 in
set_option maxHeartbeats 4000000 in
theorem l_38_2 {fm : Value} {sx : Nat × (Nat → Int32)} {d : Nat} {Q : Option Value → zr_Z → Prop} (hu : fm = .null ∨ ∃ q, fm = .ref q) (ld : Int32) (mail : Bool) : ∀ (n : Nat) (Z : zr_Z) (x3 : Int32), oq (g_38_2 n Z ld mail x3) (fun x => Q none x) → zw fm sx (d + 4) 38 2 [some (.ref 114), some (.int ld), some (.int (bI mail)), some (.int x3)] [] Z Q := by
  intro n
  induction n with
  | zero => intro Z x3 H; exact absurd H oq_none
  | succ n ih =>
    intro Z x3 H
    unfold g_38_2 at H
    refine zw_run 1 (pc' := 3) (loc' := [some (.ref 114), some (.int ld), some (.int (bI mail)), some (.int x3)]) (stk' := [.int (bI mail)]) (fun _ _ _ => rfl) ?_
    refine zw_b0 (b := mail) (t1 := 6) (t2 := 34) (loc' := [some (.ref 114), some (.int ld), some (.int (bI mail)), some (.int x3)]) (stk' := []) (fun _ _ _ => rfl) (fun c1 => ?_) (fun c1 => ?_)
    · rw [if_pos c1] at H
      refine zw_run 2 (pc' := 9) (loc' := [some (.ref 114), some (.int ld), some (.int (bI mail)), some (.int x3)]) (stk' := [.ref 8, .int x3]) (fun _ _ _ => rfl) ?_
      refine zw_callf (As := [.ref 8]) (rest := [.int x3]) (c_sln 3 (by decide) (d := d + 2)) rfl rfl rfl rfl ?_
      show zw fm sx (d + 4) 38 12 [some (.ref 114), some (.int ld), some (.int (bI mail)), some (.int x3)] [.int (sln 3), .int x3] Z Q
      refine zw_br (c := (sln 3) ≤ x3) (t1 := 34) (t2 := 15) (loc' := [some (.ref 114), some (.int ld), some (.int (bI mail)), some (.int x3)]) (stk' := []) (fun _ _ _ => rfl) (fun c3 => ?_) (fun c3 => ?_)
      · rw [if_pos c3] at H
        refine zw_run 1 (pc' := 35) (loc' := [some (.ref 114), some (.int ld), some (.int (bI mail)), some (.int x3)]) (stk' := [.ref 114]) (fun _ _ _ => rfl) ?_
        refine zw_get (v := .ref 65) rfl rfl rfl ?_
        refine zw_get (v := .ref 74) rfl rfl rfl ?_
        refine zw_run 1 (pc' := 42) (loc' := [some (.ref 114), some (.int ld), some (.int (bI mail)), some (.int x3)]) (stk' := [.int ld, .ref 74]) (fun _ _ _ => rfl) ?_
        refine zw_callf (As := [.ref 74, .int ld]) (rest := []) (c_row_at (id := 74) (by decide) ld (d := d + 3)) rfl rfl rfl rfl ?_
        show zw fm sx (d + 4) 38 45 [some (.ref 114), some (.int ld), some (.int (bI mail)), some (.int x3)] [.int (zt Z 74 ld)] Z Q
        refine zw_run 1 (pc' := 46) (loc' := [some (.ref 114), some (.int ld), some (.int (bI mail)), some (.int (zt Z 74 ld))]) (stk' := []) (fun _ _ _ => rfl) ?_
        refine zw_fgt [true, true, false, true] rfl ?_
        exact l_38_46 hu ld mail _ Z (zt Z 74 ld) H
      · rw [if_neg c3] at H
        refine zw_run 1 (pc' := 16) (loc' := [some (.ref 114), some (.int ld), some (.int (bI mail)), some (.int x3)]) (stk' := [.ref 114]) (fun _ _ _ => rfl) ?_
        refine zw_get (v := .ref 131) rfl rfl rfl ?_
        refine zw_run 2 (pc' := 22) (loc' := [some (.ref 114), some (.int ld), some (.int (bI mail)), some (.int x3)]) (stk' := [.int x3, .ref 8, .ref 131]) (fun _ _ _ => rfl) ?_
        obtain ⟨b4, H⟩ := oq_ob H
        refine zw_callf (As := [.ref 8, .int x3]) (rest := [.ref 131]) (c_sch hu 3 (by decide) x3 b4 (d := d + 0)) rfl rfl rfl rfl ?_
        show zw fm sx (d + 4) 38 25 [some (.ref 114), some (.int ld), some (.int (bI mail)), some (.int x3)] [.int (sch 3 x3), .ref 131] Z Q
        refine zw_callf (As := [.ref 131, .int (sch 3 x3)]) (rest := []) (c_row_add (id := 131) (by decide) (sch 3 x3) (d := d + 2)) rfl rfl rfl rfl ?_
        show zw fm sx (d + 4) 38 28 [some (.ref 114), some (.int ld), some (.int (bI mail)), some (.int x3)] [] (zadd Z 131 (sch 3 x3)) Q
        refine zw_run 2 (pc' := 2) (loc' := [some (.ref 114), some (.int ld), some (.int (bI mail)), some (.int (x3 + 1))]) (stk' := []) (fun _ _ _ => rfl) ?_
        exact ih (zadd Z 131 (sch 3 x3)) (x3 + 1) H
    · rw [if_neg c1] at H
      refine zw_run 1 (pc' := 35) (loc' := [some (.ref 114), some (.int ld), some (.int (bI mail)), some (.int x3)]) (stk' := [.ref 114]) (fun _ _ _ => rfl) ?_
      refine zw_get (v := .ref 65) rfl rfl rfl ?_
      refine zw_get (v := .ref 74) rfl rfl rfl ?_
      refine zw_run 1 (pc' := 42) (loc' := [some (.ref 114), some (.int ld), some (.int (bI mail)), some (.int x3)]) (stk' := [.int ld, .ref 74]) (fun _ _ _ => rfl) ?_
      refine zw_callf (As := [.ref 74, .int ld]) (rest := []) (c_row_at (id := 74) (by decide) ld (d := d + 3)) rfl rfl rfl rfl ?_
      show zw fm sx (d + 4) 38 45 [some (.ref 114), some (.int ld), some (.int (bI mail)), some (.int x3)] [.int (zt Z 74 ld)] Z Q
      refine zw_run 1 (pc' := 46) (loc' := [some (.ref 114), some (.int ld), some (.int (bI mail)), some (.int (zt Z 74 ld))]) (stk' := []) (fun _ _ _ => rfl) ?_
      refine zw_fgt [true, true, false, true] rfl ?_
      exact l_38_46 hu ld mail _ Z (zt Z 74 ld) H
/-- MarkInlines$Nodes.addAddress -/
def o_38 (Z : zr_Z) (ld : Int32) (mail : Bool) : Option zr_Z := g_38_2 oF Z ld mail 0
set_option maxRecDepth 100000 in
set_option maxHeartbeats 4000000 in
theorem t_38 {fm : Value} {sx : Nat × (Nat → Int32)} {d : Nat} {Z : zr_Z} {Q : Option Value → zr_Z → Prop} (hu : fm = .null ∨ ∃ q, fm = .ref q) (ld : Int32) (mail : Bool) (H : oq (o_38 Z ld mail) (fun x => Q none x)) : zw fm sx (d + 4) 38 0 [some (.ref 114), some (.int ld), some (.int (bI mail)), none] [] Z Q := by
  unfold o_38 at H
  refine zw_run 2 (pc' := 2) (loc' := [some (.ref 114), some (.int ld), some (.int (bI mail)), some (.int 0)]) (stk' := []) (fun _ _ _ => rfl) ?_
  exact l_38_2 hu ld mail _ Z 0 H
theorem c_38 {fm : Value} {sx : Nat × (Nat → Int32)} {d : Nat} {Z : zr_Z} (hu : fm = .null ∨ ∃ q, fm = .ref q) (ld : Int32) (mail : Bool) {x : zr_Z} (hx : o_38 Z ld mail = some x) : zl fm sx (d + 5) 38 [.ref 114, .int ld, .int (bI mail)] Z (fun r Z' => r = none ∧ Z' = x) :=
  zl_of (nL := 4) (loc0 := [some (.ref 114), some (.int ld), some (.int (bI mail)), none]) rfl rfl rfl (t_38 hu ld mail ⟨x, hx, rfl, rfl⟩)
/-- MarkInlines$Nodes.addLead -/
def o_50 (Z : zr_Z) (k : Int32) (ld : Int32) : Option zr_Z := (if ¬ (zt Z 70 ld) = 1 then (Option.bind (o_38 (zput Z 129 k (zt Z 72 ld)) ld ((decide ((zt Z 70 ld) = 3)))) fun u5 => (olet (zput (zput u5 123 k ((zs u5 131) - (zt u5 121 k))) 125 k (zs (zput u5 123 k ((zs u5 131) - (zt u5 121 k))) 131) : zr_Z) fun Z6 => (Option.bind (o_66 Z6 (zt Z6 78 ld) (zt Z6 80 ld)) fun u7 => some (zput u7 127 k ((zs u7 131) - (zt u7 125 k)))))) else (Option.bind (o_66 (zput Z 129 k (zt Z 72 ld)) (zt (zput Z 129 k (zt Z 72 ld)) 74 ld) (zt (zput Z 129 k (zt Z 72 ld)) 76 ld)) fun u8 => (olet (zput (zput u8 123 k ((zs u8 131) - (zt u8 121 k))) 125 k (zs (zput u8 123 k ((zs u8 131) - (zt u8 121 k))) 131) : zr_Z) fun Z9 => (Option.bind (o_66 Z9 (zt Z9 78 ld) (zt Z9 80 ld)) fun u10 => some (zput u10 127 k ((zs u10 131) - (zt u10 125 k)))))))
set_option maxRecDepth 100000 in
set_option maxHeartbeats 4000000 in
theorem t_50 {fm : Value} {sx : Nat × (Nat → Int32)} {d : Nat} {Z : zr_Z} {Q : Option Value → zr_Z → Prop} (hu : fm = .null ∨ ∃ q, fm = .ref q) (k : Int32) (ld : Int32) (H : oq (o_50 Z k ld) (fun x => Q none x)) : zw fm sx (d + 7) 50 0 [some (.ref 114), some (.int k), some (.int ld), none] [] Z Q := by
  unfold o_50 at H
  refine zw_run 1 (pc' := 1) (loc' := [some (.ref 114), some (.int k), some (.int ld), none]) (stk' := [.ref 114]) (fun _ _ _ => rfl) ?_
  refine zw_get (v := .ref 65) rfl rfl rfl ?_
  refine zw_get (v := .ref 70) rfl rfl rfl ?_
  refine zw_run 1 (pc' := 8) (loc' := [some (.ref 114), some (.int k), some (.int ld), none]) (stk' := [.int ld, .ref 70]) (fun _ _ _ => rfl) ?_
  refine zw_callf (As := [.ref 70, .int ld]) (rest := []) (c_row_at (id := 70) (by decide) ld (d := d + 6)) rfl rfl rfl rfl ?_
  show zw fm sx (d + 7) 50 11 [some (.ref 114), some (.int k), some (.int ld), none] [.int (zt Z 70 ld)] Z Q
  refine zw_run 2 (pc' := 13) (loc' := [some (.ref 114), some (.int k), some (.int ld), some (.int (zt Z 70 ld))]) (stk' := [.ref 114]) (fun _ _ _ => rfl) ?_
  refine zw_get (v := .ref 129) rfl rfl rfl ?_
  refine zw_run 2 (pc' := 18) (loc' := [some (.ref 114), some (.int k), some (.int ld), some (.int (zt Z 70 ld))]) (stk' := [.ref 114, .int k, .ref 129]) (fun _ _ _ => rfl) ?_
  refine zw_get (v := .ref 65) rfl rfl rfl ?_
  refine zw_get (v := .ref 72) rfl rfl rfl ?_
  refine zw_run 1 (pc' := 25) (loc' := [some (.ref 114), some (.int k), some (.int ld), some (.int (zt Z 70 ld))]) (stk' := [.int ld, .ref 72, .int k, .ref 129]) (fun _ _ _ => rfl) ?_
  refine zw_callf (As := [.ref 72, .int ld]) (rest := [.int k, .ref 129]) (c_row_at (id := 72) (by decide) ld (d := d + 6)) rfl rfl rfl rfl ?_
  show zw fm sx (d + 7) 50 28 [some (.ref 114), some (.int k), some (.int ld), some (.int (zt Z 70 ld))] [.int (zt Z 72 ld), .int k, .ref 129] Z Q
  refine zw_callf (As := [.ref 129, .int k, .int (zt Z 72 ld)]) (rest := []) (c_row_put (id := 129) (by decide) k (zt Z 72 ld) (d := d + 6)) rfl rfl rfl rfl ?_
  show zw fm sx (d + 7) 50 31 [some (.ref 114), some (.int k), some (.int ld), some (.int (zt Z 70 ld))] [] (zput Z 129 k (zt Z 72 ld)) Q
  refine zw_run 2 (pc' := 33) (loc' := [some (.ref 114), some (.int k), some (.int ld), some (.int (zt Z 70 ld))]) (stk' := [.int 1, .int (zt Z 70 ld)]) (fun _ _ _ => rfl) ?_
  refine zw_br (c := ¬ (zt Z 70 ld) = 1) (t1 := 72) (t2 := 36) (loc' := [some (.ref 114), some (.int k), some (.int ld), some (.int (zt Z 70 ld))]) (stk' := []) (fun _ _ _ => rfl) (fun c1 => ?_) (fun c1 => ?_)
  · rw [if_pos c1] at H
    refine zw_run 4 (pc' := 76) (loc' := [some (.ref 114), some (.int k), some (.int ld), some (.int (zt Z 70 ld))]) (stk' := [.int 3, .int (zt Z 70 ld), .int ld, .ref 114]) (fun _ _ _ => rfl) ?_
    have J4 : ∀ (v3 : Int32), v3 = (bI ((decide ((zt Z 70 ld) = 3)))) → zw fm sx (d + 7) 50 84 [some (.ref 114), some (.int k), some (.int ld), some (.int (zt Z 70 ld))] [.int v3, .int ld, .ref 114] (zput Z 129 k (zt Z 72 ld)) Q := by
      intro v3 ev3
      subst ev3
      obtain ⟨u5, hu5, H⟩ := oq_bind H
      refine zw_callf (As := [.ref 114, .int ld, .int (bI ((decide ((zt Z 70 ld) = 3))))]) (rest := []) (c_38 hu ld ((decide ((zt Z 70 ld) = 3))) hu5 (d := d + 2)) rfl rfl rfl rfl ?_
      show zw fm sx (d + 7) 50 87 [some (.ref 114), some (.int k), some (.int ld), some (.int (zt Z 70 ld))] [] u5 Q
      refine zw_run 1 (pc' := 88) (loc' := [some (.ref 114), some (.int k), some (.int ld), some (.int (zt Z 70 ld))]) (stk' := [.ref 114]) (fun _ _ _ => rfl) ?_
      refine zw_get (v := .ref 123) rfl rfl rfl ?_
      refine zw_run 2 (pc' := 93) (loc' := [some (.ref 114), some (.int k), some (.int ld), some (.int (zt Z 70 ld))]) (stk' := [.ref 114, .int k, .ref 123]) (fun _ _ _ => rfl) ?_
      refine zw_get (v := .ref 131) rfl rfl rfl ?_
      refine zw_callf (As := [.ref 131]) (rest := [.int k, .ref 123]) (c_row_size (id := 131) (by decide) (d := d + 6)) rfl rfl rfl rfl ?_
      show zw fm sx (d + 7) 50 99 [some (.ref 114), some (.int k), some (.int ld), some (.int (zt Z 70 ld))] [.int (zs u5 131), .int k, .ref 123] u5 Q
      refine zw_run 1 (pc' := 100) (loc' := [some (.ref 114), some (.int k), some (.int ld), some (.int (zt Z 70 ld))]) (stk' := [.ref 114, .int (zs u5 131), .int k, .ref 123]) (fun _ _ _ => rfl) ?_
      refine zw_get (v := .ref 121) rfl rfl rfl ?_
      refine zw_run 1 (pc' := 104) (loc' := [some (.ref 114), some (.int k), some (.int ld), some (.int (zt Z 70 ld))]) (stk' := [.int k, .ref 121, .int (zs u5 131), .int k, .ref 123]) (fun _ _ _ => rfl) ?_
      refine zw_callf (As := [.ref 121, .int k]) (rest := [.int (zs u5 131), .int k, .ref 123]) (c_row_at (id := 121) (by decide) k (d := d + 6)) rfl rfl rfl rfl ?_
      show zw fm sx (d + 7) 50 107 [some (.ref 114), some (.int k), some (.int ld), some (.int (zt Z 70 ld))] [.int (zt u5 121 k), .int (zs u5 131), .int k, .ref 123] u5 Q
      refine zw_run 1 (pc' := 108) (loc' := [some (.ref 114), some (.int k), some (.int ld), some (.int (zt Z 70 ld))]) (stk' := [.int ((zs u5 131) - (zt u5 121 k)), .int k, .ref 123]) (fun _ _ _ => rfl) ?_
      refine zw_callf (As := [.ref 123, .int k, .int ((zs u5 131) - (zt u5 121 k))]) (rest := []) (c_row_put (id := 123) (by decide) k ((zs u5 131) - (zt u5 121 k)) (d := d + 6)) rfl rfl rfl rfl ?_
      show zw fm sx (d + 7) 50 111 [some (.ref 114), some (.int k), some (.int ld), some (.int (zt Z 70 ld))] [] (zput u5 123 k ((zs u5 131) - (zt u5 121 k))) Q
      refine zw_run 1 (pc' := 112) (loc' := [some (.ref 114), some (.int k), some (.int ld), some (.int (zt Z 70 ld))]) (stk' := [.ref 114]) (fun _ _ _ => rfl) ?_
      refine zw_get (v := .ref 125) rfl rfl rfl ?_
      refine zw_run 2 (pc' := 117) (loc' := [some (.ref 114), some (.int k), some (.int ld), some (.int (zt Z 70 ld))]) (stk' := [.ref 114, .int k, .ref 125]) (fun _ _ _ => rfl) ?_
      refine zw_get (v := .ref 131) rfl rfl rfl ?_
      refine zw_callf (As := [.ref 131]) (rest := [.int k, .ref 125]) (c_row_size (id := 131) (by decide) (d := d + 6)) rfl rfl rfl rfl ?_
      show zw fm sx (d + 7) 50 123 [some (.ref 114), some (.int k), some (.int ld), some (.int (zt Z 70 ld))] [.int (zs (zput u5 123 k ((zs u5 131) - (zt u5 121 k))) 131), .int k, .ref 125] (zput u5 123 k ((zs u5 131) - (zt u5 121 k))) Q
      refine zw_callf (As := [.ref 125, .int k, .int (zs (zput u5 123 k ((zs u5 131) - (zt u5 121 k))) 131)]) (rest := []) (c_row_put (id := 125) (by decide) k (zs (zput u5 123 k ((zs u5 131) - (zt u5 121 k))) 131) (d := d + 6)) rfl rfl rfl rfl ?_
      show zw fm sx (d + 7) 50 126 [some (.ref 114), some (.int k), some (.int ld), some (.int (zt Z 70 ld))] [] (zput (zput u5 123 k ((zs u5 131) - (zt u5 121 k))) 125 k (zs (zput u5 123 k ((zs u5 131) - (zt u5 121 k))) 131)) Q
      obtain ⟨Z6, hZ6⟩ : ∃ w : zr_Z, w = zput (zput u5 123 k ((zs u5 131) - (zt u5 121 k))) 125 k (zs (zput u5 123 k ((zs u5 131) - (zt u5 121 k))) 131) := ⟨_, rfl⟩
      rw [← hZ6]
      have H := oq_let H Z6 hZ6
      refine zw_run 1 (pc' := 127) (loc' := [some (.ref 114), some (.int k), some (.int ld), some (.int (zt Z 70 ld))]) (stk' := [.ref 114]) (fun _ _ _ => rfl) ?_
      refine zw_get (v := .ref 64) rfl rfl rfl ?_
      refine zw_run 1 (pc' := 131) (loc' := [some (.ref 114), some (.int k), some (.int ld), some (.int (zt Z 70 ld))]) (stk' := [.ref 114, .ref 64]) (fun _ _ _ => rfl) ?_
      refine zw_get (v := .ref 65) rfl rfl rfl ?_
      refine zw_get (v := .ref 78) rfl rfl rfl ?_
      refine zw_run 1 (pc' := 138) (loc' := [some (.ref 114), some (.int k), some (.int ld), some (.int (zt Z 70 ld))]) (stk' := [.int ld, .ref 78, .ref 64]) (fun _ _ _ => rfl) ?_
      refine zw_callf (As := [.ref 78, .int ld]) (rest := [.ref 64]) (c_row_at (id := 78) (by decide) ld (d := d + 6)) rfl rfl rfl rfl ?_
      show zw fm sx (d + 7) 50 141 [some (.ref 114), some (.int k), some (.int ld), some (.int (zt Z 70 ld))] [.int (zt Z6 78 ld), .ref 64] Z6 Q
      refine zw_run 1 (pc' := 142) (loc' := [some (.ref 114), some (.int k), some (.int ld), some (.int (zt Z 70 ld))]) (stk' := [.ref 114, .int (zt Z6 78 ld), .ref 64]) (fun _ _ _ => rfl) ?_
      refine zw_get (v := .ref 65) rfl rfl rfl ?_
      refine zw_get (v := .ref 80) rfl rfl rfl ?_
      refine zw_run 1 (pc' := 149) (loc' := [some (.ref 114), some (.int k), some (.int ld), some (.int (zt Z 70 ld))]) (stk' := [.int ld, .ref 80, .int (zt Z6 78 ld), .ref 64]) (fun _ _ _ => rfl) ?_
      refine zw_callf (As := [.ref 80, .int ld]) (rest := [.int (zt Z6 78 ld), .ref 64]) (c_row_at (id := 80) (by decide) ld (d := d + 6)) rfl rfl rfl rfl ?_
      show zw fm sx (d + 7) 50 152 [some (.ref 114), some (.int k), some (.int ld), some (.int (zt Z 70 ld))] [.int (zt Z6 80 ld), .int (zt Z6 78 ld), .ref 64] Z6 Q
      refine zw_run 1 (pc' := 153) (loc' := [some (.ref 114), some (.int k), some (.int ld), some (.int (zt Z 70 ld))]) (stk' := [.ref 114, .int (zt Z6 80 ld), .int (zt Z6 78 ld), .ref 64]) (fun _ _ _ => rfl) ?_
      refine zw_get (v := .ref 131) rfl rfl rfl ?_
      obtain ⟨u7, hu7, H⟩ := oq_bind H
      refine zw_callf (As := [.ref 64, .int (zt Z6 78 ld), .int (zt Z6 80 ld), .ref 131]) (rest := []) (c_66 hu (zt Z6 78 ld) (zt Z6 80 ld) hu7 (d := d + 0)) rfl rfl rfl rfl ?_
      show zw fm sx (d + 7) 50 159 [some (.ref 114), some (.int k), some (.int ld), some (.int (zt Z 70 ld))] [] u7 Q
      refine zw_run 1 (pc' := 160) (loc' := [some (.ref 114), some (.int k), some (.int ld), some (.int (zt Z 70 ld))]) (stk' := [.ref 114]) (fun _ _ _ => rfl) ?_
      refine zw_get (v := .ref 127) rfl rfl rfl ?_
      refine zw_run 2 (pc' := 165) (loc' := [some (.ref 114), some (.int k), some (.int ld), some (.int (zt Z 70 ld))]) (stk' := [.ref 114, .int k, .ref 127]) (fun _ _ _ => rfl) ?_
      refine zw_get (v := .ref 131) rfl rfl rfl ?_
      refine zw_callf (As := [.ref 131]) (rest := [.int k, .ref 127]) (c_row_size (id := 131) (by decide) (d := d + 6)) rfl rfl rfl rfl ?_
      show zw fm sx (d + 7) 50 171 [some (.ref 114), some (.int k), some (.int ld), some (.int (zt Z 70 ld))] [.int (zs u7 131), .int k, .ref 127] u7 Q
      refine zw_run 1 (pc' := 172) (loc' := [some (.ref 114), some (.int k), some (.int ld), some (.int (zt Z 70 ld))]) (stk' := [.ref 114, .int (zs u7 131), .int k, .ref 127]) (fun _ _ _ => rfl) ?_
      refine zw_get (v := .ref 125) rfl rfl rfl ?_
      refine zw_run 1 (pc' := 176) (loc' := [some (.ref 114), some (.int k), some (.int ld), some (.int (zt Z 70 ld))]) (stk' := [.int k, .ref 125, .int (zs u7 131), .int k, .ref 127]) (fun _ _ _ => rfl) ?_
      refine zw_callf (As := [.ref 125, .int k]) (rest := [.int (zs u7 131), .int k, .ref 127]) (c_row_at (id := 125) (by decide) k (d := d + 6)) rfl rfl rfl rfl ?_
      show zw fm sx (d + 7) 50 179 [some (.ref 114), some (.int k), some (.int ld), some (.int (zt Z 70 ld))] [.int (zt u7 125 k), .int (zs u7 131), .int k, .ref 127] u7 Q
      refine zw_run 1 (pc' := 180) (loc' := [some (.ref 114), some (.int k), some (.int ld), some (.int (zt Z 70 ld))]) (stk' := [.int ((zs u7 131) - (zt u7 125 k)), .int k, .ref 127]) (fun _ _ _ => rfl) ?_
      refine zw_callf (As := [.ref 127, .int k, .int ((zs u7 131) - (zt u7 125 k))]) (rest := []) (c_row_put (id := 127) (by decide) k ((zs u7 131) - (zt u7 125 k)) (d := d + 6)) rfl rfl rfl rfl ?_
      show zw fm sx (d + 7) 50 183 [some (.ref 114), some (.int k), some (.int ld), some (.int (zt Z 70 ld))] [] (zput u7 127 k ((zs u7 131) - (zt u7 125 k))) Q
      refine zw_retv rfl rfl ?_
      have H := oq_some H
      exact H
    refine zw_br (c := ¬ (zt Z 70 ld) = 3) (t1 := 83) (t2 := 79) (loc' := [some (.ref 114), some (.int k), some (.int ld), some (.int (zt Z 70 ld))]) (stk' := [.int ld, .ref 114]) (fun _ _ _ => rfl) (fun c2 => ?_) (fun c2 => ?_)
    · skip
      refine zw_run 1 (pc' := 84) (loc' := [some (.ref 114), some (.int k), some (.int ld), some (.int (zt Z 70 ld))]) (stk' := [.int 0, .int ld, .ref 114]) (fun _ _ _ => rfl) ?_
      exact J4 _ (by clear H J4; first | (simp [bI, c2]; done) | (simp [bI, *]; done) | (simp_all [bI]; done) | (exfalso; simp_all; done))
    · skip
      refine zw_run 2 (pc' := 84) (loc' := [some (.ref 114), some (.int k), some (.int ld), some (.int (zt Z 70 ld))]) (stk' := [.int 1, .int ld, .ref 114]) (fun _ _ _ => rfl) ?_
      exact J4 _ (by clear H J4; first | (simp [bI, c2]; done) | (simp [bI, *]; done) | (simp_all [bI]; done) | (exfalso; simp_all; done))
  · rw [if_neg c1] at H
    refine zw_run 1 (pc' := 37) (loc' := [some (.ref 114), some (.int k), some (.int ld), some (.int (zt Z 70 ld))]) (stk' := [.ref 114]) (fun _ _ _ => rfl) ?_
    refine zw_get (v := .ref 64) rfl rfl rfl ?_
    refine zw_run 1 (pc' := 41) (loc' := [some (.ref 114), some (.int k), some (.int ld), some (.int (zt Z 70 ld))]) (stk' := [.ref 114, .ref 64]) (fun _ _ _ => rfl) ?_
    refine zw_get (v := .ref 65) rfl rfl rfl ?_
    refine zw_get (v := .ref 74) rfl rfl rfl ?_
    refine zw_run 1 (pc' := 48) (loc' := [some (.ref 114), some (.int k), some (.int ld), some (.int (zt Z 70 ld))]) (stk' := [.int ld, .ref 74, .ref 64]) (fun _ _ _ => rfl) ?_
    refine zw_callf (As := [.ref 74, .int ld]) (rest := [.ref 64]) (c_row_at (id := 74) (by decide) ld (d := d + 6)) rfl rfl rfl rfl ?_
    show zw fm sx (d + 7) 50 51 [some (.ref 114), some (.int k), some (.int ld), some (.int (zt Z 70 ld))] [.int (zt (zput Z 129 k (zt Z 72 ld)) 74 ld), .ref 64] (zput Z 129 k (zt Z 72 ld)) Q
    refine zw_run 1 (pc' := 52) (loc' := [some (.ref 114), some (.int k), some (.int ld), some (.int (zt Z 70 ld))]) (stk' := [.ref 114, .int (zt (zput Z 129 k (zt Z 72 ld)) 74 ld), .ref 64]) (fun _ _ _ => rfl) ?_
    refine zw_get (v := .ref 65) rfl rfl rfl ?_
    refine zw_get (v := .ref 76) rfl rfl rfl ?_
    refine zw_run 1 (pc' := 59) (loc' := [some (.ref 114), some (.int k), some (.int ld), some (.int (zt Z 70 ld))]) (stk' := [.int ld, .ref 76, .int (zt (zput Z 129 k (zt Z 72 ld)) 74 ld), .ref 64]) (fun _ _ _ => rfl) ?_
    refine zw_callf (As := [.ref 76, .int ld]) (rest := [.int (zt (zput Z 129 k (zt Z 72 ld)) 74 ld), .ref 64]) (c_row_at (id := 76) (by decide) ld (d := d + 6)) rfl rfl rfl rfl ?_
    show zw fm sx (d + 7) 50 62 [some (.ref 114), some (.int k), some (.int ld), some (.int (zt Z 70 ld))] [.int (zt (zput Z 129 k (zt Z 72 ld)) 76 ld), .int (zt (zput Z 129 k (zt Z 72 ld)) 74 ld), .ref 64] (zput Z 129 k (zt Z 72 ld)) Q
    refine zw_run 1 (pc' := 63) (loc' := [some (.ref 114), some (.int k), some (.int ld), some (.int (zt Z 70 ld))]) (stk' := [.ref 114, .int (zt (zput Z 129 k (zt Z 72 ld)) 76 ld), .int (zt (zput Z 129 k (zt Z 72 ld)) 74 ld), .ref 64]) (fun _ _ _ => rfl) ?_
    refine zw_get (v := .ref 131) rfl rfl rfl ?_
    obtain ⟨u8, hu8, H⟩ := oq_bind H
    refine zw_callf (As := [.ref 64, .int (zt (zput Z 129 k (zt Z 72 ld)) 74 ld), .int (zt (zput Z 129 k (zt Z 72 ld)) 76 ld), .ref 131]) (rest := []) (c_66 hu (zt (zput Z 129 k (zt Z 72 ld)) 74 ld) (zt (zput Z 129 k (zt Z 72 ld)) 76 ld) hu8 (d := d + 0)) rfl rfl rfl rfl ?_
    show zw fm sx (d + 7) 50 69 [some (.ref 114), some (.int k), some (.int ld), some (.int (zt Z 70 ld))] [] u8 Q
    refine zw_run 2 (pc' := 88) (loc' := [some (.ref 114), some (.int k), some (.int ld), some (.int (zt Z 70 ld))]) (stk' := [.ref 114]) (fun _ _ _ => rfl) ?_
    refine zw_get (v := .ref 123) rfl rfl rfl ?_
    refine zw_run 2 (pc' := 93) (loc' := [some (.ref 114), some (.int k), some (.int ld), some (.int (zt Z 70 ld))]) (stk' := [.ref 114, .int k, .ref 123]) (fun _ _ _ => rfl) ?_
    refine zw_get (v := .ref 131) rfl rfl rfl ?_
    refine zw_callf (As := [.ref 131]) (rest := [.int k, .ref 123]) (c_row_size (id := 131) (by decide) (d := d + 6)) rfl rfl rfl rfl ?_
    show zw fm sx (d + 7) 50 99 [some (.ref 114), some (.int k), some (.int ld), some (.int (zt Z 70 ld))] [.int (zs u8 131), .int k, .ref 123] u8 Q
    refine zw_run 1 (pc' := 100) (loc' := [some (.ref 114), some (.int k), some (.int ld), some (.int (zt Z 70 ld))]) (stk' := [.ref 114, .int (zs u8 131), .int k, .ref 123]) (fun _ _ _ => rfl) ?_
    refine zw_get (v := .ref 121) rfl rfl rfl ?_
    refine zw_run 1 (pc' := 104) (loc' := [some (.ref 114), some (.int k), some (.int ld), some (.int (zt Z 70 ld))]) (stk' := [.int k, .ref 121, .int (zs u8 131), .int k, .ref 123]) (fun _ _ _ => rfl) ?_
    refine zw_callf (As := [.ref 121, .int k]) (rest := [.int (zs u8 131), .int k, .ref 123]) (c_row_at (id := 121) (by decide) k (d := d + 6)) rfl rfl rfl rfl ?_
    show zw fm sx (d + 7) 50 107 [some (.ref 114), some (.int k), some (.int ld), some (.int (zt Z 70 ld))] [.int (zt u8 121 k), .int (zs u8 131), .int k, .ref 123] u8 Q
    refine zw_run 1 (pc' := 108) (loc' := [some (.ref 114), some (.int k), some (.int ld), some (.int (zt Z 70 ld))]) (stk' := [.int ((zs u8 131) - (zt u8 121 k)), .int k, .ref 123]) (fun _ _ _ => rfl) ?_
    refine zw_callf (As := [.ref 123, .int k, .int ((zs u8 131) - (zt u8 121 k))]) (rest := []) (c_row_put (id := 123) (by decide) k ((zs u8 131) - (zt u8 121 k)) (d := d + 6)) rfl rfl rfl rfl ?_
    show zw fm sx (d + 7) 50 111 [some (.ref 114), some (.int k), some (.int ld), some (.int (zt Z 70 ld))] [] (zput u8 123 k ((zs u8 131) - (zt u8 121 k))) Q
    refine zw_run 1 (pc' := 112) (loc' := [some (.ref 114), some (.int k), some (.int ld), some (.int (zt Z 70 ld))]) (stk' := [.ref 114]) (fun _ _ _ => rfl) ?_
    refine zw_get (v := .ref 125) rfl rfl rfl ?_
    refine zw_run 2 (pc' := 117) (loc' := [some (.ref 114), some (.int k), some (.int ld), some (.int (zt Z 70 ld))]) (stk' := [.ref 114, .int k, .ref 125]) (fun _ _ _ => rfl) ?_
    refine zw_get (v := .ref 131) rfl rfl rfl ?_
    refine zw_callf (As := [.ref 131]) (rest := [.int k, .ref 125]) (c_row_size (id := 131) (by decide) (d := d + 6)) rfl rfl rfl rfl ?_
    show zw fm sx (d + 7) 50 123 [some (.ref 114), some (.int k), some (.int ld), some (.int (zt Z 70 ld))] [.int (zs (zput u8 123 k ((zs u8 131) - (zt u8 121 k))) 131), .int k, .ref 125] (zput u8 123 k ((zs u8 131) - (zt u8 121 k))) Q
    refine zw_callf (As := [.ref 125, .int k, .int (zs (zput u8 123 k ((zs u8 131) - (zt u8 121 k))) 131)]) (rest := []) (c_row_put (id := 125) (by decide) k (zs (zput u8 123 k ((zs u8 131) - (zt u8 121 k))) 131) (d := d + 6)) rfl rfl rfl rfl ?_
    show zw fm sx (d + 7) 50 126 [some (.ref 114), some (.int k), some (.int ld), some (.int (zt Z 70 ld))] [] (zput (zput u8 123 k ((zs u8 131) - (zt u8 121 k))) 125 k (zs (zput u8 123 k ((zs u8 131) - (zt u8 121 k))) 131)) Q
    obtain ⟨Z9, hZ9⟩ : ∃ w : zr_Z, w = zput (zput u8 123 k ((zs u8 131) - (zt u8 121 k))) 125 k (zs (zput u8 123 k ((zs u8 131) - (zt u8 121 k))) 131) := ⟨_, rfl⟩
    rw [← hZ9]
    have H := oq_let H Z9 hZ9
    refine zw_run 1 (pc' := 127) (loc' := [some (.ref 114), some (.int k), some (.int ld), some (.int (zt Z 70 ld))]) (stk' := [.ref 114]) (fun _ _ _ => rfl) ?_
    refine zw_get (v := .ref 64) rfl rfl rfl ?_
    refine zw_run 1 (pc' := 131) (loc' := [some (.ref 114), some (.int k), some (.int ld), some (.int (zt Z 70 ld))]) (stk' := [.ref 114, .ref 64]) (fun _ _ _ => rfl) ?_
    refine zw_get (v := .ref 65) rfl rfl rfl ?_
    refine zw_get (v := .ref 78) rfl rfl rfl ?_
    refine zw_run 1 (pc' := 138) (loc' := [some (.ref 114), some (.int k), some (.int ld), some (.int (zt Z 70 ld))]) (stk' := [.int ld, .ref 78, .ref 64]) (fun _ _ _ => rfl) ?_
    refine zw_callf (As := [.ref 78, .int ld]) (rest := [.ref 64]) (c_row_at (id := 78) (by decide) ld (d := d + 6)) rfl rfl rfl rfl ?_
    show zw fm sx (d + 7) 50 141 [some (.ref 114), some (.int k), some (.int ld), some (.int (zt Z 70 ld))] [.int (zt Z9 78 ld), .ref 64] Z9 Q
    refine zw_run 1 (pc' := 142) (loc' := [some (.ref 114), some (.int k), some (.int ld), some (.int (zt Z 70 ld))]) (stk' := [.ref 114, .int (zt Z9 78 ld), .ref 64]) (fun _ _ _ => rfl) ?_
    refine zw_get (v := .ref 65) rfl rfl rfl ?_
    refine zw_get (v := .ref 80) rfl rfl rfl ?_
    refine zw_run 1 (pc' := 149) (loc' := [some (.ref 114), some (.int k), some (.int ld), some (.int (zt Z 70 ld))]) (stk' := [.int ld, .ref 80, .int (zt Z9 78 ld), .ref 64]) (fun _ _ _ => rfl) ?_
    refine zw_callf (As := [.ref 80, .int ld]) (rest := [.int (zt Z9 78 ld), .ref 64]) (c_row_at (id := 80) (by decide) ld (d := d + 6)) rfl rfl rfl rfl ?_
    show zw fm sx (d + 7) 50 152 [some (.ref 114), some (.int k), some (.int ld), some (.int (zt Z 70 ld))] [.int (zt Z9 80 ld), .int (zt Z9 78 ld), .ref 64] Z9 Q
    refine zw_run 1 (pc' := 153) (loc' := [some (.ref 114), some (.int k), some (.int ld), some (.int (zt Z 70 ld))]) (stk' := [.ref 114, .int (zt Z9 80 ld), .int (zt Z9 78 ld), .ref 64]) (fun _ _ _ => rfl) ?_
    refine zw_get (v := .ref 131) rfl rfl rfl ?_
    obtain ⟨u10, hu10, H⟩ := oq_bind H
    refine zw_callf (As := [.ref 64, .int (zt Z9 78 ld), .int (zt Z9 80 ld), .ref 131]) (rest := []) (c_66 hu (zt Z9 78 ld) (zt Z9 80 ld) hu10 (d := d + 0)) rfl rfl rfl rfl ?_
    show zw fm sx (d + 7) 50 159 [some (.ref 114), some (.int k), some (.int ld), some (.int (zt Z 70 ld))] [] u10 Q
    refine zw_run 1 (pc' := 160) (loc' := [some (.ref 114), some (.int k), some (.int ld), some (.int (zt Z 70 ld))]) (stk' := [.ref 114]) (fun _ _ _ => rfl) ?_
    refine zw_get (v := .ref 127) rfl rfl rfl ?_
    refine zw_run 2 (pc' := 165) (loc' := [some (.ref 114), some (.int k), some (.int ld), some (.int (zt Z 70 ld))]) (stk' := [.ref 114, .int k, .ref 127]) (fun _ _ _ => rfl) ?_
    refine zw_get (v := .ref 131) rfl rfl rfl ?_
    refine zw_callf (As := [.ref 131]) (rest := [.int k, .ref 127]) (c_row_size (id := 131) (by decide) (d := d + 6)) rfl rfl rfl rfl ?_
    show zw fm sx (d + 7) 50 171 [some (.ref 114), some (.int k), some (.int ld), some (.int (zt Z 70 ld))] [.int (zs u10 131), .int k, .ref 127] u10 Q
    refine zw_run 1 (pc' := 172) (loc' := [some (.ref 114), some (.int k), some (.int ld), some (.int (zt Z 70 ld))]) (stk' := [.ref 114, .int (zs u10 131), .int k, .ref 127]) (fun _ _ _ => rfl) ?_
    refine zw_get (v := .ref 125) rfl rfl rfl ?_
    refine zw_run 1 (pc' := 176) (loc' := [some (.ref 114), some (.int k), some (.int ld), some (.int (zt Z 70 ld))]) (stk' := [.int k, .ref 125, .int (zs u10 131), .int k, .ref 127]) (fun _ _ _ => rfl) ?_
    refine zw_callf (As := [.ref 125, .int k]) (rest := [.int (zs u10 131), .int k, .ref 127]) (c_row_at (id := 125) (by decide) k (d := d + 6)) rfl rfl rfl rfl ?_
    show zw fm sx (d + 7) 50 179 [some (.ref 114), some (.int k), some (.int ld), some (.int (zt Z 70 ld))] [.int (zt u10 125 k), .int (zs u10 131), .int k, .ref 127] u10 Q
    refine zw_run 1 (pc' := 180) (loc' := [some (.ref 114), some (.int k), some (.int ld), some (.int (zt Z 70 ld))]) (stk' := [.int ((zs u10 131) - (zt u10 125 k)), .int k, .ref 127]) (fun _ _ _ => rfl) ?_
    refine zw_callf (As := [.ref 127, .int k, .int ((zs u10 131) - (zt u10 125 k))]) (rest := []) (c_row_put (id := 127) (by decide) k ((zs u10 131) - (zt u10 125 k)) (d := d + 6)) rfl rfl rfl rfl ?_
    show zw fm sx (d + 7) 50 183 [some (.ref 114), some (.int k), some (.int ld), some (.int (zt Z 70 ld))] [] (zput u10 127 k ((zs u10 131) - (zt u10 125 k))) Q
    refine zw_retv rfl rfl ?_
    have H := oq_some H
    exact H
theorem c_50 {fm : Value} {sx : Nat × (Nat → Int32)} {d : Nat} {Z : zr_Z} (hu : fm = .null ∨ ∃ q, fm = .ref q) (k : Int32) (ld : Int32) {x : zr_Z} (hx : o_50 Z k ld = some x) : zl fm sx (d + 8) 50 [.ref 114, .int k, .int ld] Z (fun r Z' => r = none ∧ Z' = x) :=
  zl_of (nL := 4) (loc0 := [some (.ref 114), some (.int k), some (.int ld), none]) rfl rfl rfl (t_50 hu k ld ⟨x, hx, rfl, rfl⟩)
/-- MarkInlines$Nodes.begin -/
def o_48 (Z : zr_Z) (kd : Int32) (ho : Int32) (va : Int32) : Option (Int32 × zr_Z) := (olet (zadd (zadd (zadd (zadd Z 119 (f_47 Z ho)) 115 kd) 117 ho) 121 (zs (zadd (zadd (zadd Z 119 (f_47 Z ho)) 115 kd) 117 ho) 131) : zr_Z) fun Z1 => (olet (zadd (zadd (zadd Z1 123 0) 125 (zs (zadd Z1 123 0) 131)) 127 0 : zr_Z) fun Z2 => (if ¬ kd = 0 then (if kd = 6 then (Option.bind (o_50 (zadd Z2 129 (-1)) (zs Z 115) va) fun u5 => some (zs Z 115, u5)) else (if ¬ kd = 7 then some (zs Z 115, zadd Z2 129 (-1)) else (Option.bind (o_50 (zadd Z2 129 (-1)) (zs Z 115) va) fun u7 => some (zs Z 115, u7)))) else some (zs Z 115, f_49 (zadd Z2 129 (-1)) (zs Z 115) va))))
set_option maxRecDepth 100000 in
set_option maxHeartbeats 4000000 in
theorem t_48 {fm : Value} {sx : Nat × (Nat → Int32)} {d : Nat} {Z : zr_Z} {Q : Option Value → zr_Z → Prop} (hu : fm = .null ∨ ∃ q, fm = .ref q) (kd : Int32) (ho : Int32) (va : Int32) (H : oq (o_48 Z kd ho va) (fun x => Q (some (.int x.1)) x.2)) : zw fm sx (d + 8) 48 0 [some (.ref 114), some (.int kd), some (.int ho), some (.int va), none] [] Z Q := by
  unfold o_48 at H
  refine zw_run 1 (pc' := 1) (loc' := [some (.ref 114), some (.int kd), some (.int ho), some (.int va), none]) (stk' := [.ref 114]) (fun _ _ _ => rfl) ?_
  refine zw_get (v := .ref 115) rfl rfl rfl ?_
  refine zw_callf (As := [.ref 115]) (rest := []) (c_row_size (id := 115) (by decide) (d := d + 7)) rfl rfl rfl rfl ?_
  show zw fm sx (d + 8) 48 7 [some (.ref 114), some (.int kd), some (.int ho), some (.int va), none] [.int (zs Z 115)] Z Q
  refine zw_run 2 (pc' := 10) (loc' := [some (.ref 114), some (.int kd), some (.int ho), some (.int va), some (.int (zs Z 115))]) (stk' := [.ref 114]) (fun _ _ _ => rfl) ?_
  refine zw_get (v := .ref 119) rfl rfl rfl ?_
  refine zw_run 2 (pc' := 15) (loc' := [some (.ref 114), some (.int kd), some (.int ho), some (.int va), some (.int (zs Z 115))]) (stk' := [.int ho, .ref 114, .ref 119]) (fun _ _ _ => rfl) ?_
  refine zw_callf (As := [.ref 114, .int ho]) (rest := [.ref 119]) (c_47 ho (d := d + 6)) rfl rfl rfl rfl ?_
  show zw fm sx (d + 8) 48 18 [some (.ref 114), some (.int kd), some (.int ho), some (.int va), some (.int (zs Z 115))] [.int (f_47 Z ho), .ref 119] Z Q
  refine zw_callf (As := [.ref 119, .int (f_47 Z ho)]) (rest := []) (c_row_add (id := 119) (by decide) (f_47 Z ho) (d := d + 6)) rfl rfl rfl rfl ?_
  show zw fm sx (d + 8) 48 21 [some (.ref 114), some (.int kd), some (.int ho), some (.int va), some (.int (zs Z 115))] [] (zadd Z 119 (f_47 Z ho)) Q
  refine zw_run 1 (pc' := 22) (loc' := [some (.ref 114), some (.int kd), some (.int ho), some (.int va), some (.int (zs Z 115))]) (stk' := [.ref 114]) (fun _ _ _ => rfl) ?_
  refine zw_get (v := .ref 115) rfl rfl rfl ?_
  refine zw_run 1 (pc' := 26) (loc' := [some (.ref 114), some (.int kd), some (.int ho), some (.int va), some (.int (zs Z 115))]) (stk' := [.int kd, .ref 115]) (fun _ _ _ => rfl) ?_
  refine zw_callf (As := [.ref 115, .int kd]) (rest := []) (c_row_add (id := 115) (by decide) kd (d := d + 6)) rfl rfl rfl rfl ?_
  show zw fm sx (d + 8) 48 29 [some (.ref 114), some (.int kd), some (.int ho), some (.int va), some (.int (zs Z 115))] [] (zadd (zadd Z 119 (f_47 Z ho)) 115 kd) Q
  refine zw_run 1 (pc' := 30) (loc' := [some (.ref 114), some (.int kd), some (.int ho), some (.int va), some (.int (zs Z 115))]) (stk' := [.ref 114]) (fun _ _ _ => rfl) ?_
  refine zw_get (v := .ref 117) rfl rfl rfl ?_
  refine zw_run 1 (pc' := 34) (loc' := [some (.ref 114), some (.int kd), some (.int ho), some (.int va), some (.int (zs Z 115))]) (stk' := [.int ho, .ref 117]) (fun _ _ _ => rfl) ?_
  refine zw_callf (As := [.ref 117, .int ho]) (rest := []) (c_row_add (id := 117) (by decide) ho (d := d + 6)) rfl rfl rfl rfl ?_
  show zw fm sx (d + 8) 48 37 [some (.ref 114), some (.int kd), some (.int ho), some (.int va), some (.int (zs Z 115))] [] (zadd (zadd (zadd Z 119 (f_47 Z ho)) 115 kd) 117 ho) Q
  refine zw_run 1 (pc' := 38) (loc' := [some (.ref 114), some (.int kd), some (.int ho), some (.int va), some (.int (zs Z 115))]) (stk' := [.ref 114]) (fun _ _ _ => rfl) ?_
  refine zw_get (v := .ref 121) rfl rfl rfl ?_
  refine zw_run 1 (pc' := 42) (loc' := [some (.ref 114), some (.int kd), some (.int ho), some (.int va), some (.int (zs Z 115))]) (stk' := [.ref 114, .ref 121]) (fun _ _ _ => rfl) ?_
  refine zw_get (v := .ref 131) rfl rfl rfl ?_
  refine zw_callf (As := [.ref 131]) (rest := [.ref 121]) (c_row_size (id := 131) (by decide) (d := d + 7)) rfl rfl rfl rfl ?_
  show zw fm sx (d + 8) 48 48 [some (.ref 114), some (.int kd), some (.int ho), some (.int va), some (.int (zs Z 115))] [.int (zs (zadd (zadd (zadd Z 119 (f_47 Z ho)) 115 kd) 117 ho) 131), .ref 121] (zadd (zadd (zadd Z 119 (f_47 Z ho)) 115 kd) 117 ho) Q
  refine zw_callf (As := [.ref 121, .int (zs (zadd (zadd (zadd Z 119 (f_47 Z ho)) 115 kd) 117 ho) 131)]) (rest := []) (c_row_add (id := 121) (by decide) (zs (zadd (zadd (zadd Z 119 (f_47 Z ho)) 115 kd) 117 ho) 131) (d := d + 6)) rfl rfl rfl rfl ?_
  show zw fm sx (d + 8) 48 51 [some (.ref 114), some (.int kd), some (.int ho), some (.int va), some (.int (zs Z 115))] [] (zadd (zadd (zadd (zadd Z 119 (f_47 Z ho)) 115 kd) 117 ho) 121 (zs (zadd (zadd (zadd Z 119 (f_47 Z ho)) 115 kd) 117 ho) 131)) Q
  obtain ⟨Z1, hZ1⟩ : ∃ w : zr_Z, w = zadd (zadd (zadd (zadd Z 119 (f_47 Z ho)) 115 kd) 117 ho) 121 (zs (zadd (zadd (zadd Z 119 (f_47 Z ho)) 115 kd) 117 ho) 131) := ⟨_, rfl⟩
  rw [← hZ1]
  have H := oq_let H Z1 hZ1
  refine zw_run 1 (pc' := 52) (loc' := [some (.ref 114), some (.int kd), some (.int ho), some (.int va), some (.int (zs Z 115))]) (stk' := [.ref 114]) (fun _ _ _ => rfl) ?_
  refine zw_get (v := .ref 123) rfl rfl rfl ?_
  refine zw_run 1 (pc' := 56) (loc' := [some (.ref 114), some (.int kd), some (.int ho), some (.int va), some (.int (zs Z 115))]) (stk' := [.int 0, .ref 123]) (fun _ _ _ => rfl) ?_
  refine zw_callf (As := [.ref 123, .int 0]) (rest := []) (c_row_add (id := 123) (by decide) 0 (d := d + 6)) rfl rfl rfl rfl ?_
  show zw fm sx (d + 8) 48 59 [some (.ref 114), some (.int kd), some (.int ho), some (.int va), some (.int (zs Z 115))] [] (zadd Z1 123 0) Q
  refine zw_run 1 (pc' := 60) (loc' := [some (.ref 114), some (.int kd), some (.int ho), some (.int va), some (.int (zs Z 115))]) (stk' := [.ref 114]) (fun _ _ _ => rfl) ?_
  refine zw_get (v := .ref 125) rfl rfl rfl ?_
  refine zw_run 1 (pc' := 64) (loc' := [some (.ref 114), some (.int kd), some (.int ho), some (.int va), some (.int (zs Z 115))]) (stk' := [.ref 114, .ref 125]) (fun _ _ _ => rfl) ?_
  refine zw_get (v := .ref 131) rfl rfl rfl ?_
  refine zw_callf (As := [.ref 131]) (rest := [.ref 125]) (c_row_size (id := 131) (by decide) (d := d + 7)) rfl rfl rfl rfl ?_
  show zw fm sx (d + 8) 48 70 [some (.ref 114), some (.int kd), some (.int ho), some (.int va), some (.int (zs Z 115))] [.int (zs (zadd Z1 123 0) 131), .ref 125] (zadd Z1 123 0) Q
  refine zw_callf (As := [.ref 125, .int (zs (zadd Z1 123 0) 131)]) (rest := []) (c_row_add (id := 125) (by decide) (zs (zadd Z1 123 0) 131) (d := d + 6)) rfl rfl rfl rfl ?_
  show zw fm sx (d + 8) 48 73 [some (.ref 114), some (.int kd), some (.int ho), some (.int va), some (.int (zs Z 115))] [] (zadd (zadd Z1 123 0) 125 (zs (zadd Z1 123 0) 131)) Q
  refine zw_run 1 (pc' := 74) (loc' := [some (.ref 114), some (.int kd), some (.int ho), some (.int va), some (.int (zs Z 115))]) (stk' := [.ref 114]) (fun _ _ _ => rfl) ?_
  refine zw_get (v := .ref 127) rfl rfl rfl ?_
  refine zw_run 1 (pc' := 78) (loc' := [some (.ref 114), some (.int kd), some (.int ho), some (.int va), some (.int (zs Z 115))]) (stk' := [.int 0, .ref 127]) (fun _ _ _ => rfl) ?_
  refine zw_callf (As := [.ref 127, .int 0]) (rest := []) (c_row_add (id := 127) (by decide) 0 (d := d + 6)) rfl rfl rfl rfl ?_
  show zw fm sx (d + 8) 48 81 [some (.ref 114), some (.int kd), some (.int ho), some (.int va), some (.int (zs Z 115))] [] (zadd (zadd (zadd Z1 123 0) 125 (zs (zadd Z1 123 0) 131)) 127 0) Q
  obtain ⟨Z2, hZ2⟩ : ∃ w : zr_Z, w = zadd (zadd (zadd Z1 123 0) 125 (zs (zadd Z1 123 0) 131)) 127 0 := ⟨_, rfl⟩
  rw [← hZ2]
  have H := oq_let H Z2 hZ2
  refine zw_run 1 (pc' := 82) (loc' := [some (.ref 114), some (.int kd), some (.int ho), some (.int va), some (.int (zs Z 115))]) (stk' := [.ref 114]) (fun _ _ _ => rfl) ?_
  refine zw_get (v := .ref 129) rfl rfl rfl ?_
  refine zw_run 1 (pc' := 86) (loc' := [some (.ref 114), some (.int kd), some (.int ho), some (.int va), some (.int (zs Z 115))]) (stk' := [.int (-1), .ref 129]) (fun _ _ _ => rfl) ?_
  refine zw_callf (As := [.ref 129, .int (-1)]) (rest := []) (c_row_add (id := 129) (by decide) (-1) (d := d + 6)) rfl rfl rfl rfl ?_
  show zw fm sx (d + 8) 48 89 [some (.ref 114), some (.int kd), some (.int ho), some (.int va), some (.int (zs Z 115))] [] (zadd Z2 129 (-1)) Q
  refine zw_run 1 (pc' := 90) (loc' := [some (.ref 114), some (.int kd), some (.int ho), some (.int va), some (.int (zs Z 115))]) (stk' := [.int kd]) (fun _ _ _ => rfl) ?_
  refine zw_br (c := ¬ kd = 0) (t1 := 103) (t2 := 93) (loc' := [some (.ref 114), some (.int kd), some (.int ho), some (.int va), some (.int (zs Z 115))]) (stk' := []) (fun _ _ _ => rfl) (fun c3 => ?_) (fun c3 => ?_)
  · rw [if_pos c3] at H
    refine zw_run 2 (pc' := 106) (loc' := [some (.ref 114), some (.int kd), some (.int ho), some (.int va), some (.int (zs Z 115))]) (stk' := [.int 6, .int kd]) (fun _ _ _ => rfl) ?_
    refine zw_br (c := kd = 6) (t1 := 115) (t2 := 109) (loc' := [some (.ref 114), some (.int kd), some (.int ho), some (.int va), some (.int (zs Z 115))]) (stk' := []) (fun _ _ _ => rfl) (fun c4 => ?_) (fun c4 => ?_)
    · rw [if_pos c4] at H
      refine zw_run 3 (pc' := 119) (loc' := [some (.ref 114), some (.int kd), some (.int ho), some (.int va), some (.int (zs Z 115))]) (stk' := [.int va, .int (zs Z 115), .ref 114]) (fun _ _ _ => rfl) ?_
      obtain ⟨u5, hu5, H⟩ := oq_bind H
      refine zw_callf (As := [.ref 114, .int (zs Z 115), .int va]) (rest := []) (c_50 hu (zs Z 115) va hu5 (d := d + 0)) rfl rfl rfl rfl ?_
      show zw fm sx (d + 8) 48 122 [some (.ref 114), some (.int kd), some (.int ho), some (.int va), some (.int (zs Z 115))] [] u5 Q
      refine zw_run 1 (pc' := 124) (loc' := [some (.ref 114), some (.int kd), some (.int ho), some (.int va), some (.int (zs Z 115))]) (stk' := [.int (zs Z 115)]) (fun _ _ _ => rfl) ?_
      refine zw_reti (i := .nop) rfl rfl ?_
      have H := oq_some H
      exact H
    · rw [if_neg c4] at H
      refine zw_run 2 (pc' := 112) (loc' := [some (.ref 114), some (.int kd), some (.int ho), some (.int va), some (.int (zs Z 115))]) (stk' := [.int 7, .int kd]) (fun _ _ _ => rfl) ?_
      refine zw_br (c := ¬ kd = 7) (t1 := 122) (t2 := 115) (loc' := [some (.ref 114), some (.int kd), some (.int ho), some (.int va), some (.int (zs Z 115))]) (stk' := []) (fun _ _ _ => rfl) (fun c6 => ?_) (fun c6 => ?_)
      · rw [if_pos c6] at H
        refine zw_run 1 (pc' := 124) (loc' := [some (.ref 114), some (.int kd), some (.int ho), some (.int va), some (.int (zs Z 115))]) (stk' := [.int (zs Z 115)]) (fun _ _ _ => rfl) ?_
        refine zw_reti (i := .nop) rfl rfl ?_
        have H := oq_some H
        exact H
      · rw [if_neg c6] at H
        refine zw_run 3 (pc' := 119) (loc' := [some (.ref 114), some (.int kd), some (.int ho), some (.int va), some (.int (zs Z 115))]) (stk' := [.int va, .int (zs Z 115), .ref 114]) (fun _ _ _ => rfl) ?_
        obtain ⟨u7, hu7, H⟩ := oq_bind H
        refine zw_callf (As := [.ref 114, .int (zs Z 115), .int va]) (rest := []) (c_50 hu (zs Z 115) va hu7 (d := d + 0)) rfl rfl rfl rfl ?_
        show zw fm sx (d + 8) 48 122 [some (.ref 114), some (.int kd), some (.int ho), some (.int va), some (.int (zs Z 115))] [] u7 Q
        refine zw_run 1 (pc' := 124) (loc' := [some (.ref 114), some (.int kd), some (.int ho), some (.int va), some (.int (zs Z 115))]) (stk' := [.int (zs Z 115)]) (fun _ _ _ => rfl) ?_
        refine zw_reti (i := .nop) rfl rfl ?_
        have H := oq_some H
        exact H
  · rw [if_neg c3] at H
    refine zw_run 3 (pc' := 97) (loc' := [some (.ref 114), some (.int kd), some (.int ho), some (.int va), some (.int (zs Z 115))]) (stk' := [.int va, .int (zs Z 115), .ref 114]) (fun _ _ _ => rfl) ?_
    refine zw_callf (As := [.ref 114, .int (zs Z 115), .int va]) (rest := []) (c_49 (zs Z 115) va (d := d + 5)) rfl rfl rfl rfl ?_
    show zw fm sx (d + 8) 48 100 [some (.ref 114), some (.int kd), some (.int ho), some (.int va), some (.int (zs Z 115))] [] (f_49 (zadd Z2 129 (-1)) (zs Z 115) va) Q
    refine zw_run 2 (pc' := 124) (loc' := [some (.ref 114), some (.int kd), some (.int ho), some (.int va), some (.int (zs Z 115))]) (stk' := [.int (zs Z 115)]) (fun _ _ _ => rfl) ?_
    refine zw_reti (i := .nop) rfl rfl ?_
    have H := oq_some H
    exact H
theorem c_48 {fm : Value} {sx : Nat × (Nat → Int32)} {d : Nat} {Z : zr_Z} (hu : fm = .null ∨ ∃ q, fm = .ref q) (kd : Int32) (ho : Int32) (va : Int32) {x : Int32 × zr_Z} (hx : o_48 Z kd ho va = some x) : zl fm sx (d + 9) 48 [.ref 114, .int kd, .int ho, .int va] Z (fun r Z' => r = some (.int x.1) ∧ Z' = x.2) :=
  zl_of (nL := 5) (loc0 := [some (.ref 114), some (.int kd), some (.int ho), some (.int va), none]) rfl rfl rfl (t_48 hu kd ho va ⟨x, hx, rfl, rfl⟩)
/-- MarkInlines$Nodes.build, its loop at 15 -/
def g_46_15 : Nat → zr_Z → Int32 → Int32 → Int32 → Option (Bool × zr_Z)
  | 0, _, _, _, _ => none
  | n + 1, Z, x1, x2, x3 => (if (zs Z 66) ≤ x3 then some (true, Z) else (if ¬ (zt Z 66 x3) = 9 then (if ¬ (zt Z 66 x3) = 10 then (if ¬ (zt Z 66 x3) = 0 then (if (zt Z 66 x3) = 8 then g_46_15 n Z x1 x2 (x3 + 1) else (if (f_47 Z x1) ≤ 20 then (Option.bind (o_48 Z (zt Z 66 x3) x1 (zt Z 68 x3)) fun u7 => (olet ((if (zt Z 66 x3) = 0 then u7.1 else (if ¬ (zt Z 66 x3) = 3 then (-1) else u7.1 : Int32) : Int32) : Int32) fun x12 => (olet ((if (zt Z 66 x3) < 4 then x1 else u7.1 : Int32) : Int32) fun x16 => g_46_15 n u7.2 x16 x12 (x3 + 1)))) else some (false, Z))) else (if x2 = (-1) then (if (zt Z 66 x3) = 8 then g_46_15 n Z x1 x2 (x3 + 1) else (if (f_47 Z x1) ≤ 20 then (Option.bind (o_48 Z (zt Z 66 x3) x1 (zt Z 68 x3)) fun u20 => (olet ((if (zt Z 66 x3) = 0 then u20.1 else (if ¬ (zt Z 66 x3) = 3 then (-1) else u20.1 : Int32) : Int32) : Int32) fun x25 => (olet ((if (zt Z 66 x3) < 4 then x1 else u20.1 : Int32) : Int32) fun x29 => g_46_15 n u20.2 x29 x25 (x3 + 1)))) else some (false, Z))) else g_46_15 n (f_49 Z x2 (zt Z 68 x3)) x1 x2 (x3 + 1))) else g_46_15 n Z x1 (-1) (x3 + 1)) else g_46_15 n Z (zt Z 117 x1) (-1) (x3 + 1)))
set_option maxRecDepth 100000 in
set_option maxHeartbeats 4000000 in
theorem l_46_15 {fm : Value} {sx : Nat × (Nat → Int32)} {d : Nat} {Q : Option Value → zr_Z → Prop} (hu : fm = .null ∨ ∃ q, fm = .ref q)  : ∀ (n : Nat) (Z : zr_Z) (x1 : Int32) (x2 : Int32) (x3 : Int32), oq (g_46_15 n Z x1 x2 x3) (fun x => Q (some (.int (bI x.1))) x.2) → zw fm sx (d + 9) 46 15 [some (.ref 114), some (.int x1), some (.int x2), some (.int x3), none, none] [] Z Q := by
  intro n
  induction n with
  | zero => intro Z x1 x2 x3 H; exact absurd H oq_none
  | succ n ih =>
    intro Z x1 x2 x3 H
    unfold g_46_15 at H
    refine zw_run 2 (pc' := 17) (loc' := [some (.ref 114), some (.int x1), some (.int x2), some (.int x3), none, none]) (stk' := [.ref 114, .int x3]) (fun _ _ _ => rfl) ?_
    refine zw_get (v := .ref 65) rfl rfl rfl ?_
    refine zw_get (v := .ref 66) rfl rfl rfl ?_
    refine zw_callf (As := [.ref 66]) (rest := [.int x3]) (c_row_size (id := 66) (by decide) (d := d + 8)) rfl rfl rfl rfl ?_
    show zw fm sx (d + 9) 46 26 [some (.ref 114), some (.int x1), some (.int x2), some (.int x3), none, none] [.int (zs Z 66), .int x3] Z Q
    refine zw_br (c := (zs Z 66) ≤ x3) (t1 := 180) (t2 := 29) (loc' := [some (.ref 114), some (.int x1), some (.int x2), some (.int x3), none, none]) (stk' := []) (fun _ _ _ => rfl) (fun c1 => ?_) (fun c1 => ?_)
    · rw [if_pos c1] at H
      refine zw_run 1 (pc' := 181) (loc' := [some (.ref 114), some (.int x1), some (.int x2), some (.int x3), none, none]) (stk' := [.int 1]) (fun _ _ _ => rfl) ?_
      refine zw_retz rfl rfl (Or.inr rfl) ?_
      have H := oq_some H
      exact H
    · rw [if_neg c1] at H
      refine zw_run 1 (pc' := 30) (loc' := [some (.ref 114), some (.int x1), some (.int x2), some (.int x3), none, none]) (stk' := [.ref 114]) (fun _ _ _ => rfl) ?_
      refine zw_get (v := .ref 65) rfl rfl rfl ?_
      refine zw_get (v := .ref 66) rfl rfl rfl ?_
      refine zw_run 1 (pc' := 37) (loc' := [some (.ref 114), some (.int x1), some (.int x2), some (.int x3), none, none]) (stk' := [.int x3, .ref 66]) (fun _ _ _ => rfl) ?_
      refine zw_callf (As := [.ref 66, .int x3]) (rest := []) (c_row_at (id := 66) (by decide) x3 (d := d + 8)) rfl rfl rfl rfl ?_
      show zw fm sx (d + 9) 46 40 [some (.ref 114), some (.int x1), some (.int x2), some (.int x3), none, none] [.int (zt Z 66 x3)] Z Q
      refine zw_run 3 (pc' := 46) (loc' := [some (.ref 114), some (.int x1), some (.int x2), some (.int x3), some (.int (zt Z 66 x3)), none]) (stk' := [.int 9, .int (zt Z 66 x3)]) (fun _ _ _ => rfl) ?_
      refine zw_br (c := ¬ (zt Z 66 x3) = 9) (t1 := 63) (t2 := 49) (loc' := [some (.ref 114), some (.int x1), some (.int x2), some (.int x3), some (.int (zt Z 66 x3)), none]) (stk' := []) (fun _ _ _ => rfl) (fun c2 => ?_) (fun c2 => ?_)
      · rw [if_pos c2] at H
        refine zw_run 2 (pc' := 67) (loc' := [some (.ref 114), some (.int x1), some (.int x2), some (.int x3), some (.int (zt Z 66 x3)), none]) (stk' := [.int 10, .int (zt Z 66 x3)]) (fun _ _ _ => rfl) ?_
        refine zw_br (c := ¬ (zt Z 66 x3) = 10) (t1 := 75) (t2 := 70) (loc' := [some (.ref 114), some (.int x1), some (.int x2), some (.int x3), some (.int (zt Z 66 x3)), none]) (stk' := []) (fun _ _ _ => rfl) (fun c3 => ?_) (fun c3 => ?_)
        · rw [if_pos c3] at H
          refine zw_run 1 (pc' := 77) (loc' := [some (.ref 114), some (.int x1), some (.int x2), some (.int x3), some (.int (zt Z 66 x3)), none]) (stk' := [.int (zt Z 66 x3)]) (fun _ _ _ => rfl) ?_
          refine zw_br (c := ¬ (zt Z 66 x3) = 0) (t1 := 104) (t2 := 80) (loc' := [some (.ref 114), some (.int x1), some (.int x2), some (.int x3), some (.int (zt Z 66 x3)), none]) (stk' := []) (fun _ _ _ => rfl) (fun c4 => ?_) (fun c4 => ?_)
          · rw [if_pos c4] at H
            refine zw_run 2 (pc' := 108) (loc' := [some (.ref 114), some (.int x1), some (.int x2), some (.int x3), some (.int (zt Z 66 x3)), none]) (stk' := [.int 8, .int (zt Z 66 x3)]) (fun _ _ _ => rfl) ?_
            refine zw_br (c := (zt Z 66 x3) = 8) (t1 := 174) (t2 := 111) (loc' := [some (.ref 114), some (.int x1), some (.int x2), some (.int x3), some (.int (zt Z 66 x3)), none]) (stk' := []) (fun _ _ _ => rfl) (fun c5 => ?_) (fun c5 => ?_)
            · rw [if_pos c5] at H
              refine zw_run 2 (pc' := 15) (loc' := [some (.ref 114), some (.int x1), some (.int x2), some (.int (x3 + 1)), some (.int (zt Z 66 x3)), none]) (stk' := []) (fun _ _ _ => rfl) ?_
              refine zw_fgt [true, true, true, true, false, false] rfl ?_
              exact ih Z x1 x2 (x3 + 1) H
            · rw [if_neg c5] at H
              refine zw_run 2 (pc' := 113) (loc' := [some (.ref 114), some (.int x1), some (.int x2), some (.int x3), some (.int (zt Z 66 x3)), none]) (stk' := [.int x1, .ref 114]) (fun _ _ _ => rfl) ?_
              refine zw_callf (As := [.ref 114, .int x1]) (rest := []) (c_47 x1 (d := d + 7)) rfl rfl rfl rfl ?_
              show zw fm sx (d + 9) 46 116 [some (.ref 114), some (.int x1), some (.int x2), some (.int x3), some (.int (zt Z 66 x3)), none] [.int (f_47 Z x1)] Z Q
              refine zw_run 1 (pc' := 118) (loc' := [some (.ref 114), some (.int x1), some (.int x2), some (.int x3), some (.int (zt Z 66 x3)), none]) (stk' := [.int 20, .int (f_47 Z x1)]) (fun _ _ _ => rfl) ?_
              refine zw_br (c := (f_47 Z x1) ≤ 20) (t1 := 123) (t2 := 121) (loc' := [some (.ref 114), some (.int x1), some (.int x2), some (.int x3), some (.int (zt Z 66 x3)), none]) (stk' := []) (fun _ _ _ => rfl) (fun c6 => ?_) (fun c6 => ?_)
              · rw [if_pos c6] at H
                refine zw_run 4 (pc' := 128) (loc' := [some (.ref 114), some (.int x1), some (.int x2), some (.int x3), some (.int (zt Z 66 x3)), none]) (stk' := [.ref 114, .int x1, .int (zt Z 66 x3), .ref 114]) (fun _ _ _ => rfl) ?_
                refine zw_get (v := .ref 65) rfl rfl rfl ?_
                refine zw_get (v := .ref 68) rfl rfl rfl ?_
                refine zw_run 1 (pc' := 135) (loc' := [some (.ref 114), some (.int x1), some (.int x2), some (.int x3), some (.int (zt Z 66 x3)), none]) (stk' := [.int x3, .ref 68, .int x1, .int (zt Z 66 x3), .ref 114]) (fun _ _ _ => rfl) ?_
                refine zw_callf (As := [.ref 68, .int x3]) (rest := [.int x1, .int (zt Z 66 x3), .ref 114]) (c_row_at (id := 68) (by decide) x3 (d := d + 8)) rfl rfl rfl rfl ?_
                show zw fm sx (d + 9) 46 138 [some (.ref 114), some (.int x1), some (.int x2), some (.int x3), some (.int (zt Z 66 x3)), none] [.int (zt Z 68 x3), .int x1, .int (zt Z 66 x3), .ref 114] Z Q
                obtain ⟨u7, hu7, H⟩ := oq_bind H
                refine zw_callf (As := [.ref 114, .int (zt Z 66 x3), .int x1, .int (zt Z 68 x3)]) (rest := []) (c_48 hu (zt Z 66 x3) x1 (zt Z 68 x3) hu7 (d := d + 0)) rfl rfl rfl rfl ?_
                show zw fm sx (d + 9) 46 141 [some (.ref 114), some (.int x1), some (.int x2), some (.int x3), some (.int (zt Z 66 x3)), none] [.int u7.1] u7.2 Q
                refine zw_run 2 (pc' := 145) (loc' := [some (.ref 114), some (.int x1), some (.int x2), some (.int x3), some (.int (zt Z 66 x3)), some (.int u7.1)]) (stk' := [.int (zt Z 66 x3)]) (fun _ _ _ => rfl) ?_
                have J11 : ∀ (v10 : Int32), v10 = (if (zt Z 66 x3) = 0 then u7.1 else (if ¬ (zt Z 66 x3) = 3 then (-1) else u7.1 : Int32) : Int32) → zw fm sx (d + 9) 46 160 [some (.ref 114), some (.int x1), some (.int x2), some (.int x3), some (.int (zt Z 66 x3)), some (.int u7.1)] [.int v10] u7.2 Q := by
                  intro v10 ev10
                  subst ev10
                  refine zw_run 1 (pc' := 161) (loc' := [some (.ref 114), some (.int x1), some (.int (if (zt Z 66 x3) = 0 then u7.1 else (if ¬ (zt Z 66 x3) = 3 then (-1) else u7.1 : Int32) : Int32)), some (.int x3), some (.int (zt Z 66 x3)), some (.int u7.1)]) (stk' := []) (fun _ _ _ => rfl) ?_
                  obtain ⟨x12, hx12⟩ : ∃ w : Int32, w = (if (zt Z 66 x3) = 0 then u7.1 else (if ¬ (zt Z 66 x3) = 3 then (-1) else u7.1 : Int32) : Int32) := ⟨_, rfl⟩
                  rw [← hx12]
                  have H := oq_let H x12 hx12
                  refine zw_run 2 (pc' := 164) (loc' := [some (.ref 114), some (.int x1), some (.int x12), some (.int x3), some (.int (zt Z 66 x3)), some (.int u7.1)]) (stk' := [.int 4, .int (zt Z 66 x3)]) (fun _ _ _ => rfl) ?_
                  have J15 : ∀ (v14 : Int32), v14 = (if (zt Z 66 x3) < 4 then x1 else u7.1 : Int32) → zw fm sx (d + 9) 46 173 [some (.ref 114), some (.int x1), some (.int x12), some (.int x3), some (.int (zt Z 66 x3)), some (.int u7.1)] [.int v14] u7.2 Q := by
                    intro v14 ev14
                    subst ev14
                    refine zw_run 1 (pc' := 174) (loc' := [some (.ref 114), some (.int (if (zt Z 66 x3) < 4 then x1 else u7.1 : Int32)), some (.int x12), some (.int x3), some (.int (zt Z 66 x3)), some (.int u7.1)]) (stk' := []) (fun _ _ _ => rfl) ?_
                    obtain ⟨x16, hx16⟩ : ∃ w : Int32, w = (if (zt Z 66 x3) < 4 then x1 else u7.1 : Int32) := ⟨_, rfl⟩
                    rw [← hx16]
                    have H := oq_let H x16 hx16
                    refine zw_run 2 (pc' := 15) (loc' := [some (.ref 114), some (.int x16), some (.int x12), some (.int (x3 + 1)), some (.int (zt Z 66 x3)), some (.int u7.1)]) (stk' := []) (fun _ _ _ => rfl) ?_
                    refine zw_fgt [true, true, true, true, false, false] rfl ?_
                    exact ih u7.2 x16 x12 (x3 + 1) H
                  refine zw_br (c := (zt Z 66 x3) < 4) (t1 := 172) (t2 := 167) (loc' := [some (.ref 114), some (.int x1), some (.int x12), some (.int x3), some (.int (zt Z 66 x3)), some (.int u7.1)]) (stk' := []) (fun _ _ _ => rfl) (fun c13 => ?_) (fun c13 => ?_)
                  · skip
                    refine zw_run 1 (pc' := 173) (loc' := [some (.ref 114), some (.int x1), some (.int x12), some (.int x3), some (.int (zt Z 66 x3)), some (.int u7.1)]) (stk' := [.int x1]) (fun _ _ _ => rfl) ?_
                    exact J15 _ (by first | (rw [if_pos c13]; done) | (rw [if_pos c13]; rfl) | (clear H J15; simp_all [bI]; done))
                  · skip
                    refine zw_run 2 (pc' := 173) (loc' := [some (.ref 114), some (.int x1), some (.int x12), some (.int x3), some (.int (zt Z 66 x3)), some (.int u7.1)]) (stk' := [.int u7.1]) (fun _ _ _ => rfl) ?_
                    exact J15 _ (by first | (rw [if_neg c13]; done) | (rw [if_neg c13]; rfl) | (clear H J15; simp_all [bI]; done))
                refine zw_br (c := (zt Z 66 x3) = 0) (t1 := 154) (t2 := 148) (loc' := [some (.ref 114), some (.int x1), some (.int x2), some (.int x3), some (.int (zt Z 66 x3)), some (.int u7.1)]) (stk' := []) (fun _ _ _ => rfl) (fun c8 => ?_) (fun c8 => ?_)
                · skip
                  refine zw_run 2 (pc' := 160) (loc' := [some (.ref 114), some (.int x1), some (.int x2), some (.int x3), some (.int (zt Z 66 x3)), some (.int u7.1)]) (stk' := [.int u7.1]) (fun _ _ _ => rfl) ?_
                  exact J11 _ (by first | (rw [if_pos c8]; done) | (rw [if_pos c8]; rfl) | (clear H J11; simp_all [bI]; done))
                · skip
                  refine zw_run 2 (pc' := 151) (loc' := [some (.ref 114), some (.int x1), some (.int x2), some (.int x3), some (.int (zt Z 66 x3)), some (.int u7.1)]) (stk' := [.int 3, .int (zt Z 66 x3)]) (fun _ _ _ => rfl) ?_
                  refine zw_br (c := ¬ (zt Z 66 x3) = 3) (t1 := 159) (t2 := 154) (loc' := [some (.ref 114), some (.int x1), some (.int x2), some (.int x3), some (.int (zt Z 66 x3)), some (.int u7.1)]) (stk' := []) (fun _ _ _ => rfl) (fun c9 => ?_) (fun c9 => ?_)
                  · skip
                    refine zw_run 1 (pc' := 160) (loc' := [some (.ref 114), some (.int x1), some (.int x2), some (.int x3), some (.int (zt Z 66 x3)), some (.int u7.1)]) (stk' := [.int (-1)]) (fun _ _ _ => rfl) ?_
                    exact J11 _ (by first | (rw [if_neg c8, if_pos c9]; done) | (rw [if_neg c8, if_pos c9]; rfl) | (clear H J11; simp_all [bI]; done))
                  · skip
                    refine zw_run 2 (pc' := 160) (loc' := [some (.ref 114), some (.int x1), some (.int x2), some (.int x3), some (.int (zt Z 66 x3)), some (.int u7.1)]) (stk' := [.int u7.1]) (fun _ _ _ => rfl) ?_
                    exact J11 _ (by first | (rw [if_neg c8, if_neg c9]; done) | (rw [if_neg c8, if_neg c9]; rfl) | (clear H J11; simp_all [bI]; done))
              · rw [if_neg c6] at H
                refine zw_run 1 (pc' := 122) (loc' := [some (.ref 114), some (.int x1), some (.int x2), some (.int x3), some (.int (zt Z 66 x3)), none]) (stk' := [.int 0]) (fun _ _ _ => rfl) ?_
                refine zw_retz rfl rfl (Or.inl rfl) ?_
                have H := oq_some H
                exact H
          · rw [if_neg c4] at H
            refine zw_run 2 (pc' := 82) (loc' := [some (.ref 114), some (.int x1), some (.int x2), some (.int x3), some (.int (zt Z 66 x3)), none]) (stk' := [.int (-1), .int x2]) (fun _ _ _ => rfl) ?_
            refine zw_br (c := x2 = (-1)) (t1 := 104) (t2 := 85) (loc' := [some (.ref 114), some (.int x1), some (.int x2), some (.int x3), some (.int (zt Z 66 x3)), none]) (stk' := []) (fun _ _ _ => rfl) (fun c17 => ?_) (fun c17 => ?_)
            · rw [if_pos c17] at H
              refine zw_run 2 (pc' := 108) (loc' := [some (.ref 114), some (.int x1), some (.int x2), some (.int x3), some (.int (zt Z 66 x3)), none]) (stk' := [.int 8, .int (zt Z 66 x3)]) (fun _ _ _ => rfl) ?_
              refine zw_br (c := (zt Z 66 x3) = 8) (t1 := 174) (t2 := 111) (loc' := [some (.ref 114), some (.int x1), some (.int x2), some (.int x3), some (.int (zt Z 66 x3)), none]) (stk' := []) (fun _ _ _ => rfl) (fun c18 => ?_) (fun c18 => ?_)
              · rw [if_pos c18] at H
                refine zw_run 2 (pc' := 15) (loc' := [some (.ref 114), some (.int x1), some (.int x2), some (.int (x3 + 1)), some (.int (zt Z 66 x3)), none]) (stk' := []) (fun _ _ _ => rfl) ?_
                refine zw_fgt [true, true, true, true, false, false] rfl ?_
                exact ih Z x1 x2 (x3 + 1) H
              · rw [if_neg c18] at H
                refine zw_run 2 (pc' := 113) (loc' := [some (.ref 114), some (.int x1), some (.int x2), some (.int x3), some (.int (zt Z 66 x3)), none]) (stk' := [.int x1, .ref 114]) (fun _ _ _ => rfl) ?_
                refine zw_callf (As := [.ref 114, .int x1]) (rest := []) (c_47 x1 (d := d + 7)) rfl rfl rfl rfl ?_
                show zw fm sx (d + 9) 46 116 [some (.ref 114), some (.int x1), some (.int x2), some (.int x3), some (.int (zt Z 66 x3)), none] [.int (f_47 Z x1)] Z Q
                refine zw_run 1 (pc' := 118) (loc' := [some (.ref 114), some (.int x1), some (.int x2), some (.int x3), some (.int (zt Z 66 x3)), none]) (stk' := [.int 20, .int (f_47 Z x1)]) (fun _ _ _ => rfl) ?_
                refine zw_br (c := (f_47 Z x1) ≤ 20) (t1 := 123) (t2 := 121) (loc' := [some (.ref 114), some (.int x1), some (.int x2), some (.int x3), some (.int (zt Z 66 x3)), none]) (stk' := []) (fun _ _ _ => rfl) (fun c19 => ?_) (fun c19 => ?_)
                · rw [if_pos c19] at H
                  refine zw_run 4 (pc' := 128) (loc' := [some (.ref 114), some (.int x1), some (.int x2), some (.int x3), some (.int (zt Z 66 x3)), none]) (stk' := [.ref 114, .int x1, .int (zt Z 66 x3), .ref 114]) (fun _ _ _ => rfl) ?_
                  refine zw_get (v := .ref 65) rfl rfl rfl ?_
                  refine zw_get (v := .ref 68) rfl rfl rfl ?_
                  refine zw_run 1 (pc' := 135) (loc' := [some (.ref 114), some (.int x1), some (.int x2), some (.int x3), some (.int (zt Z 66 x3)), none]) (stk' := [.int x3, .ref 68, .int x1, .int (zt Z 66 x3), .ref 114]) (fun _ _ _ => rfl) ?_
                  refine zw_callf (As := [.ref 68, .int x3]) (rest := [.int x1, .int (zt Z 66 x3), .ref 114]) (c_row_at (id := 68) (by decide) x3 (d := d + 8)) rfl rfl rfl rfl ?_
                  show zw fm sx (d + 9) 46 138 [some (.ref 114), some (.int x1), some (.int x2), some (.int x3), some (.int (zt Z 66 x3)), none] [.int (zt Z 68 x3), .int x1, .int (zt Z 66 x3), .ref 114] Z Q
                  obtain ⟨u20, hu20, H⟩ := oq_bind H
                  refine zw_callf (As := [.ref 114, .int (zt Z 66 x3), .int x1, .int (zt Z 68 x3)]) (rest := []) (c_48 hu (zt Z 66 x3) x1 (zt Z 68 x3) hu20 (d := d + 0)) rfl rfl rfl rfl ?_
                  show zw fm sx (d + 9) 46 141 [some (.ref 114), some (.int x1), some (.int x2), some (.int x3), some (.int (zt Z 66 x3)), none] [.int u20.1] u20.2 Q
                  refine zw_run 2 (pc' := 145) (loc' := [some (.ref 114), some (.int x1), some (.int x2), some (.int x3), some (.int (zt Z 66 x3)), some (.int u20.1)]) (stk' := [.int (zt Z 66 x3)]) (fun _ _ _ => rfl) ?_
                  have J24 : ∀ (v23 : Int32), v23 = (if (zt Z 66 x3) = 0 then u20.1 else (if ¬ (zt Z 66 x3) = 3 then (-1) else u20.1 : Int32) : Int32) → zw fm sx (d + 9) 46 160 [some (.ref 114), some (.int x1), some (.int x2), some (.int x3), some (.int (zt Z 66 x3)), some (.int u20.1)] [.int v23] u20.2 Q := by
                    intro v23 ev23
                    subst ev23
                    refine zw_run 1 (pc' := 161) (loc' := [some (.ref 114), some (.int x1), some (.int (if (zt Z 66 x3) = 0 then u20.1 else (if ¬ (zt Z 66 x3) = 3 then (-1) else u20.1 : Int32) : Int32)), some (.int x3), some (.int (zt Z 66 x3)), some (.int u20.1)]) (stk' := []) (fun _ _ _ => rfl) ?_
                    obtain ⟨x25, hx25⟩ : ∃ w : Int32, w = (if (zt Z 66 x3) = 0 then u20.1 else (if ¬ (zt Z 66 x3) = 3 then (-1) else u20.1 : Int32) : Int32) := ⟨_, rfl⟩
                    rw [← hx25]
                    have H := oq_let H x25 hx25
                    refine zw_run 2 (pc' := 164) (loc' := [some (.ref 114), some (.int x1), some (.int x25), some (.int x3), some (.int (zt Z 66 x3)), some (.int u20.1)]) (stk' := [.int 4, .int (zt Z 66 x3)]) (fun _ _ _ => rfl) ?_
                    have J28 : ∀ (v27 : Int32), v27 = (if (zt Z 66 x3) < 4 then x1 else u20.1 : Int32) → zw fm sx (d + 9) 46 173 [some (.ref 114), some (.int x1), some (.int x25), some (.int x3), some (.int (zt Z 66 x3)), some (.int u20.1)] [.int v27] u20.2 Q := by
                      intro v27 ev27
                      subst ev27
                      refine zw_run 1 (pc' := 174) (loc' := [some (.ref 114), some (.int (if (zt Z 66 x3) < 4 then x1 else u20.1 : Int32)), some (.int x25), some (.int x3), some (.int (zt Z 66 x3)), some (.int u20.1)]) (stk' := []) (fun _ _ _ => rfl) ?_
                      obtain ⟨x29, hx29⟩ : ∃ w : Int32, w = (if (zt Z 66 x3) < 4 then x1 else u20.1 : Int32) := ⟨_, rfl⟩
                      rw [← hx29]
                      have H := oq_let H x29 hx29
                      refine zw_run 2 (pc' := 15) (loc' := [some (.ref 114), some (.int x29), some (.int x25), some (.int (x3 + 1)), some (.int (zt Z 66 x3)), some (.int u20.1)]) (stk' := []) (fun _ _ _ => rfl) ?_
                      refine zw_fgt [true, true, true, true, false, false] rfl ?_
                      exact ih u20.2 x29 x25 (x3 + 1) H
                    refine zw_br (c := (zt Z 66 x3) < 4) (t1 := 172) (t2 := 167) (loc' := [some (.ref 114), some (.int x1), some (.int x25), some (.int x3), some (.int (zt Z 66 x3)), some (.int u20.1)]) (stk' := []) (fun _ _ _ => rfl) (fun c26 => ?_) (fun c26 => ?_)
                    · skip
                      refine zw_run 1 (pc' := 173) (loc' := [some (.ref 114), some (.int x1), some (.int x25), some (.int x3), some (.int (zt Z 66 x3)), some (.int u20.1)]) (stk' := [.int x1]) (fun _ _ _ => rfl) ?_
                      exact J28 _ (by first | (rw [if_pos c26]; done) | (rw [if_pos c26]; rfl) | (clear H J28; simp_all [bI]; done))
                    · skip
                      refine zw_run 2 (pc' := 173) (loc' := [some (.ref 114), some (.int x1), some (.int x25), some (.int x3), some (.int (zt Z 66 x3)), some (.int u20.1)]) (stk' := [.int u20.1]) (fun _ _ _ => rfl) ?_
                      exact J28 _ (by first | (rw [if_neg c26]; done) | (rw [if_neg c26]; rfl) | (clear H J28; simp_all [bI]; done))
                  refine zw_br (c := (zt Z 66 x3) = 0) (t1 := 154) (t2 := 148) (loc' := [some (.ref 114), some (.int x1), some (.int x2), some (.int x3), some (.int (zt Z 66 x3)), some (.int u20.1)]) (stk' := []) (fun _ _ _ => rfl) (fun c21 => ?_) (fun c21 => ?_)
                  · skip
                    refine zw_run 2 (pc' := 160) (loc' := [some (.ref 114), some (.int x1), some (.int x2), some (.int x3), some (.int (zt Z 66 x3)), some (.int u20.1)]) (stk' := [.int u20.1]) (fun _ _ _ => rfl) ?_
                    exact J24 _ (by first | (rw [if_pos c21]; done) | (rw [if_pos c21]; rfl) | (clear H J24; simp_all [bI]; done))
                  · skip
                    refine zw_run 2 (pc' := 151) (loc' := [some (.ref 114), some (.int x1), some (.int x2), some (.int x3), some (.int (zt Z 66 x3)), some (.int u20.1)]) (stk' := [.int 3, .int (zt Z 66 x3)]) (fun _ _ _ => rfl) ?_
                    refine zw_br (c := ¬ (zt Z 66 x3) = 3) (t1 := 159) (t2 := 154) (loc' := [some (.ref 114), some (.int x1), some (.int x2), some (.int x3), some (.int (zt Z 66 x3)), some (.int u20.1)]) (stk' := []) (fun _ _ _ => rfl) (fun c22 => ?_) (fun c22 => ?_)
                    · skip
                      refine zw_run 1 (pc' := 160) (loc' := [some (.ref 114), some (.int x1), some (.int x2), some (.int x3), some (.int (zt Z 66 x3)), some (.int u20.1)]) (stk' := [.int (-1)]) (fun _ _ _ => rfl) ?_
                      exact J24 _ (by first | (rw [if_neg c21, if_pos c22]; done) | (rw [if_neg c21, if_pos c22]; rfl) | (clear H J24; simp_all [bI]; done))
                    · skip
                      refine zw_run 2 (pc' := 160) (loc' := [some (.ref 114), some (.int x1), some (.int x2), some (.int x3), some (.int (zt Z 66 x3)), some (.int u20.1)]) (stk' := [.int u20.1]) (fun _ _ _ => rfl) ?_
                      exact J24 _ (by first | (rw [if_neg c21, if_neg c22]; done) | (rw [if_neg c21, if_neg c22]; rfl) | (clear H J24; simp_all [bI]; done))
                · rw [if_neg c19] at H
                  refine zw_run 1 (pc' := 122) (loc' := [some (.ref 114), some (.int x1), some (.int x2), some (.int x3), some (.int (zt Z 66 x3)), none]) (stk' := [.int 0]) (fun _ _ _ => rfl) ?_
                  refine zw_retz rfl rfl (Or.inl rfl) ?_
                  have H := oq_some H
                  exact H
            · rw [if_neg c17] at H
              refine zw_run 3 (pc' := 88) (loc' := [some (.ref 114), some (.int x1), some (.int x2), some (.int x3), some (.int (zt Z 66 x3)), none]) (stk' := [.ref 114, .int x2, .ref 114]) (fun _ _ _ => rfl) ?_
              refine zw_get (v := .ref 65) rfl rfl rfl ?_
              refine zw_get (v := .ref 68) rfl rfl rfl ?_
              refine zw_run 1 (pc' := 95) (loc' := [some (.ref 114), some (.int x1), some (.int x2), some (.int x3), some (.int (zt Z 66 x3)), none]) (stk' := [.int x3, .ref 68, .int x2, .ref 114]) (fun _ _ _ => rfl) ?_
              refine zw_callf (As := [.ref 68, .int x3]) (rest := [.int x2, .ref 114]) (c_row_at (id := 68) (by decide) x3 (d := d + 8)) rfl rfl rfl rfl ?_
              show zw fm sx (d + 9) 46 98 [some (.ref 114), some (.int x1), some (.int x2), some (.int x3), some (.int (zt Z 66 x3)), none] [.int (zt Z 68 x3), .int x2, .ref 114] Z Q
              refine zw_callf (As := [.ref 114, .int x2, .int (zt Z 68 x3)]) (rest := []) (c_49 x2 (zt Z 68 x3) (d := d + 6)) rfl rfl rfl rfl ?_
              show zw fm sx (d + 9) 46 101 [some (.ref 114), some (.int x1), some (.int x2), some (.int x3), some (.int (zt Z 66 x3)), none] [] (f_49 Z x2 (zt Z 68 x3)) Q
              refine zw_run 3 (pc' := 15) (loc' := [some (.ref 114), some (.int x1), some (.int x2), some (.int (x3 + 1)), some (.int (zt Z 66 x3)), none]) (stk' := []) (fun _ _ _ => rfl) ?_
              refine zw_fgt [true, true, true, true, false, false] rfl ?_
              exact ih (f_49 Z x2 (zt Z 68 x3)) x1 x2 (x3 + 1) H
        · rw [if_neg c3] at H
          refine zw_run 5 (pc' := 15) (loc' := [some (.ref 114), some (.int x1), some (.int (-1)), some (.int (x3 + 1)), some (.int (zt Z 66 x3)), none]) (stk' := []) (fun _ _ _ => rfl) ?_
          refine zw_fgt [true, true, true, true, false, false] rfl ?_
          exact ih Z x1 (-1) (x3 + 1) H
      · rw [if_neg c2] at H
        refine zw_run 1 (pc' := 50) (loc' := [some (.ref 114), some (.int x1), some (.int x2), some (.int x3), some (.int (zt Z 66 x3)), none]) (stk' := [.ref 114]) (fun _ _ _ => rfl) ?_
        refine zw_get (v := .ref 117) rfl rfl rfl ?_
        refine zw_run 1 (pc' := 54) (loc' := [some (.ref 114), some (.int x1), some (.int x2), some (.int x3), some (.int (zt Z 66 x3)), none]) (stk' := [.int x1, .ref 117]) (fun _ _ _ => rfl) ?_
        refine zw_callf (As := [.ref 117, .int x1]) (rest := []) (c_row_at (id := 117) (by decide) x1 (d := d + 8)) rfl rfl rfl rfl ?_
        show zw fm sx (d + 9) 46 57 [some (.ref 114), some (.int x1), some (.int x2), some (.int x3), some (.int (zt Z 66 x3)), none] [.int (zt Z 117 x1)] Z Q
        refine zw_run 6 (pc' := 15) (loc' := [some (.ref 114), some (.int (zt Z 117 x1)), some (.int (-1)), some (.int (x3 + 1)), some (.int (zt Z 66 x3)), none]) (stk' := []) (fun _ _ _ => rfl) ?_
        refine zw_fgt [true, true, true, true, false, false] rfl ?_
        exact ih Z (zt Z 117 x1) (-1) (x3 + 1) H
/-- MarkInlines$Nodes.build -/
def o_46 (Z : zr_Z)  : Option (Bool × zr_Z) := g_46_15 oF (zsc (f_43 Z) 5 1) (-1) (-1) 0
set_option maxRecDepth 100000 in
set_option maxHeartbeats 4000000 in
theorem t_46 {fm : Value} {sx : Nat × (Nat → Int32)} {d : Nat} {Z : zr_Z} {Q : Option Value → zr_Z → Prop} (hu : fm = .null ∨ ∃ q, fm = .ref q)  (H : oq (o_46 Z) (fun x => Q (some (.int (bI x.1))) x.2)) : zw fm sx (d + 9) 46 0 [some (.ref 114), none, none, none, none, none] [] Z Q := by
  unfold o_46 at H
  refine zw_run 1 (pc' := 1) (loc' := [some (.ref 114), none, none, none, none, none]) (stk' := [.ref 114]) (fun _ _ _ => rfl) ?_
  refine zw_callf (As := [.ref 114]) (rest := []) (c_43 (d := d + 7)) rfl rfl rfl rfl ?_
  show zw fm sx (d + 9) 46 4 [some (.ref 114), none, none, none, none, none] [] (f_43 Z) Q
  refine zw_run 2 (pc' := 6) (loc' := [some (.ref 114), none, none, none, none, none]) (stk' := [.int 1, .ref 114]) (fun _ _ _ => rfl) ?_
  refine zw_put (j := 5) rfl rfl rfl rfl (zr_obup5 _ _) ?_
  show zw fm sx (d + 9) 46 9 [some (.ref 114), none, none, none, none, none] [] (zsc (f_43 Z) 5 1) Q
  refine zw_run 6 (pc' := 15) (loc' := [some (.ref 114), some (.int (-1)), some (.int (-1)), some (.int 0), none, none]) (stk' := []) (fun _ _ _ => rfl) ?_
  exact l_46_15 hu _ (zsc (f_43 Z) 5 1) (-1) (-1) 0 H
theorem c_46 {fm : Value} {sx : Nat × (Nat → Int32)} {d : Nat} {Z : zr_Z} (hu : fm = .null ∨ ∃ q, fm = .ref q)  {x : Bool × zr_Z} (hx : o_46 Z = some x) : zl fm sx (d + 10) 46 [.ref 114] Z (fun r Z' => r = some (.int (bI x.1)) ∧ Z' = x.2) :=
  zl_of (nL := 6) (loc0 := [some (.ref 114), none, none, none, none, none]) rfl rfl rfl (t_46 hu ⟨x, hx, rfl, rfl⟩)
