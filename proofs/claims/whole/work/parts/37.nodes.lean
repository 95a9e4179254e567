/-! Nodes, Reader: the simple ones; walks written by wip/whole/gen_class.py -/
/-- MarkInlines$Nodes.forget -/
def f_43 (Z : zr_Z)  : zr_Z := (zcut (zcut (zcut (zcut (zcut (zcut (zcut (zcut (zcut (zsc Z 5 0) 115 0) 117 0) 119 0) 121 0) 123 0) 125 0) 127 0) 129 0) 131 0)
set_option maxRecDepth 100000 in
set_option maxHeartbeats 1000000 in
theorem b_43 {fm : Value} {sx : Nat × (Nat → Int32)} {d : Nat} {Z : zr_Z} {Q : Option Value → zr_Z → Prop}  (H : Q none (zcut (zcut (zcut (zcut (zcut (zcut (zcut (zcut (zcut (zsc Z 5 0) 115 0) 117 0) 119 0) 121 0) 123 0) 125 0) 127 0) 129 0) 131 0)) : zw fm sx (d + 1) 43 0 [some (.ref 114)] [] Z Q := by
  refine zw_run 2 (pc' := 2) (loc' := [some (.ref 114)]) (stk' := [.int 0, .ref 114]) (fun _ _ _ => rfl) ?_
  refine zw_put (j := 5) rfl rfl rfl rfl (zr_obup5 _ _) ?_
  show zw fm sx (d + 1) 43 5 [some (.ref 114)] [] (zsc Z 5 0) Q
  refine zw_run 1 (pc' := 6) (loc' := [some (.ref 114)]) (stk' := [.ref 114]) (fun _ _ _ => rfl) ?_
  refine zw_get (v := .ref 115) rfl rfl rfl ?_
  refine zw_run 1 (pc' := 10) (loc' := [some (.ref 114)]) (stk' := [.int 0, .ref 115]) (fun _ _ _ => rfl) ?_
  refine zw_callf (As := [.ref 115, .int 0]) (rest := []) (c_row_cut (id := 115) (by decide) 0 (d := d + 0)) rfl rfl rfl rfl ?_
  show zw fm sx (d + 1) 43 13 [some (.ref 114)] [] (zcut (zsc Z 5 0) 115 0) Q
  refine zw_run 1 (pc' := 14) (loc' := [some (.ref 114)]) (stk' := [.ref 114]) (fun _ _ _ => rfl) ?_
  refine zw_get (v := .ref 117) rfl rfl rfl ?_
  refine zw_run 1 (pc' := 18) (loc' := [some (.ref 114)]) (stk' := [.int 0, .ref 117]) (fun _ _ _ => rfl) ?_
  refine zw_callf (As := [.ref 117, .int 0]) (rest := []) (c_row_cut (id := 117) (by decide) 0 (d := d + 0)) rfl rfl rfl rfl ?_
  show zw fm sx (d + 1) 43 21 [some (.ref 114)] [] (zcut (zcut (zsc Z 5 0) 115 0) 117 0) Q
  refine zw_run 1 (pc' := 22) (loc' := [some (.ref 114)]) (stk' := [.ref 114]) (fun _ _ _ => rfl) ?_
  refine zw_get (v := .ref 119) rfl rfl rfl ?_
  refine zw_run 1 (pc' := 26) (loc' := [some (.ref 114)]) (stk' := [.int 0, .ref 119]) (fun _ _ _ => rfl) ?_
  refine zw_callf (As := [.ref 119, .int 0]) (rest := []) (c_row_cut (id := 119) (by decide) 0 (d := d + 0)) rfl rfl rfl rfl ?_
  show zw fm sx (d + 1) 43 29 [some (.ref 114)] [] (zcut (zcut (zcut (zsc Z 5 0) 115 0) 117 0) 119 0) Q
  refine zw_run 1 (pc' := 30) (loc' := [some (.ref 114)]) (stk' := [.ref 114]) (fun _ _ _ => rfl) ?_
  refine zw_get (v := .ref 121) rfl rfl rfl ?_
  refine zw_run 1 (pc' := 34) (loc' := [some (.ref 114)]) (stk' := [.int 0, .ref 121]) (fun _ _ _ => rfl) ?_
  refine zw_callf (As := [.ref 121, .int 0]) (rest := []) (c_row_cut (id := 121) (by decide) 0 (d := d + 0)) rfl rfl rfl rfl ?_
  show zw fm sx (d + 1) 43 37 [some (.ref 114)] [] (zcut (zcut (zcut (zcut (zsc Z 5 0) 115 0) 117 0) 119 0) 121 0) Q
  refine zw_run 1 (pc' := 38) (loc' := [some (.ref 114)]) (stk' := [.ref 114]) (fun _ _ _ => rfl) ?_
  refine zw_get (v := .ref 123) rfl rfl rfl ?_
  refine zw_run 1 (pc' := 42) (loc' := [some (.ref 114)]) (stk' := [.int 0, .ref 123]) (fun _ _ _ => rfl) ?_
  refine zw_callf (As := [.ref 123, .int 0]) (rest := []) (c_row_cut (id := 123) (by decide) 0 (d := d + 0)) rfl rfl rfl rfl ?_
  show zw fm sx (d + 1) 43 45 [some (.ref 114)] [] (zcut (zcut (zcut (zcut (zcut (zsc Z 5 0) 115 0) 117 0) 119 0) 121 0) 123 0) Q
  refine zw_run 1 (pc' := 46) (loc' := [some (.ref 114)]) (stk' := [.ref 114]) (fun _ _ _ => rfl) ?_
  refine zw_get (v := .ref 125) rfl rfl rfl ?_
  refine zw_run 1 (pc' := 50) (loc' := [some (.ref 114)]) (stk' := [.int 0, .ref 125]) (fun _ _ _ => rfl) ?_
  refine zw_callf (As := [.ref 125, .int 0]) (rest := []) (c_row_cut (id := 125) (by decide) 0 (d := d + 0)) rfl rfl rfl rfl ?_
  show zw fm sx (d + 1) 43 53 [some (.ref 114)] [] (zcut (zcut (zcut (zcut (zcut (zcut (zsc Z 5 0) 115 0) 117 0) 119 0) 121 0) 123 0) 125 0) Q
  refine zw_run 1 (pc' := 54) (loc' := [some (.ref 114)]) (stk' := [.ref 114]) (fun _ _ _ => rfl) ?_
  refine zw_get (v := .ref 127) rfl rfl rfl ?_
  refine zw_run 1 (pc' := 58) (loc' := [some (.ref 114)]) (stk' := [.int 0, .ref 127]) (fun _ _ _ => rfl) ?_
  refine zw_callf (As := [.ref 127, .int 0]) (rest := []) (c_row_cut (id := 127) (by decide) 0 (d := d + 0)) rfl rfl rfl rfl ?_
  show zw fm sx (d + 1) 43 61 [some (.ref 114)] [] (zcut (zcut (zcut (zcut (zcut (zcut (zcut (zsc Z 5 0) 115 0) 117 0) 119 0) 121 0) 123 0) 125 0) 127 0) Q
  refine zw_run 1 (pc' := 62) (loc' := [some (.ref 114)]) (stk' := [.ref 114]) (fun _ _ _ => rfl) ?_
  refine zw_get (v := .ref 129) rfl rfl rfl ?_
  refine zw_run 1 (pc' := 66) (loc' := [some (.ref 114)]) (stk' := [.int 0, .ref 129]) (fun _ _ _ => rfl) ?_
  refine zw_callf (As := [.ref 129, .int 0]) (rest := []) (c_row_cut (id := 129) (by decide) 0 (d := d + 0)) rfl rfl rfl rfl ?_
  show zw fm sx (d + 1) 43 69 [some (.ref 114)] [] (zcut (zcut (zcut (zcut (zcut (zcut (zcut (zcut (zsc Z 5 0) 115 0) 117 0) 119 0) 121 0) 123 0) 125 0) 127 0) 129 0) Q
  refine zw_run 1 (pc' := 70) (loc' := [some (.ref 114)]) (stk' := [.ref 114]) (fun _ _ _ => rfl) ?_
  refine zw_get (v := .ref 131) rfl rfl rfl ?_
  refine zw_run 1 (pc' := 74) (loc' := [some (.ref 114)]) (stk' := [.int 0, .ref 131]) (fun _ _ _ => rfl) ?_
  refine zw_callf (As := [.ref 131, .int 0]) (rest := []) (c_row_cut (id := 131) (by decide) 0 (d := d + 0)) rfl rfl rfl rfl ?_
  show zw fm sx (d + 1) 43 77 [some (.ref 114)] [] (zcut (zcut (zcut (zcut (zcut (zcut (zcut (zcut (zcut (zsc Z 5 0) 115 0) 117 0) 119 0) 121 0) 123 0) 125 0) 127 0) 129 0) 131 0) Q
  refine zw_retv rfl rfl ?_
  exact H
theorem t_43 {fm : Value} {sx : Nat × (Nat → Int32)} {d : Nat} {Z : zr_Z} {Q : Option Value → zr_Z → Prop}  (HQ : Q none (f_43 Z)) : zw fm sx (d + 1) 43 0 [some (.ref 114)] [] Z Q := by
  refine b_43 ?_
  unfold f_43 at HQ
  exact HQ
theorem c_43 {fm : Value} {sx : Nat × (Nat → Int32)} {d : Nat} {Z : zr_Z}  : zl fm sx (d + 2) 43 [.ref 114] Z (fun r Z' => r = none ∧ Z' = (f_43 Z)) :=
  zl_of (nL := 1) (loc0 := [some (.ref 114)]) rfl rfl rfl (t_43 ⟨rfl, rfl⟩)
/-- MarkInlines$Nodes.count -/
def f_44 (Z : zr_Z)  : Int32 := (if (zc Z 5) = 0 then (-1) else (zs Z 115) : Int32)
set_option maxRecDepth 100000 in
set_option maxHeartbeats 1000000 in
theorem b_44 {fm : Value} {sx : Nat × (Nat → Int32)} {d : Nat} {Z : zr_Z} {Q : Option Value → zr_Z → Prop}  (H : Q (some (.int (if (zc Z 5) = 0 then (-1) else (zs Z 115) : Int32))) Z) : zw fm sx (d + 1) 44 0 [some (.ref 114)] [] Z Q := by
  refine zw_run 1 (pc' := 1) (loc' := [some (.ref 114)]) (stk' := [.ref 114]) (fun _ _ _ => rfl) ?_
  refine zw_get (v := .int (zc Z 5)) rfl rfl rfl ?_
  have J3 : ∀ (v2 : Int32), v2 = (if (zc Z 5) = 0 then (-1) else (zs Z 115) : Int32) → zw fm sx (d + 1) 44 18 [some (.ref 114)] [.int v2] Z Q := by
    intro v2 ev2
    subst ev2
    refine zw_reti (i := .nop) rfl rfl ?_
    exact H
  refine zw_br (c := (zc Z 5) = 0) (t1 := 17) (t2 := 7) (loc' := [some (.ref 114)]) (stk' := []) (fun _ _ _ => rfl) (fun c1 => ?_) (fun c1 => ?_)
  · skip
    refine zw_run 1 (pc' := 18) (loc' := [some (.ref 114)]) (stk' := [.int (-1)]) (fun _ _ _ => rfl) ?_
    exact J3 _ (by first | (rw [if_pos c1]; done) | (clear H J3; simp_all [bI]; done))
  · skip
    refine zw_run 1 (pc' := 8) (loc' := [some (.ref 114)]) (stk' := [.ref 114]) (fun _ _ _ => rfl) ?_
    refine zw_get (v := .ref 115) rfl rfl rfl ?_
    refine zw_callf (As := [.ref 115]) (rest := []) (c_row_size (id := 115) (by decide) (d := d + 0)) rfl rfl rfl rfl ?_
    show zw fm sx (d + 1) 44 14 [some (.ref 114)] [.int (zs Z 115)] Z Q
    refine zw_run 1 (pc' := 18) (loc' := [some (.ref 114)]) (stk' := [.int (zs Z 115)]) (fun _ _ _ => rfl) ?_
    exact J3 _ (by first | (rw [if_neg c1]; done) | (clear H J3; simp_all [bI]; done))
theorem t_44 {fm : Value} {sx : Nat × (Nat → Int32)} {d : Nat} {Z : zr_Z} {Q : Option Value → zr_Z → Prop}  (HQ : Q (some (.int (f_44 Z))) Z) : zw fm sx (d + 1) 44 0 [some (.ref 114)] [] Z Q := by
  refine b_44 ?_
  unfold f_44 at HQ
  exact HQ
theorem c_44 {fm : Value} {sx : Nat × (Nat → Int32)} {d : Nat} {Z : zr_Z}  : zl fm sx (d + 2) 44 [.ref 114] Z (fun r Z' => r = some (.int (f_44 Z)) ∧ Z' = Z) :=
  zl_of (nL := 1) (loc0 := [some (.ref 114)]) rfl rfl rfl (t_44 ⟨rfl, rfl⟩)
/-- MarkInlines$Nodes.has -/
def f_45 (Z : zr_Z) (k : Int32) : Bool := ((!(decide (k < 0))) && (!(decide ((f_44 Z) ≤ k))))
set_option maxRecDepth 100000 in
set_option maxHeartbeats 1000000 in
theorem b_45 {fm : Value} {sx : Nat × (Nat → Int32)} {d : Nat} {Z : zr_Z} {Q : Option Value → zr_Z → Prop} (k : Int32) (H : Q (some (.int (bI ((!(decide (k < 0))) && (!(decide ((f_44 Z) ≤ k))))))) Z) : zw fm sx (d + 2) 45 0 [some (.ref 114), some (.int k)] [] Z Q := by
  refine zw_run 1 (pc' := 1) (loc' := [some (.ref 114), some (.int k)]) (stk' := [.int k]) (fun _ _ _ => rfl) ?_
  have J4 : ∀ (v3 : Int32), v3 = (bI ((!(decide (k < 0))) && (!(decide ((f_44 Z) ≤ k))))) → zw fm sx (d + 2) 45 17 [some (.ref 114), some (.int k)] [.int v3] Z Q := by
    intro v3 ev3
    subst ev3
    refine zw_retz rfl rfl (bI_01 _) ?_
    exact H
  refine zw_br (c := k < 0) (t1 := 16) (t2 := 4) (loc' := [some (.ref 114), some (.int k)]) (stk' := []) (fun _ _ _ => rfl) (fun c1 => ?_) (fun c1 => ?_)
  · skip
    refine zw_run 1 (pc' := 17) (loc' := [some (.ref 114), some (.int k)]) (stk' := [.int 0]) (fun _ _ _ => rfl) ?_
    exact J4 _ (by clear H J4; first | (simp [bI, c1]; done) | (simp [bI, *]; done) | (simp_all [bI]; done) | (exfalso; simp_all; done))
  · skip
    refine zw_run 2 (pc' := 6) (loc' := [some (.ref 114), some (.int k)]) (stk' := [.ref 114, .int k]) (fun _ _ _ => rfl) ?_
    refine zw_callf (As := [.ref 114]) (rest := [.int k]) (c_44 (d := d + 0)) rfl rfl rfl rfl ?_
    show zw fm sx (d + 2) 45 9 [some (.ref 114), some (.int k)] [.int (f_44 Z), .int k] Z Q
    refine zw_br (c := (f_44 Z) ≤ k) (t1 := 16) (t2 := 12) (loc' := [some (.ref 114), some (.int k)]) (stk' := []) (fun _ _ _ => rfl) (fun c2 => ?_) (fun c2 => ?_)
    · skip
      refine zw_run 1 (pc' := 17) (loc' := [some (.ref 114), some (.int k)]) (stk' := [.int 0]) (fun _ _ _ => rfl) ?_
      exact J4 _ (by clear H J4; first | (simp [bI, c1, c2]; done) | (simp [bI, *]; done) | (simp_all [bI]; done) | (exfalso; simp_all; done))
    · skip
      refine zw_run 2 (pc' := 17) (loc' := [some (.ref 114), some (.int k)]) (stk' := [.int 1]) (fun _ _ _ => rfl) ?_
      exact J4 _ (by clear H J4; first | (simp [bI, c1, c2]; done) | (simp [bI, *]; done) | (simp_all [bI]; done) | (exfalso; simp_all; done))
theorem t_45 {fm : Value} {sx : Nat × (Nat → Int32)} {d : Nat} {Z : zr_Z} {Q : Option Value → zr_Z → Prop} (k : Int32) (HQ : Q (some (.int (bI (f_45 Z k)))) Z) : zw fm sx (d + 2) 45 0 [some (.ref 114), some (.int k)] [] Z Q := by
  refine b_45 k ?_
  unfold f_45 at HQ
  exact HQ
theorem c_45 {fm : Value} {sx : Nat × (Nat → Int32)} {d : Nat} {Z : zr_Z} (k : Int32) : zl fm sx (d + 3) 45 [.ref 114, .int k] Z (fun r Z' => r = some (.int (bI (f_45 Z k))) ∧ Z' = Z) :=
  zl_of (nL := 2) (loc0 := [some (.ref 114), some (.int k)]) rfl rfl rfl (t_45 k ⟨rfl, rfl⟩)
/-- MarkInlines$Nodes.depthIn -/
def f_47 (Z : zr_Z) (k : Int32) : Int32 := (if ¬ k = (-1) then ((zt Z 119 k) + 1) else 1 : Int32)
set_option maxRecDepth 100000 in
set_option maxHeartbeats 1000000 in
theorem b_47 {fm : Value} {sx : Nat × (Nat → Int32)} {d : Nat} {Z : zr_Z} {Q : Option Value → zr_Z → Prop} (k : Int32) (H : Q (some (.int (if ¬ k = (-1) then ((zt Z 119 k) + 1) else 1 : Int32))) Z) : zw fm sx (d + 1) 47 0 [some (.ref 114), some (.int k)] [] Z Q := by
  refine zw_run 2 (pc' := 2) (loc' := [some (.ref 114), some (.int k)]) (stk' := [.int (-1), .int k]) (fun _ _ _ => rfl) ?_
  have J3 : ∀ (v2 : Int32), v2 = (if ¬ k = (-1) then ((zt Z 119 k) + 1) else 1 : Int32) → zw fm sx (d + 1) 47 19 [some (.ref 114), some (.int k)] [.int v2] Z Q := by
    intro v2 ev2
    subst ev2
    refine zw_reti (i := .nop) rfl rfl ?_
    exact H
  refine zw_br (c := ¬ k = (-1)) (t1 := 9) (t2 := 5) (loc' := [some (.ref 114), some (.int k)]) (stk' := []) (fun _ _ _ => rfl) (fun c1 => ?_) (fun c1 => ?_)
  · skip
    refine zw_run 1 (pc' := 10) (loc' := [some (.ref 114), some (.int k)]) (stk' := [.ref 114]) (fun _ _ _ => rfl) ?_
    refine zw_get (v := .ref 119) rfl rfl rfl ?_
    refine zw_run 1 (pc' := 14) (loc' := [some (.ref 114), some (.int k)]) (stk' := [.int k, .ref 119]) (fun _ _ _ => rfl) ?_
    refine zw_callf (As := [.ref 119, .int k]) (rest := []) (c_row_at (id := 119) (by decide) k (d := d + 0)) rfl rfl rfl rfl ?_
    show zw fm sx (d + 1) 47 17 [some (.ref 114), some (.int k)] [.int (zt Z 119 k)] Z Q
    refine zw_run 2 (pc' := 19) (loc' := [some (.ref 114), some (.int k)]) (stk' := [.int ((zt Z 119 k) + 1)]) (fun _ _ _ => rfl) ?_
    exact J3 _ (by first | (rw [if_pos c1]; done) | (clear H J3; simp_all [bI]; done))
  · skip
    refine zw_run 2 (pc' := 19) (loc' := [some (.ref 114), some (.int k)]) (stk' := [.int 1]) (fun _ _ _ => rfl) ?_
    exact J3 _ (by first | (rw [if_neg c1]; done) | (clear H J3; simp_all [bI]; done))
theorem t_47 {fm : Value} {sx : Nat × (Nat → Int32)} {d : Nat} {Z : zr_Z} {Q : Option Value → zr_Z → Prop} (k : Int32) (HQ : Q (some (.int (f_47 Z k))) Z) : zw fm sx (d + 1) 47 0 [some (.ref 114), some (.int k)] [] Z Q := by
  refine b_47 k ?_
  unfold f_47 at HQ
  exact HQ
theorem c_47 {fm : Value} {sx : Nat × (Nat → Int32)} {d : Nat} {Z : zr_Z} (k : Int32) : zl fm sx (d + 2) 47 [.ref 114, .int k] Z (fun r Z' => r = some (.int (f_47 Z k)) ∧ Z' = Z) :=
  zl_of (nL := 2) (loc0 := [some (.ref 114), some (.int k)]) rfl rfl rfl (t_47 k ⟨rfl, rfl⟩)
/-- MarkInlines$Nodes.addLetter -/
def f_49 (Z : zr_Z) (k : Int32) (c : Int32) : zr_Z := (zput (zadd Z 131 c) 123 k ((zs (zadd Z 131 c) 131) - (zt (zadd Z 131 c) 121 k)))
set_option maxRecDepth 100000 in
set_option maxHeartbeats 1000000 in
theorem b_49 {fm : Value} {sx : Nat × (Nat → Int32)} {d : Nat} {Z : zr_Z} {Q : Option Value → zr_Z → Prop} (k : Int32) (c : Int32) (H : Q none (zput (zadd Z 131 c) 123 k ((zs (zadd Z 131 c) 131) - (zt (zadd Z 131 c) 121 k)))) : zw fm sx (d + 2) 49 0 [some (.ref 114), some (.int k), some (.int c)] [] Z Q := by
  refine zw_run 1 (pc' := 1) (loc' := [some (.ref 114), some (.int k), some (.int c)]) (stk' := [.ref 114]) (fun _ _ _ => rfl) ?_
  refine zw_get (v := .ref 131) rfl rfl rfl ?_
  refine zw_run 1 (pc' := 5) (loc' := [some (.ref 114), some (.int k), some (.int c)]) (stk' := [.int c, .ref 131]) (fun _ _ _ => rfl) ?_
  refine zw_callf (As := [.ref 131, .int c]) (rest := []) (c_row_add (id := 131) (by decide) c (d := d + 0)) rfl rfl rfl rfl ?_
  show zw fm sx (d + 2) 49 8 [some (.ref 114), some (.int k), some (.int c)] [] (zadd Z 131 c) Q
  refine zw_run 1 (pc' := 9) (loc' := [some (.ref 114), some (.int k), some (.int c)]) (stk' := [.ref 114]) (fun _ _ _ => rfl) ?_
  refine zw_get (v := .ref 123) rfl rfl rfl ?_
  refine zw_run 2 (pc' := 14) (loc' := [some (.ref 114), some (.int k), some (.int c)]) (stk' := [.ref 114, .int k, .ref 123]) (fun _ _ _ => rfl) ?_
  refine zw_get (v := .ref 131) rfl rfl rfl ?_
  refine zw_callf (As := [.ref 131]) (rest := [.int k, .ref 123]) (c_row_size (id := 131) (by decide) (d := d + 1)) rfl rfl rfl rfl ?_
  show zw fm sx (d + 2) 49 20 [some (.ref 114), some (.int k), some (.int c)] [.int (zs (zadd Z 131 c) 131), .int k, .ref 123] (zadd Z 131 c) Q
  refine zw_run 1 (pc' := 21) (loc' := [some (.ref 114), some (.int k), some (.int c)]) (stk' := [.ref 114, .int (zs (zadd Z 131 c) 131), .int k, .ref 123]) (fun _ _ _ => rfl) ?_
  refine zw_get (v := .ref 121) rfl rfl rfl ?_
  refine zw_run 1 (pc' := 25) (loc' := [some (.ref 114), some (.int k), some (.int c)]) (stk' := [.int k, .ref 121, .int (zs (zadd Z 131 c) 131), .int k, .ref 123]) (fun _ _ _ => rfl) ?_
  refine zw_callf (As := [.ref 121, .int k]) (rest := [.int (zs (zadd Z 131 c) 131), .int k, .ref 123]) (c_row_at (id := 121) (by decide) k (d := d + 1)) rfl rfl rfl rfl ?_
  show zw fm sx (d + 2) 49 28 [some (.ref 114), some (.int k), some (.int c)] [.int (zt (zadd Z 131 c) 121 k), .int (zs (zadd Z 131 c) 131), .int k, .ref 123] (zadd Z 131 c) Q
  refine zw_run 1 (pc' := 29) (loc' := [some (.ref 114), some (.int k), some (.int c)]) (stk' := [.int ((zs (zadd Z 131 c) 131) - (zt (zadd Z 131 c) 121 k)), .int k, .ref 123]) (fun _ _ _ => rfl) ?_
  refine zw_callf (As := [.ref 123, .int k, .int ((zs (zadd Z 131 c) 131) - (zt (zadd Z 131 c) 121 k))]) (rest := []) (c_row_put (id := 123) (by decide) k ((zs (zadd Z 131 c) 131) - (zt (zadd Z 131 c) 121 k)) (d := d + 1)) rfl rfl rfl rfl ?_
  show zw fm sx (d + 2) 49 32 [some (.ref 114), some (.int k), some (.int c)] [] (zput (zadd Z 131 c) 123 k ((zs (zadd Z 131 c) 131) - (zt (zadd Z 131 c) 121 k))) Q
  refine zw_retv rfl rfl ?_
  exact H
theorem t_49 {fm : Value} {sx : Nat × (Nat → Int32)} {d : Nat} {Z : zr_Z} {Q : Option Value → zr_Z → Prop} (k : Int32) (c : Int32) (HQ : Q none (f_49 Z k c)) : zw fm sx (d + 2) 49 0 [some (.ref 114), some (.int k), some (.int c)] [] Z Q := by
  refine b_49 k c ?_
  unfold f_49 at HQ
  exact HQ
theorem c_49 {fm : Value} {sx : Nat × (Nat → Int32)} {d : Nat} {Z : zr_Z} (k : Int32) (c : Int32) : zl fm sx (d + 3) 49 [.ref 114, .int k, .int c] Z (fun r Z' => r = none ∧ Z' = (f_49 Z k c)) :=
  zl_of (nL := 3) (loc0 := [some (.ref 114), some (.int k), some (.int c)]) rfl rfl rfl (t_49 k c ⟨rfl, rfl⟩)
/-- MarkInlines$Nodes.tell -/
def f_39 (Z : zr_Z) (k : Int32) (wh : Int32) : Int32 := (if wh = 0 then (zt Z 115 k) else (if wh = 1 then (zt Z 117 k) else (if wh = 2 then (zt Z 123 k) else (if wh = 3 then (zt Z 127 k) else (if wh = 4 then (zt Z 129 k) else (if wh = 5 then (zt Z 119 k) else (-1)))))))
set_option maxRecDepth 100000 in
set_option maxHeartbeats 1000000 in
theorem b_39 {fm : Value} {sx : Nat × (Nat → Int32)} {d : Nat} {Z : zr_Z} {Q : Option Value → zr_Z → Prop} (k : Int32) (wh : Int32) (H : (if wh = 0 then Q (some (.int (zt Z 115 k))) Z else (if wh = 1 then Q (some (.int (zt Z 117 k))) Z else (if wh = 2 then Q (some (.int (zt Z 123 k))) Z else (if wh = 3 then Q (some (.int (zt Z 127 k))) Z else (if wh = 4 then Q (some (.int (zt Z 129 k))) Z else (if wh = 5 then Q (some (.int (zt Z 119 k))) Z else Q (some (.int (-1))) Z))))))) : zw fm sx (d + 1) 39 0 [some (.ref 114), some (.int k), some (.int wh)] [] Z Q := by
  refine zw_run 1 (pc' := 1) (loc' := [some (.ref 114), some (.int k), some (.int wh)]) (stk' := [.int wh]) (fun _ _ _ => rfl) ?_
  by_cases c1 : wh = 0
  · rw [if_pos c1] at H
    refine zw_run 1 (pc' := 40) (loc' := [some (.ref 114), some (.int k), some (.int wh)]) (stk' := []) (fun _ _ _ => by rw [c1]; rfl) ?_
    refine zw_run 1 (pc' := 41) (loc' := [some (.ref 114), some (.int k), some (.int wh)]) (stk' := [.ref 114]) (fun _ _ _ => rfl) ?_
    refine zw_get (v := .ref 115) rfl rfl rfl ?_
    refine zw_run 1 (pc' := 45) (loc' := [some (.ref 114), some (.int k), some (.int wh)]) (stk' := [.int k, .ref 115]) (fun _ _ _ => rfl) ?_
    refine zw_callf (As := [.ref 115, .int k]) (rest := []) (c_row_at (id := 115) (by decide) k (d := d + 0)) rfl rfl rfl rfl ?_
    show zw fm sx (d + 1) 39 48 [some (.ref 114), some (.int k), some (.int wh)] [.int (zt Z 115 k)] Z Q
    refine zw_reti (i := .nop) rfl rfl ?_
    exact H
  rw [if_neg c1] at H
  by_cases c2 : wh = 1
  · rw [if_pos c2] at H
    refine zw_run 1 (pc' := 49) (loc' := [some (.ref 114), some (.int k), some (.int wh)]) (stk' := []) (fun _ _ _ => by rw [c2]; rfl) ?_
    refine zw_run 1 (pc' := 50) (loc' := [some (.ref 114), some (.int k), some (.int wh)]) (stk' := [.ref 114]) (fun _ _ _ => rfl) ?_
    refine zw_get (v := .ref 117) rfl rfl rfl ?_
    refine zw_run 1 (pc' := 54) (loc' := [some (.ref 114), some (.int k), some (.int wh)]) (stk' := [.int k, .ref 117]) (fun _ _ _ => rfl) ?_
    refine zw_callf (As := [.ref 117, .int k]) (rest := []) (c_row_at (id := 117) (by decide) k (d := d + 0)) rfl rfl rfl rfl ?_
    show zw fm sx (d + 1) 39 57 [some (.ref 114), some (.int k), some (.int wh)] [.int (zt Z 117 k)] Z Q
    refine zw_reti (i := .nop) rfl rfl ?_
    exact H
  rw [if_neg c2] at H
  by_cases c3 : wh = 2
  · rw [if_pos c3] at H
    refine zw_run 1 (pc' := 58) (loc' := [some (.ref 114), some (.int k), some (.int wh)]) (stk' := []) (fun _ _ _ => by rw [c3]; rfl) ?_
    refine zw_run 1 (pc' := 59) (loc' := [some (.ref 114), some (.int k), some (.int wh)]) (stk' := [.ref 114]) (fun _ _ _ => rfl) ?_
    refine zw_get (v := .ref 123) rfl rfl rfl ?_
    refine zw_run 1 (pc' := 63) (loc' := [some (.ref 114), some (.int k), some (.int wh)]) (stk' := [.int k, .ref 123]) (fun _ _ _ => rfl) ?_
    refine zw_callf (As := [.ref 123, .int k]) (rest := []) (c_row_at (id := 123) (by decide) k (d := d + 0)) rfl rfl rfl rfl ?_
    show zw fm sx (d + 1) 39 66 [some (.ref 114), some (.int k), some (.int wh)] [.int (zt Z 123 k)] Z Q
    refine zw_reti (i := .nop) rfl rfl ?_
    exact H
  rw [if_neg c3] at H
  by_cases c4 : wh = 3
  · rw [if_pos c4] at H
    refine zw_run 1 (pc' := 67) (loc' := [some (.ref 114), some (.int k), some (.int wh)]) (stk' := []) (fun _ _ _ => by rw [c4]; rfl) ?_
    refine zw_run 1 (pc' := 68) (loc' := [some (.ref 114), some (.int k), some (.int wh)]) (stk' := [.ref 114]) (fun _ _ _ => rfl) ?_
    refine zw_get (v := .ref 127) rfl rfl rfl ?_
    refine zw_run 1 (pc' := 72) (loc' := [some (.ref 114), some (.int k), some (.int wh)]) (stk' := [.int k, .ref 127]) (fun _ _ _ => rfl) ?_
    refine zw_callf (As := [.ref 127, .int k]) (rest := []) (c_row_at (id := 127) (by decide) k (d := d + 0)) rfl rfl rfl rfl ?_
    show zw fm sx (d + 1) 39 75 [some (.ref 114), some (.int k), some (.int wh)] [.int (zt Z 127 k)] Z Q
    refine zw_reti (i := .nop) rfl rfl ?_
    exact H
  rw [if_neg c4] at H
  by_cases c5 : wh = 4
  · rw [if_pos c5] at H
    refine zw_run 1 (pc' := 76) (loc' := [some (.ref 114), some (.int k), some (.int wh)]) (stk' := []) (fun _ _ _ => by rw [c5]; rfl) ?_
    refine zw_run 1 (pc' := 77) (loc' := [some (.ref 114), some (.int k), some (.int wh)]) (stk' := [.ref 114]) (fun _ _ _ => rfl) ?_
    refine zw_get (v := .ref 129) rfl rfl rfl ?_
    refine zw_run 1 (pc' := 81) (loc' := [some (.ref 114), some (.int k), some (.int wh)]) (stk' := [.int k, .ref 129]) (fun _ _ _ => rfl) ?_
    refine zw_callf (As := [.ref 129, .int k]) (rest := []) (c_row_at (id := 129) (by decide) k (d := d + 0)) rfl rfl rfl rfl ?_
    show zw fm sx (d + 1) 39 84 [some (.ref 114), some (.int k), some (.int wh)] [.int (zt Z 129 k)] Z Q
    refine zw_reti (i := .nop) rfl rfl ?_
    exact H
  rw [if_neg c5] at H
  by_cases c6 : wh = 5
  · rw [if_pos c6] at H
    refine zw_run 1 (pc' := 85) (loc' := [some (.ref 114), some (.int k), some (.int wh)]) (stk' := []) (fun _ _ _ => by rw [c6]; rfl) ?_
    refine zw_run 1 (pc' := 86) (loc' := [some (.ref 114), some (.int k), some (.int wh)]) (stk' := [.ref 114]) (fun _ _ _ => rfl) ?_
    refine zw_get (v := .ref 119) rfl rfl rfl ?_
    refine zw_run 1 (pc' := 90) (loc' := [some (.ref 114), some (.int k), some (.int wh)]) (stk' := [.int k, .ref 119]) (fun _ _ _ => rfl) ?_
    refine zw_callf (As := [.ref 119, .int k]) (rest := []) (c_row_at (id := 119) (by decide) k (d := d + 0)) rfl rfl rfl rfl ?_
    show zw fm sx (d + 1) 39 93 [some (.ref 114), some (.int k), some (.int wh)] [.int (zt Z 119 k)] Z Q
    refine zw_reti (i := .nop) rfl rfl ?_
    exact H
  rw [if_neg c6] at H
  refine zw_sw (pc' := 94) (loc' := [some (.ref 114), some (.int k), some (.int wh)]) (stk' := []) rfl (am_tswd (fun i h1 h2 => ?_)) ?_
  · rcases (show i = 0 ∨ i = 1 ∨ i = 2 ∨ i = 3 ∨ i = 4 ∨ i = 5 by omega) with rfl | rfl | rfl | rfl | rfl | rfl
    · exact fun q => c1 (Int32.toInt_inj.mp q)
    · exact fun q => c2 (Int32.toInt_inj.mp q)
    · exact fun q => c3 (Int32.toInt_inj.mp q)
    · exact fun q => c4 (Int32.toInt_inj.mp q)
    · exact fun q => c5 (Int32.toInt_inj.mp q)
    · exact fun q => c6 (Int32.toInt_inj.mp q)
  refine zw_run 1 (pc' := 95) (loc' := [some (.ref 114), some (.int k), some (.int wh)]) (stk' := [.int (-1)]) (fun _ _ _ => rfl) ?_
  refine zw_reti (i := .nop) rfl rfl ?_
  exact H
theorem t_39 {fm : Value} {sx : Nat × (Nat → Int32)} {d : Nat} {Z : zr_Z} {Q : Option Value → zr_Z → Prop} (k : Int32) (wh : Int32) (HQ : Q (some (.int (f_39 Z k wh))) Z) : zw fm sx (d + 1) 39 0 [some (.ref 114), some (.int k), some (.int wh)] [] Z Q := by
  refine b_39 k wh ?_
  unfold f_39 at HQ
  by_cases c1 : wh = 0
  · rw [if_pos c1] at HQ ⊢
    exact HQ
  rw [if_neg c1] at HQ ⊢
  by_cases c2 : wh = 1
  · rw [if_pos c2] at HQ ⊢
    exact HQ
  rw [if_neg c2] at HQ ⊢
  by_cases c3 : wh = 2
  · rw [if_pos c3] at HQ ⊢
    exact HQ
  rw [if_neg c3] at HQ ⊢
  by_cases c4 : wh = 3
  · rw [if_pos c4] at HQ ⊢
    exact HQ
  rw [if_neg c4] at HQ ⊢
  by_cases c5 : wh = 4
  · rw [if_pos c5] at HQ ⊢
    exact HQ
  rw [if_neg c5] at HQ ⊢
  by_cases c6 : wh = 5
  · rw [if_pos c6] at HQ ⊢
    exact HQ
  rw [if_neg c6] at HQ ⊢
  exact HQ
theorem c_39 {fm : Value} {sx : Nat × (Nat → Int32)} {d : Nat} {Z : zr_Z} (k : Int32) (wh : Int32) : zl fm sx (d + 2) 39 [.ref 114, .int k, .int wh] Z (fun r Z' => r = some (.int (f_39 Z k wh)) ∧ Z' = Z) :=
  zl_of (nL := 3) (loc0 := [some (.ref 114), some (.int k), some (.int wh)]) rfl rfl rfl (t_39 k wh ⟨rfl, rfl⟩)
/-- MarkInlines$Nodes.letterOf -/
def f_40 (Z : zr_Z) (k : Int32) (ti : Bool) (i : Int32) : Int32 := (if i < 0 then (-1) else (if i < (if ti = true then (zt Z 127 k) else (zt Z 123 k) : Int32) then (zt Z 131 ((if ti = true then (zt Z 125 k) else (zt Z 121 k) : Int32) + i)) else (-1)))
set_option maxRecDepth 100000 in
set_option maxHeartbeats 1000000 in
theorem b_40 {fm : Value} {sx : Nat × (Nat → Int32)} {d : Nat} {Z : zr_Z} {Q : Option Value → zr_Z → Prop} (k : Int32) (ti : Bool) (i : Int32) (H : (if i < 0 then Q (some (.int (-1))) Z else (if i < (if ti = true then (zt Z 127 k) else (zt Z 123 k) : Int32) then Q (some (.int (zt Z 131 ((if ti = true then (zt Z 125 k) else (zt Z 121 k) : Int32) + i)))) Z else Q (some (.int (-1))) Z))) : zw fm sx (d + 1) 40 0 [some (.ref 114), some (.int k), some (.int (bI ti)), some (.int i), none] [] Z Q := by
  refine zw_run 1 (pc' := 1) (loc' := [some (.ref 114), some (.int k), some (.int (bI ti)), some (.int i), none]) (stk' := [.int (bI ti)]) (fun _ _ _ => rfl) ?_
  have J3 : ∀ (v2 : Int32), v2 = (if ti = true then (zt Z 127 k) else (zt Z 123 k) : Int32) → zw fm sx (d + 1) 40 23 [some (.ref 114), some (.int k), some (.int (bI ti)), some (.int i), none] [.int v2] Z Q := by
    intro v2 ev2
    subst ev2
    refine zw_run 2 (pc' := 26) (loc' := [some (.ref 114), some (.int k), some (.int (bI ti)), some (.int i), some (.int (if ti = true then (zt Z 127 k) else (zt Z 123 k) : Int32))]) (stk' := [.int i]) (fun _ _ _ => rfl) ?_
    refine zw_br (c := i < 0) (t1 := 35) (t2 := 29) (loc' := [some (.ref 114), some (.int k), some (.int (bI ti)), some (.int i), some (.int (if ti = true then (zt Z 127 k) else (zt Z 123 k) : Int32))]) (stk' := []) (fun _ _ _ => rfl) (fun c4 => ?_) (fun c4 => ?_)
    · rw [if_pos c4] at H
      refine zw_run 1 (pc' := 36) (loc' := [some (.ref 114), some (.int k), some (.int (bI ti)), some (.int i), some (.int (if ti = true then (zt Z 127 k) else (zt Z 123 k) : Int32))]) (stk' := [.int (-1)]) (fun _ _ _ => rfl) ?_
      refine zw_reti (i := .nop) rfl rfl ?_
      exact H
    · rw [if_neg c4] at H
      refine zw_run 2 (pc' := 32) (loc' := [some (.ref 114), some (.int k), some (.int (bI ti)), some (.int i), some (.int (if ti = true then (zt Z 127 k) else (zt Z 123 k) : Int32))]) (stk' := [.int (if ti = true then (zt Z 127 k) else (zt Z 123 k) : Int32), .int i]) (fun _ _ _ => rfl) ?_
      refine zw_br (c := i < (if ti = true then (zt Z 127 k) else (zt Z 123 k) : Int32)) (t1 := 37) (t2 := 35) (loc' := [some (.ref 114), some (.int k), some (.int (bI ti)), some (.int i), some (.int (if ti = true then (zt Z 127 k) else (zt Z 123 k) : Int32))]) (stk' := []) (fun _ _ _ => rfl) (fun c5 => ?_) (fun c5 => ?_)
      · rw [if_pos c5] at H
        refine zw_run 1 (pc' := 38) (loc' := [some (.ref 114), some (.int k), some (.int (bI ti)), some (.int i), some (.int (if ti = true then (zt Z 127 k) else (zt Z 123 k) : Int32))]) (stk' := [.ref 114]) (fun _ _ _ => rfl) ?_
        refine zw_get (v := .ref 131) rfl rfl rfl ?_
        refine zw_run 1 (pc' := 42) (loc' := [some (.ref 114), some (.int k), some (.int (bI ti)), some (.int i), some (.int (if ti = true then (zt Z 127 k) else (zt Z 123 k) : Int32))]) (stk' := [.int (bI ti), .ref 131]) (fun _ _ _ => rfl) ?_
        have J8 : ∀ (v7 : Int32), v7 = (if ti = true then (zt Z 125 k) else (zt Z 121 k) : Int32) → zw fm sx (d + 1) 40 64 [some (.ref 114), some (.int k), some (.int (bI ti)), some (.int i), some (.int (if ti = true then (zt Z 127 k) else (zt Z 123 k) : Int32))] [.int v7, .ref 131] Z Q := by
          intro v7 ev7
          subst ev7
          refine zw_run 2 (pc' := 66) (loc' := [some (.ref 114), some (.int k), some (.int (bI ti)), some (.int i), some (.int (if ti = true then (zt Z 127 k) else (zt Z 123 k) : Int32))]) (stk' := [.int ((if ti = true then (zt Z 125 k) else (zt Z 121 k) : Int32) + i), .ref 131]) (fun _ _ _ => rfl) ?_
          refine zw_callf (As := [.ref 131, .int ((if ti = true then (zt Z 125 k) else (zt Z 121 k) : Int32) + i)]) (rest := []) (c_row_at (id := 131) (by decide) ((if ti = true then (zt Z 125 k) else (zt Z 121 k) : Int32) + i) (d := d + 0)) rfl rfl rfl rfl ?_
          show zw fm sx (d + 1) 40 69 [some (.ref 114), some (.int k), some (.int (bI ti)), some (.int i), some (.int (if ti = true then (zt Z 127 k) else (zt Z 123 k) : Int32))] [.int (zt Z 131 ((if ti = true then (zt Z 125 k) else (zt Z 121 k) : Int32) + i))] Z Q
          refine zw_reti (i := .nop) rfl rfl ?_
          exact H
        refine zw_b0 (b := ti) (t1 := 45) (t2 := 56) (loc' := [some (.ref 114), some (.int k), some (.int (bI ti)), some (.int i), some (.int (if ti = true then (zt Z 127 k) else (zt Z 123 k) : Int32))]) (stk' := [.ref 131]) (fun _ _ _ => rfl) (fun c6 => ?_) (fun c6 => ?_)
        · skip
          refine zw_run 1 (pc' := 46) (loc' := [some (.ref 114), some (.int k), some (.int (bI ti)), some (.int i), some (.int (if ti = true then (zt Z 127 k) else (zt Z 123 k) : Int32))]) (stk' := [.ref 114, .ref 131]) (fun _ _ _ => rfl) ?_
          refine zw_get (v := .ref 125) rfl rfl rfl ?_
          refine zw_run 1 (pc' := 50) (loc' := [some (.ref 114), some (.int k), some (.int (bI ti)), some (.int i), some (.int (if ti = true then (zt Z 127 k) else (zt Z 123 k) : Int32))]) (stk' := [.int k, .ref 125, .ref 131]) (fun _ _ _ => rfl) ?_
          refine zw_callf (As := [.ref 125, .int k]) (rest := [.ref 131]) (c_row_at (id := 125) (by decide) k (d := d + 0)) rfl rfl rfl rfl ?_
          show zw fm sx (d + 1) 40 53 [some (.ref 114), some (.int k), some (.int (bI ti)), some (.int i), some (.int (if ti = true then (zt Z 127 k) else (zt Z 123 k) : Int32))] [.int (zt Z 125 k), .ref 131] Z Q
          refine zw_run 1 (pc' := 64) (loc' := [some (.ref 114), some (.int k), some (.int (bI ti)), some (.int i), some (.int (if ti = true then (zt Z 127 k) else (zt Z 123 k) : Int32))]) (stk' := [.int (zt Z 125 k), .ref 131]) (fun _ _ _ => rfl) ?_
          exact J8 _ (by first | (rw [if_pos c6]; done) | (clear H J8; simp_all [bI]; done))
        · skip
          refine zw_run 1 (pc' := 57) (loc' := [some (.ref 114), some (.int k), some (.int (bI ti)), some (.int i), some (.int (if ti = true then (zt Z 127 k) else (zt Z 123 k) : Int32))]) (stk' := [.ref 114, .ref 131]) (fun _ _ _ => rfl) ?_
          refine zw_get (v := .ref 121) rfl rfl rfl ?_
          refine zw_run 1 (pc' := 61) (loc' := [some (.ref 114), some (.int k), some (.int (bI ti)), some (.int i), some (.int (if ti = true then (zt Z 127 k) else (zt Z 123 k) : Int32))]) (stk' := [.int k, .ref 121, .ref 131]) (fun _ _ _ => rfl) ?_
          refine zw_callf (As := [.ref 121, .int k]) (rest := [.ref 131]) (c_row_at (id := 121) (by decide) k (d := d + 0)) rfl rfl rfl rfl ?_
          show zw fm sx (d + 1) 40 64 [some (.ref 114), some (.int k), some (.int (bI ti)), some (.int i), some (.int (if ti = true then (zt Z 127 k) else (zt Z 123 k) : Int32))] [.int (zt Z 121 k), .ref 131] Z Q
          exact J8 _ (by first | (rw [if_neg c6]; done) | (clear H J8; simp_all [bI]; done))
      · rw [if_neg c5] at H
        refine zw_run 1 (pc' := 36) (loc' := [some (.ref 114), some (.int k), some (.int (bI ti)), some (.int i), some (.int (if ti = true then (zt Z 127 k) else (zt Z 123 k) : Int32))]) (stk' := [.int (-1)]) (fun _ _ _ => rfl) ?_
        refine zw_reti (i := .nop) rfl rfl ?_
        exact H
  refine zw_b0 (b := ti) (t1 := 4) (t2 := 15) (loc' := [some (.ref 114), some (.int k), some (.int (bI ti)), some (.int i), none]) (stk' := []) (fun _ _ _ => rfl) (fun c1 => ?_) (fun c1 => ?_)
  · skip
    refine zw_run 1 (pc' := 5) (loc' := [some (.ref 114), some (.int k), some (.int (bI ti)), some (.int i), none]) (stk' := [.ref 114]) (fun _ _ _ => rfl) ?_
    refine zw_get (v := .ref 127) rfl rfl rfl ?_
    refine zw_run 1 (pc' := 9) (loc' := [some (.ref 114), some (.int k), some (.int (bI ti)), some (.int i), none]) (stk' := [.int k, .ref 127]) (fun _ _ _ => rfl) ?_
    refine zw_callf (As := [.ref 127, .int k]) (rest := []) (c_row_at (id := 127) (by decide) k (d := d + 0)) rfl rfl rfl rfl ?_
    show zw fm sx (d + 1) 40 12 [some (.ref 114), some (.int k), some (.int (bI ti)), some (.int i), none] [.int (zt Z 127 k)] Z Q
    refine zw_run 1 (pc' := 23) (loc' := [some (.ref 114), some (.int k), some (.int (bI ti)), some (.int i), none]) (stk' := [.int (zt Z 127 k)]) (fun _ _ _ => rfl) ?_
    exact J3 _ (by first | (rw [if_pos c1]; done) | (clear H J3; simp_all [bI]; done))
  · skip
    refine zw_run 1 (pc' := 16) (loc' := [some (.ref 114), some (.int k), some (.int (bI ti)), some (.int i), none]) (stk' := [.ref 114]) (fun _ _ _ => rfl) ?_
    refine zw_get (v := .ref 123) rfl rfl rfl ?_
    refine zw_run 1 (pc' := 20) (loc' := [some (.ref 114), some (.int k), some (.int (bI ti)), some (.int i), none]) (stk' := [.int k, .ref 123]) (fun _ _ _ => rfl) ?_
    refine zw_callf (As := [.ref 123, .int k]) (rest := []) (c_row_at (id := 123) (by decide) k (d := d + 0)) rfl rfl rfl rfl ?_
    show zw fm sx (d + 1) 40 23 [some (.ref 114), some (.int k), some (.int (bI ti)), some (.int i), none] [.int (zt Z 123 k)] Z Q
    exact J3 _ (by first | (rw [if_neg c1]; done) | (clear H J3; simp_all [bI]; done))
theorem t_40 {fm : Value} {sx : Nat × (Nat → Int32)} {d : Nat} {Z : zr_Z} {Q : Option Value → zr_Z → Prop} (k : Int32) (ti : Bool) (i : Int32) (HQ : Q (some (.int (f_40 Z k ti i))) Z) : zw fm sx (d + 1) 40 0 [some (.ref 114), some (.int k), some (.int (bI ti)), some (.int i), none] [] Z Q := by
  refine b_40 k ti i ?_
  unfold f_40 at HQ
  by_cases c4 : i < 0
  · rw [if_pos c4] at HQ ⊢
    exact HQ
  · rw [if_neg c4] at HQ ⊢
    by_cases c5 : i < (if ti = true then (zt Z 127 k) else (zt Z 123 k) : Int32)
    · rw [if_pos c5] at HQ ⊢
      exact HQ
    · rw [if_neg c5] at HQ ⊢
      exact HQ
theorem c_40 {fm : Value} {sx : Nat × (Nat → Int32)} {d : Nat} {Z : zr_Z} (k : Int32) (ti : Bool) (i : Int32) : zl fm sx (d + 2) 40 [.ref 114, .int k, .int (bI ti), .int i] Z (fun r Z' => r = some (.int (f_40 Z k ti i)) ∧ Z' = Z) :=
  zl_of (nL := 5) (loc0 := [some (.ref 114), some (.int k), some (.int (bI ti)), some (.int i), none]) rfl rfl rfl (t_40 k ti i ⟨rfl, rfl⟩)
/-- MarkInlines$Nodes.behind, its loop at 4 -/
def g_41_4 : Nat → zr_Z → Int32 → Int32 → Int32
  | 0, Z, _, _ => 0
  | n + 1, Z, k, q => (if (zs Z 115) ≤ q then q else (if (zt Z 119 q) ≤ (zt Z 119 k) then q else g_41_4 n Z k (q + 1)))
set_option maxRecDepth 100000 in
set_option maxHeartbeats 2000000 in
theorem b_41_4 {fm : Value} {sx : Nat × (Nat → Int32)} {d : Nat} {Z : zr_Z} {Q : Option Value → zr_Z → Prop} (k : Int32) (q : Int32) (H : (if (zs Z 115) ≤ q then Q (some (.int q)) Z else (if (zt Z 119 q) ≤ (zt Z 119 k) then Q (some (.int q)) Z else zw fm sx (d + 1) 41 4 [some (.ref 114), some (.int k), some (.int (q + 1))] [] Z Q))) : zw fm sx (d + 1) 41 4 [some (.ref 114), some (.int k), some (.int q)] [] Z Q := by
  refine zw_run 2 (pc' := 6) (loc' := [some (.ref 114), some (.int k), some (.int q)]) (stk' := [.ref 114, .int q]) (fun _ _ _ => rfl) ?_
  refine zw_get (v := .ref 115) rfl rfl rfl ?_
  refine zw_callf (As := [.ref 115]) (rest := [.int q]) (c_row_size (id := 115) (by decide) (d := d + 0)) rfl rfl rfl rfl ?_
  show zw fm sx (d + 1) 41 12 [some (.ref 114), some (.int k), some (.int q)] [.int (zs Z 115), .int q] Z Q
  refine zw_br (c := (zs Z 115) ≤ q) (t1 := 40) (t2 := 15) (loc' := [some (.ref 114), some (.int k), some (.int q)]) (stk' := []) (fun _ _ _ => rfl) (fun c1 => ?_) (fun c1 => ?_)
  · rw [if_pos c1] at H
    refine zw_run 1 (pc' := 41) (loc' := [some (.ref 114), some (.int k), some (.int q)]) (stk' := [.int q]) (fun _ _ _ => rfl) ?_
    refine zw_reti (i := .nop) rfl rfl ?_
    exact H
  · rw [if_neg c1] at H
    refine zw_run 1 (pc' := 16) (loc' := [some (.ref 114), some (.int k), some (.int q)]) (stk' := [.ref 114]) (fun _ _ _ => rfl) ?_
    refine zw_get (v := .ref 119) rfl rfl rfl ?_
    refine zw_run 1 (pc' := 20) (loc' := [some (.ref 114), some (.int k), some (.int q)]) (stk' := [.int q, .ref 119]) (fun _ _ _ => rfl) ?_
    refine zw_callf (As := [.ref 119, .int q]) (rest := []) (c_row_at (id := 119) (by decide) q (d := d + 0)) rfl rfl rfl rfl ?_
    show zw fm sx (d + 1) 41 23 [some (.ref 114), some (.int k), some (.int q)] [.int (zt Z 119 q)] Z Q
    refine zw_run 1 (pc' := 24) (loc' := [some (.ref 114), some (.int k), some (.int q)]) (stk' := [.ref 114, .int (zt Z 119 q)]) (fun _ _ _ => rfl) ?_
    refine zw_get (v := .ref 119) rfl rfl rfl ?_
    refine zw_run 1 (pc' := 28) (loc' := [some (.ref 114), some (.int k), some (.int q)]) (stk' := [.int k, .ref 119, .int (zt Z 119 q)]) (fun _ _ _ => rfl) ?_
    refine zw_callf (As := [.ref 119, .int k]) (rest := [.int (zt Z 119 q)]) (c_row_at (id := 119) (by decide) k (d := d + 0)) rfl rfl rfl rfl ?_
    show zw fm sx (d + 1) 41 31 [some (.ref 114), some (.int k), some (.int q)] [.int (zt Z 119 k), .int (zt Z 119 q)] Z Q
    refine zw_br (c := (zt Z 119 q) ≤ (zt Z 119 k)) (t1 := 40) (t2 := 34) (loc' := [some (.ref 114), some (.int k), some (.int q)]) (stk' := []) (fun _ _ _ => rfl) (fun c2 => ?_) (fun c2 => ?_)
    · rw [if_pos c2] at H
      refine zw_run 1 (pc' := 41) (loc' := [some (.ref 114), some (.int k), some (.int q)]) (stk' := [.int q]) (fun _ _ _ => rfl) ?_
      refine zw_reti (i := .nop) rfl rfl ?_
      exact H
    · rw [if_neg c2] at H
      refine zw_run 2 (pc' := 4) (loc' := [some (.ref 114), some (.int k), some (.int (q + 1))]) (stk' := []) (fun _ _ _ => rfl) ?_
      exact H
theorem l_41_4 {fm : Value} {sx : Nat × (Nat → Int32)} {d : Nat} {Q : Option Value → zr_Z → Prop} (k : Int32) : ∀ (n : Nat) (Z : zr_Z) (q : Int32), (18000 - q.toInt).toNat < n → Q (some (.int (g_41_4 n Z k q))) Z → zw fm sx (d + 1) 41 4 [some (.ref 114), some (.int k), some (.int q)] [] Z Q := by
  intro n
  induction n with
  | zero => intro Z q hn; exact absurd hn (Nat.not_lt_zero _)
  | succ n ih =>
    intro Z q hn HQ
    refine zw_most fun hm => b_41_4 k q ?_
    unfold g_41_4 at HQ
    by_cases c51 : (zs Z 115) ≤ q
    · rw [if_pos c51] at HQ ⊢
      exact HQ
    · rw [if_neg c51] at HQ ⊢
      by_cases c52 : (zt Z 119 q) ≤ (zt Z 119 k)
      · rw [if_pos c52] at HQ ⊢
        exact HQ
      · rw [if_neg c52] at HQ ⊢
        refine ih Z (q + 1) ?_ HQ
        have u0 := Int32.not_le.mp c51
        have u1 := i32_up (by decide) hm u0 1 (by decide)
        have u2 := i32_lt.mp u0
        have u3 : 1 ≤ (1 : Int32).toInt := (by decide)
        have u4 := zs_int (id := 115) (by decide) hm
        omega
/-- MarkInlines$Nodes.behind -/
def f_41 (Z : zr_Z) (k : Int32) : Int32 := g_41_4 ((18000 - (k + 1 : Int32).toInt).toNat + 1) Z k (k + 1)
set_option maxRecDepth 100000 in
set_option maxHeartbeats 1000000 in
theorem b_41 {fm : Value} {sx : Nat × (Nat → Int32)} {d : Nat} {Z : zr_Z} {Q : Option Value → zr_Z → Prop} (k : Int32) (H : zw fm sx (d + 1) 41 4 [some (.ref 114), some (.int k), some (.int (k + 1))] [] Z Q) : zw fm sx (d + 1) 41 0 [some (.ref 114), some (.int k), none] [] Z Q := by
  refine zw_run 4 (pc' := 4) (loc' := [some (.ref 114), some (.int k), some (.int (k + 1))]) (stk' := []) (fun _ _ _ => rfl) ?_
  exact H
theorem t_41 {fm : Value} {sx : Nat × (Nat → Int32)} {d : Nat} {Z : zr_Z} {Q : Option Value → zr_Z → Prop} (k : Int32) (HQ : Q (some (.int (f_41 Z k))) Z) : zw fm sx (d + 1) 41 0 [some (.ref 114), some (.int k), none] [] Z Q := by
  refine b_41 k ?_
  unfold f_41 at HQ
  exact l_41_4 k _ _ _ (Nat.lt_succ_self _) HQ
theorem c_41 {fm : Value} {sx : Nat × (Nat → Int32)} {d : Nat} {Z : zr_Z} (k : Int32) : zl fm sx (d + 2) 41 [.ref 114, .int k] Z (fun r Z' => r = some (.int (f_41 Z k)) ∧ Z' = Z) :=
  zl_of (nL := 3) (loc0 := [some (.ref 114), some (.int k), none]) rfl rfl rfl (t_41 k ⟨rfl, rfl⟩)
/-- MarkInlines$Reader.stopWith -/
def f_52 (Z : zr_Z) (k : Int32) (p : Int32) : zr_Z := (zsc (zsc Z 2 k) 3 p)
set_option maxRecDepth 100000 in
set_option maxHeartbeats 1000000 in
theorem b_52 {fm : Value} {sx : Nat × (Nat → Int32)} {d : Nat} {Z : zr_Z} {Q : Option Value → zr_Z → Prop} (k : Int32) (p : Int32) (H : Q none (zsc (zsc Z 2 k) 3 p)) : zw fm sx (d + 0) 52 0 [some (.ref 89), some (.int k), some (.int p)] [] Z Q := by
  refine zw_run 2 (pc' := 2) (loc' := [some (.ref 89), some (.int k), some (.int p)]) (stk' := [.int k, .ref 89]) (fun _ _ _ => rfl) ?_
  refine zw_put (j := 2) rfl rfl rfl rfl (zr_obup2 _ _) ?_
  show zw fm sx (d + 0) 52 5 [some (.ref 89), some (.int k), some (.int p)] [] (zsc Z 2 k) Q
  refine zw_run 2 (pc' := 7) (loc' := [some (.ref 89), some (.int k), some (.int p)]) (stk' := [.int p, .ref 89]) (fun _ _ _ => rfl) ?_
  refine zw_put (j := 3) rfl rfl rfl rfl (zr_obup3 _ _) ?_
  show zw fm sx (d + 0) 52 10 [some (.ref 89), some (.int k), some (.int p)] [] (zsc (zsc Z 2 k) 3 p) Q
  refine zw_retv rfl rfl ?_
  exact H
theorem t_52 {fm : Value} {sx : Nat × (Nat → Int32)} {d : Nat} {Z : zr_Z} {Q : Option Value → zr_Z → Prop} (k : Int32) (p : Int32) (HQ : Q none (f_52 Z k p)) : zw fm sx (d + 0) 52 0 [some (.ref 89), some (.int k), some (.int p)] [] Z Q := by
  refine b_52 k p ?_
  unfold f_52 at HQ
  exact HQ
theorem c_52 {fm : Value} {sx : Nat × (Nat → Int32)} {d : Nat} {Z : zr_Z} (k : Int32) (p : Int32) : zl fm sx (d + 1) 52 [.ref 89, .int k, .int p] Z (fun r Z' => r = none ∧ Z' = (f_52 Z k p)) :=
  zl_of (nL := 3) (loc0 := [some (.ref 89), some (.int k), some (.int p)]) rfl rfl rfl (t_52 k p ⟨rfl, rfl⟩)
/-- MarkInlines$Reader.startOver -/
def f_55 (Z : zr_Z)  : zr_Z := (zsc (zsc (f_25 (f_77 (f_34 Z) 0)) 2 0) 3 (-1))
set_option maxRecDepth 100000 in
set_option maxHeartbeats 1000000 in
theorem b_55 {fm : Value} {sx : Nat × (Nat → Int32)} {d : Nat} {Z : zr_Z} {Q : Option Value → zr_Z → Prop}  (H : Q none (zsc (zsc (f_25 (f_77 (f_34 Z) 0)) 2 0) 3 (-1))) : zw fm sx (d + 4) 55 0 [some (.ref 89)] [] Z Q := by
  refine zw_run 1 (pc' := 1) (loc' := [some (.ref 89)]) (stk' := [.ref 89]) (fun _ _ _ => rfl) ?_
  refine zw_get (v := .ref 65) rfl rfl rfl ?_
  refine zw_run 1 (pc' := 5) (loc' := [some (.ref 89)]) (stk' := [.ref 89, .ref 65]) (fun _ _ _ => rfl) ?_
  refine zw_get (v := .ref 61) rfl rfl rfl ?_
  refine zw_callf (As := [.ref 65, .ref 61]) (rest := []) (c_34 (d := d + 0)) rfl rfl rfl rfl ?_
  show zw fm sx (d + 4) 55 11 [some (.ref 89)] [] (f_34 Z) Q
  refine zw_run 1 (pc' := 12) (loc' := [some (.ref 89)]) (stk' := [.ref 89]) (fun _ _ _ => rfl) ?_
  refine zw_get (v := .ref 90) rfl rfl rfl ?_
  refine zw_run 1 (pc' := 16) (loc' := [some (.ref 89)]) (stk' := [.int 0, .ref 90]) (fun _ _ _ => rfl) ?_
  refine zw_callf (As := [.ref 90, .int 0]) (rest := []) (c_77 0 (d := d + 2)) rfl rfl rfl rfl ?_
  show zw fm sx (d + 4) 55 19 [some (.ref 89)] [] (f_77 (f_34 Z) 0) Q
  refine zw_run 1 (pc' := 20) (loc' := [some (.ref 89)]) (stk' := [.ref 89]) (fun _ _ _ => rfl) ?_
  refine zw_get (v := .ref 103) rfl rfl rfl ?_
  refine zw_callf (As := [.ref 103]) (rest := []) (c_25 (d := d + 1)) rfl rfl rfl rfl ?_
  show zw fm sx (d + 4) 55 26 [some (.ref 89)] [] (f_25 (f_77 (f_34 Z) 0)) Q
  refine zw_run 2 (pc' := 28) (loc' := [some (.ref 89)]) (stk' := [.int 0, .ref 89]) (fun _ _ _ => rfl) ?_
  refine zw_put (j := 2) rfl rfl rfl rfl (zr_obup2 _ _) ?_
  show zw fm sx (d + 4) 55 31 [some (.ref 89)] [] (zsc (f_25 (f_77 (f_34 Z) 0)) 2 0) Q
  refine zw_run 2 (pc' := 33) (loc' := [some (.ref 89)]) (stk' := [.int (-1), .ref 89]) (fun _ _ _ => rfl) ?_
  refine zw_put (j := 3) rfl rfl rfl rfl (zr_obup3 _ _) ?_
  show zw fm sx (d + 4) 55 36 [some (.ref 89)] [] (zsc (zsc (f_25 (f_77 (f_34 Z) 0)) 2 0) 3 (-1)) Q
  refine zw_retv rfl rfl ?_
  exact H
theorem t_55 {fm : Value} {sx : Nat × (Nat → Int32)} {d : Nat} {Z : zr_Z} {Q : Option Value → zr_Z → Prop}  (HQ : Q none (f_55 Z)) : zw fm sx (d + 4) 55 0 [some (.ref 89)] [] Z Q := by
  refine b_55 ?_
  unfold f_55 at HQ
  exact HQ
theorem c_55 {fm : Value} {sx : Nat × (Nat → Int32)} {d : Nat} {Z : zr_Z}  : zl fm sx (d + 5) 55 [.ref 89] Z (fun r Z' => r = none ∧ Z' = (f_55 Z)) :=
  zl_of (nL := 1) (loc0 := [some (.ref 89)]) rfl rfl rfl (t_55 ⟨rfl, rfl⟩)
/-- MarkInlines$Reader.markBracket -/
def f_51 (Z : zr_Z) (p : Int32) : Int32 × zr_Z := (if ((decide ((zt Z 61 p) = 33))) = true then (if (zt Z 61 (p + 1)) = 91 then ((if ((decide ((zt Z 61 p) = 33))) = true then (p + 2) else (p + 1) : Int32), f_27 Z p ((decide ((zt Z 61 p) = 33)))) else (p + 1, Z)) else ((if ((decide ((zt Z 61 p) = 33))) = true then (p + 2) else (p + 1) : Int32), f_27 Z p ((decide ((zt Z 61 p) = 33)))))
set_option maxRecDepth 100000 in
set_option maxHeartbeats 1000000 in
theorem b_51 {fm : Value} {sx : Nat × (Nat → Int32)} {d : Nat} {Z : zr_Z} {Q : Option Value → zr_Z → Prop} (p : Int32) (H : (if ((decide ((zt Z 61 p) = 33))) = true then (if (zt Z 61 (p + 1)) = 91 then Q (some (.int (if ((decide ((zt Z 61 p) = 33))) = true then (p + 2) else (p + 1) : Int32))) (f_27 Z p ((decide ((zt Z 61 p) = 33)))) else Q (some (.int (p + 1))) Z) else Q (some (.int (if ((decide ((zt Z 61 p) = 33))) = true then (p + 2) else (p + 1) : Int32))) (f_27 Z p ((decide ((zt Z 61 p) = 33)))))) : zw fm sx (d + 3) 51 0 [some (.ref 89), some (.int p), none] [] Z Q := by
  refine zw_run 1 (pc' := 1) (loc' := [some (.ref 89), some (.int p), none]) (stk' := [.ref 89]) (fun _ _ _ => rfl) ?_
  refine zw_get (v := .ref 61) rfl rfl rfl ?_
  refine zw_run 1 (pc' := 5) (loc' := [some (.ref 89), some (.int p), none]) (stk' := [.int p, .ref 61]) (fun _ _ _ => rfl) ?_
  refine zw_callf (As := [.ref 61, .int p]) (rest := []) (c_row_at (id := 61) (by decide) p (d := d + 2)) rfl rfl rfl rfl ?_
  show zw fm sx (d + 3) 51 8 [some (.ref 89), some (.int p), none] [.int (zt Z 61 p)] Z Q
  refine zw_run 1 (pc' := 10) (loc' := [some (.ref 89), some (.int p), none]) (stk' := [.int 33, .int (zt Z 61 p)]) (fun _ _ _ => rfl) ?_
  have J3 : ∀ (v2 : Int32), v2 = (bI ((decide ((zt Z 61 p) = 33)))) → zw fm sx (d + 3) 51 18 [some (.ref 89), some (.int p), none] [.int v2] Z Q := by
    intro v2 ev2
    subst ev2
    refine zw_run 2 (pc' := 20) (loc' := [some (.ref 89), some (.int p), some (.int (bI ((decide ((zt Z 61 p) = 33)))))]) (stk' := [.int (bI ((decide ((zt Z 61 p) = 33))))]) (fun _ _ _ => rfl) ?_
    refine zw_b0 (b := ((decide ((zt Z 61 p) = 33)))) (t1 := 23) (t2 := 42) (loc' := [some (.ref 89), some (.int p), some (.int (bI ((decide ((zt Z 61 p) = 33)))))]) (stk' := []) (fun _ _ _ => rfl) (fun c4 => ?_) (fun c4 => ?_)
    · rw [if_pos c4] at H
      refine zw_run 1 (pc' := 24) (loc' := [some (.ref 89), some (.int p), some (.int (bI ((decide ((zt Z 61 p) = 33)))))]) (stk' := [.ref 89]) (fun _ _ _ => rfl) ?_
      refine zw_get (v := .ref 61) rfl rfl rfl ?_
      refine zw_run 3 (pc' := 30) (loc' := [some (.ref 89), some (.int p), some (.int (bI ((decide ((zt Z 61 p) = 33)))))]) (stk' := [.int (p + 1), .ref 61]) (fun _ _ _ => rfl) ?_
      refine zw_callf (As := [.ref 61, .int (p + 1)]) (rest := []) (c_row_at (id := 61) (by decide) (p + 1) (d := d + 2)) rfl rfl rfl rfl ?_
      show zw fm sx (d + 3) 51 33 [some (.ref 89), some (.int p), some (.int (bI ((decide ((zt Z 61 p) = 33)))))] [.int (zt Z 61 (p + 1))] Z Q
      refine zw_run 1 (pc' := 35) (loc' := [some (.ref 89), some (.int p), some (.int (bI ((decide ((zt Z 61 p) = 33)))))]) (stk' := [.int 91, .int (zt Z 61 (p + 1))]) (fun _ _ _ => rfl) ?_
      refine zw_br (c := (zt Z 61 (p + 1)) = 91) (t1 := 42) (t2 := 38) (loc' := [some (.ref 89), some (.int p), some (.int (bI ((decide ((zt Z 61 p) = 33)))))]) (stk' := []) (fun _ _ _ => rfl) (fun c5 => ?_) (fun c5 => ?_)
      · rw [if_pos c5] at H
        refine zw_run 1 (pc' := 43) (loc' := [some (.ref 89), some (.int p), some (.int (bI ((decide ((zt Z 61 p) = 33)))))]) (stk' := [.ref 89]) (fun _ _ _ => rfl) ?_
        refine zw_get (v := .ref 103) rfl rfl rfl ?_
        refine zw_run 2 (pc' := 48) (loc' := [some (.ref 89), some (.int p), some (.int (bI ((decide ((zt Z 61 p) = 33)))))]) (stk' := [.int (bI ((decide ((zt Z 61 p) = 33)))), .int p, .ref 103]) (fun _ _ _ => rfl) ?_
        refine zw_callf (As := [.ref 103, .int p, .int (bI ((decide ((zt Z 61 p) = 33))))]) (rest := []) (c_27 p ((decide ((zt Z 61 p) = 33))) (d := d + 0)) rfl rfl rfl rfl ?_
        show zw fm sx (d + 3) 51 51 [some (.ref 89), some (.int p), some (.int (bI ((decide ((zt Z 61 p) = 33)))))] [] (f_27 Z p ((decide ((zt Z 61 p) = 33)))) Q
        refine zw_run 1 (pc' := 52) (loc' := [some (.ref 89), some (.int p), some (.int (bI ((decide ((zt Z 61 p) = 33)))))]) (stk' := [.int (bI ((decide ((zt Z 61 p) = 33))))]) (fun _ _ _ => rfl) ?_
        have J8 : ∀ (v7 : Int32), v7 = (if ((decide ((zt Z 61 p) = 33))) = true then (p + 2) else (p + 1) : Int32) → zw fm sx (d + 3) 51 64 [some (.ref 89), some (.int p), some (.int (bI ((decide ((zt Z 61 p) = 33)))))] [.int v7] (f_27 Z p ((decide ((zt Z 61 p) = 33)))) Q := by
          intro v7 ev7
          subst ev7
          refine zw_reti (i := .nop) rfl rfl ?_
          exact H
        refine zw_b0 (b := ((decide ((zt Z 61 p) = 33)))) (t1 := 55) (t2 := 61) (loc' := [some (.ref 89), some (.int p), some (.int (bI ((decide ((zt Z 61 p) = 33)))))]) (stk' := []) (fun _ _ _ => rfl) (fun c6 => ?_) (fun c6 => ?_)
        · skip
          refine zw_run 4 (pc' := 64) (loc' := [some (.ref 89), some (.int p), some (.int (bI ((decide ((zt Z 61 p) = 33)))))]) (stk' := [.int (p + 2)]) (fun _ _ _ => rfl) ?_
          exact J8 _ (by first | (rw [if_pos c6]; done) | (clear H J8; simp_all [bI]; done))
        · skip
          refine zw_run 3 (pc' := 64) (loc' := [some (.ref 89), some (.int p), some (.int (bI ((decide ((zt Z 61 p) = 33)))))]) (stk' := [.int (p + 1)]) (fun _ _ _ => rfl) ?_
          exact J8 _ (by first | (rw [if_neg c6]; done) | (clear H J8; simp_all [bI]; done))
      · rw [if_neg c5] at H
        refine zw_run 3 (pc' := 41) (loc' := [some (.ref 89), some (.int p), some (.int (bI ((decide ((zt Z 61 p) = 33)))))]) (stk' := [.int (p + 1)]) (fun _ _ _ => rfl) ?_
        refine zw_reti (i := .nop) rfl rfl ?_
        exact H
    · rw [if_neg c4] at H
      refine zw_run 1 (pc' := 43) (loc' := [some (.ref 89), some (.int p), some (.int (bI ((decide ((zt Z 61 p) = 33)))))]) (stk' := [.ref 89]) (fun _ _ _ => rfl) ?_
      refine zw_get (v := .ref 103) rfl rfl rfl ?_
      refine zw_run 2 (pc' := 48) (loc' := [some (.ref 89), some (.int p), some (.int (bI ((decide ((zt Z 61 p) = 33)))))]) (stk' := [.int (bI ((decide ((zt Z 61 p) = 33)))), .int p, .ref 103]) (fun _ _ _ => rfl) ?_
      refine zw_callf (As := [.ref 103, .int p, .int (bI ((decide ((zt Z 61 p) = 33))))]) (rest := []) (c_27 p ((decide ((zt Z 61 p) = 33))) (d := d + 0)) rfl rfl rfl rfl ?_
      show zw fm sx (d + 3) 51 51 [some (.ref 89), some (.int p), some (.int (bI ((decide ((zt Z 61 p) = 33)))))] [] (f_27 Z p ((decide ((zt Z 61 p) = 33)))) Q
      refine zw_run 1 (pc' := 52) (loc' := [some (.ref 89), some (.int p), some (.int (bI ((decide ((zt Z 61 p) = 33)))))]) (stk' := [.int (bI ((decide ((zt Z 61 p) = 33))))]) (fun _ _ _ => rfl) ?_
      have J11 : ∀ (v10 : Int32), v10 = (if ((decide ((zt Z 61 p) = 33))) = true then (p + 2) else (p + 1) : Int32) → zw fm sx (d + 3) 51 64 [some (.ref 89), some (.int p), some (.int (bI ((decide ((zt Z 61 p) = 33)))))] [.int v10] (f_27 Z p ((decide ((zt Z 61 p) = 33)))) Q := by
        intro v10 ev10
        subst ev10
        refine zw_reti (i := .nop) rfl rfl ?_
        exact H
      refine zw_b0 (b := ((decide ((zt Z 61 p) = 33)))) (t1 := 55) (t2 := 61) (loc' := [some (.ref 89), some (.int p), some (.int (bI ((decide ((zt Z 61 p) = 33)))))]) (stk' := []) (fun _ _ _ => rfl) (fun c9 => ?_) (fun c9 => ?_)
      · skip
        refine zw_run 4 (pc' := 64) (loc' := [some (.ref 89), some (.int p), some (.int (bI ((decide ((zt Z 61 p) = 33)))))]) (stk' := [.int (p + 2)]) (fun _ _ _ => rfl) ?_
        exact J11 _ (by first | (rw [if_pos c9]; done) | (clear H J11; simp_all [bI]; done))
      · skip
        refine zw_run 3 (pc' := 64) (loc' := [some (.ref 89), some (.int p), some (.int (bI ((decide ((zt Z 61 p) = 33)))))]) (stk' := [.int (p + 1)]) (fun _ _ _ => rfl) ?_
        exact J11 _ (by first | (rw [if_neg c9]; done) | (clear H J11; simp_all [bI]; done))
  refine zw_br (c := ¬ (zt Z 61 p) = 33) (t1 := 17) (t2 := 13) (loc' := [some (.ref 89), some (.int p), none]) (stk' := []) (fun _ _ _ => rfl) (fun c1 => ?_) (fun c1 => ?_)
  · skip
    refine zw_run 1 (pc' := 18) (loc' := [some (.ref 89), some (.int p), none]) (stk' := [.int 0]) (fun _ _ _ => rfl) ?_
    exact J3 _ (by clear H J3; first | (simp [bI, c1]; done) | (simp [bI, *]; done) | (simp_all [bI]; done) | (exfalso; simp_all; done))
  · skip
    refine zw_run 2 (pc' := 18) (loc' := [some (.ref 89), some (.int p), none]) (stk' := [.int 1]) (fun _ _ _ => rfl) ?_
    exact J3 _ (by clear H J3; first | (simp [bI, c1]; done) | (simp [bI, *]; done) | (simp_all [bI]; done) | (exfalso; simp_all; done))
theorem t_51 {fm : Value} {sx : Nat × (Nat → Int32)} {d : Nat} {Z : zr_Z} {Q : Option Value → zr_Z → Prop} (p : Int32) (HQ : Q (some (.int (f_51 Z p).1)) (f_51 Z p).2) : zw fm sx (d + 3) 51 0 [some (.ref 89), some (.int p), none] [] Z Q := by
  refine b_51 p ?_
  unfold f_51 at HQ
  by_cases c4 : ((decide ((zt Z 61 p) = 33))) = true
  · rw [if_pos c4] at HQ ⊢
    by_cases c5 : (zt Z 61 (p + 1)) = 91
    · rw [if_pos c5] at HQ ⊢
      exact HQ
    · rw [if_neg c5] at HQ ⊢
      exact HQ
  · rw [if_neg c4] at HQ ⊢
    exact HQ
theorem c_51 {fm : Value} {sx : Nat × (Nat → Int32)} {d : Nat} {Z : zr_Z} (p : Int32) : zl fm sx (d + 4) 51 [.ref 89, .int p] Z (fun r Z' => r = some (.int (f_51 Z p).1) ∧ Z' = (f_51 Z p).2) :=
  zl_of (nL := 3) (loc0 := [some (.ref 89), some (.int p), none]) rfl rfl rfl (t_51 p ⟨rfl, rfl⟩)
/-- MarkInlines$Reader.markBackslash -/
def f_57 (Z : zr_Z) (p : Int32) : Int32 × zr_Z := (if ¬ (zt Z 61 (p + 1)) = 10 then (if (f_92 Z p) = true then (p + 2, f_35 Z p (p + 1)) else (p + 1, Z)) else (p + 2, zput (f_35 Z p (p + 1)) 66 (p + 1) 2))
set_option maxRecDepth 100000 in
set_option maxHeartbeats 1000000 in
theorem b_57 {fm : Value} {sx : Nat × (Nat → Int32)} {d : Nat} {Z : zr_Z} {Q : Option Value → zr_Z → Prop} (p : Int32) (H : (if ¬ (zt Z 61 (p + 1)) = 10 then (if (f_92 Z p) = true then Q (some (.int (p + 2))) (f_35 Z p (p + 1)) else Q (some (.int (p + 1))) Z) else Q (some (.int (p + 2))) (zput (f_35 Z p (p + 1)) 66 (p + 1) 2))) : zw fm sx (d + 2) 57 0 [some (.ref 89), some (.int p)] [] Z Q := by
  refine zw_run 1 (pc' := 1) (loc' := [some (.ref 89), some (.int p)]) (stk' := [.ref 89]) (fun _ _ _ => rfl) ?_
  refine zw_get (v := .ref 61) rfl rfl rfl ?_
  refine zw_run 3 (pc' := 7) (loc' := [some (.ref 89), some (.int p)]) (stk' := [.int (p + 1), .ref 61]) (fun _ _ _ => rfl) ?_
  refine zw_callf (As := [.ref 61, .int (p + 1)]) (rest := []) (c_row_at (id := 61) (by decide) (p + 1) (d := d + 1)) rfl rfl rfl rfl ?_
  show zw fm sx (d + 2) 57 10 [some (.ref 89), some (.int p)] [.int (zt Z 61 (p + 1))] Z Q
  refine zw_run 1 (pc' := 12) (loc' := [some (.ref 89), some (.int p)]) (stk' := [.int 10, .int (zt Z 61 (p + 1))]) (fun _ _ _ => rfl) ?_
  refine zw_br (c := ¬ (zt Z 61 (p + 1)) = 10) (t1 := 44) (t2 := 15) (loc' := [some (.ref 89), some (.int p)]) (stk' := []) (fun _ _ _ => rfl) (fun c1 => ?_) (fun c1 => ?_)
  · rw [if_pos c1] at H
    refine zw_run 1 (pc' := 45) (loc' := [some (.ref 89), some (.int p)]) (stk' := [.ref 89]) (fun _ _ _ => rfl) ?_
    refine zw_get (v := .ref 63) rfl rfl rfl ?_
    refine zw_run 1 (pc' := 49) (loc' := [some (.ref 89), some (.int p)]) (stk' := [.int p, .ref 63]) (fun _ _ _ => rfl) ?_
    refine zw_callf (As := [.ref 63, .int p]) (rest := []) (c_92 p (d := d + 0)) rfl rfl rfl rfl ?_
    show zw fm sx (d + 2) 57 52 [some (.ref 89), some (.int p)] [.int (bI (f_92 Z p))] Z Q
    refine zw_b0 (b := (f_92 Z p)) (t1 := 55) (t2 := 70) (loc' := [some (.ref 89), some (.int p)]) (stk' := []) (fun _ _ _ => rfl) (fun c2 => ?_) (fun c2 => ?_)
    · rw [if_pos c2] at H
      refine zw_run 1 (pc' := 56) (loc' := [some (.ref 89), some (.int p)]) (stk' := [.ref 89]) (fun _ _ _ => rfl) ?_
      refine zw_get (v := .ref 65) rfl rfl rfl ?_
      refine zw_run 4 (pc' := 63) (loc' := [some (.ref 89), some (.int p)]) (stk' := [.int (p + 1), .int p, .ref 65]) (fun _ _ _ => rfl) ?_
      refine zw_callf (As := [.ref 65, .int p, .int (p + 1)]) (rest := []) (c_35 p (p + 1) (d := d + 0)) rfl rfl rfl rfl ?_
      show zw fm sx (d + 2) 57 66 [some (.ref 89), some (.int p)] [] (f_35 Z p (p + 1)) Q
      refine zw_run 3 (pc' := 69) (loc' := [some (.ref 89), some (.int p)]) (stk' := [.int (p + 2)]) (fun _ _ _ => rfl) ?_
      refine zw_reti (i := .nop) rfl rfl ?_
      exact H
    · rw [if_neg c2] at H
      refine zw_run 3 (pc' := 73) (loc' := [some (.ref 89), some (.int p)]) (stk' := [.int (p + 1)]) (fun _ _ _ => rfl) ?_
      refine zw_reti (i := .nop) rfl rfl ?_
      exact H
  · rw [if_neg c1] at H
    refine zw_run 1 (pc' := 16) (loc' := [some (.ref 89), some (.int p)]) (stk' := [.ref 89]) (fun _ _ _ => rfl) ?_
    refine zw_get (v := .ref 65) rfl rfl rfl ?_
    refine zw_run 4 (pc' := 23) (loc' := [some (.ref 89), some (.int p)]) (stk' := [.int (p + 1), .int p, .ref 65]) (fun _ _ _ => rfl) ?_
    refine zw_callf (As := [.ref 65, .int p, .int (p + 1)]) (rest := []) (c_35 p (p + 1) (d := d + 0)) rfl rfl rfl rfl ?_
    show zw fm sx (d + 2) 57 26 [some (.ref 89), some (.int p)] [] (f_35 Z p (p + 1)) Q
    refine zw_run 1 (pc' := 27) (loc' := [some (.ref 89), some (.int p)]) (stk' := [.ref 89]) (fun _ _ _ => rfl) ?_
    refine zw_get (v := .ref 65) rfl rfl rfl ?_
    refine zw_get (v := .ref 66) rfl rfl rfl ?_
    refine zw_run 4 (pc' := 37) (loc' := [some (.ref 89), some (.int p)]) (stk' := [.int 2, .int (p + 1), .ref 66]) (fun _ _ _ => rfl) ?_
    refine zw_callf (As := [.ref 66, .int (p + 1), .int 2]) (rest := []) (c_row_put (id := 66) (by decide) (p + 1) 2 (d := d + 1)) rfl rfl rfl rfl ?_
    show zw fm sx (d + 2) 57 40 [some (.ref 89), some (.int p)] [] (zput (f_35 Z p (p + 1)) 66 (p + 1) 2) Q
    refine zw_run 3 (pc' := 43) (loc' := [some (.ref 89), some (.int p)]) (stk' := [.int (p + 2)]) (fun _ _ _ => rfl) ?_
    refine zw_reti (i := .nop) rfl rfl ?_
    exact H
theorem t_57 {fm : Value} {sx : Nat × (Nat → Int32)} {d : Nat} {Z : zr_Z} {Q : Option Value → zr_Z → Prop} (p : Int32) (HQ : Q (some (.int (f_57 Z p).1)) (f_57 Z p).2) : zw fm sx (d + 2) 57 0 [some (.ref 89), some (.int p)] [] Z Q := by
  refine b_57 p ?_
  unfold f_57 at HQ
  by_cases c1 : ¬ (zt Z 61 (p + 1)) = 10
  · rw [if_pos c1] at HQ ⊢
    by_cases c2 : (f_92 Z p) = true
    · rw [if_pos c2] at HQ ⊢
      exact HQ
    · rw [if_neg c2] at HQ ⊢
      exact HQ
  · rw [if_neg c1] at HQ ⊢
    exact HQ
theorem c_57 {fm : Value} {sx : Nat × (Nat → Int32)} {d : Nat} {Z : zr_Z} (p : Int32) : zl fm sx (d + 3) 57 [.ref 89, .int p] Z (fun r Z' => r = some (.int (f_57 Z p).1) ∧ Z' = (f_57 Z p).2) :=
  zl_of (nL := 2) (loc0 := [some (.ref 89), some (.int p)]) rfl rfl rfl (t_57 p ⟨rfl, rfl⟩)
/-- MarkInlines$Reader.markAngle -/
def f_60 (Z : zr_Z) (p : Int32) : Int32 × zr_Z := (let x4 : Int32 := (if (f_86 Z p) = (-1) then (f_87 Z p) else (f_86 Z p) : Int32); (if x4 = (-1) then (if (f_89 Z p) = true then (p + 1, f_52 Z 2 p) else (p + 1, Z)) else (let Z10 : zr_Z := f_37 Z (if (f_86 Z p) = (-1) then 3 else 2 : Int32) (-1) (p + 1) (x4 - 1) 0 0; (x4, f_28 (f_36 Z10 6 p (x4 - 1))))))
set_option maxRecDepth 100000 in
set_option maxHeartbeats 1000000 in
theorem b_60 {fm : Value} {sx : Nat × (Nat → Int32)} {d : Nat} {Z : zr_Z} {Q : Option Value → zr_Z → Prop} (p : Int32) (H : (∀ x4 : Int32, x4 = (if (f_86 Z p) = (-1) then (f_87 Z p) else (f_86 Z p) : Int32) → (if x4 = (-1) then (if (f_89 Z p) = true then Q (some (.int (p + 1))) (f_52 Z 2 p) else Q (some (.int (p + 1))) Z) else (∀ Z10 : zr_Z, Z10 = f_37 Z (if (f_86 Z p) = (-1) then 3 else 2 : Int32) (-1) (p + 1) (x4 - 1) 0 0 → Q (some (.int x4)) (f_28 (f_36 Z10 6 p (x4 - 1))))))) : zw fm sx (d + 4) 60 0 [some (.ref 89), some (.int p), none, none] [] Z Q := by
  refine zw_run 1 (pc' := 1) (loc' := [some (.ref 89), some (.int p), none, none]) (stk' := [.ref 89]) (fun _ _ _ => rfl) ?_
  refine zw_get (v := .ref 63) rfl rfl rfl ?_
  refine zw_run 1 (pc' := 5) (loc' := [some (.ref 89), some (.int p), none, none]) (stk' := [.int p, .ref 63]) (fun _ _ _ => rfl) ?_
  refine zw_callf (As := [.ref 63, .int p]) (rest := []) (c_86 p (d := d + 1)) rfl rfl rfl rfl ?_
  show zw fm sx (d + 4) 60 8 [some (.ref 89), some (.int p), none, none] [.int (f_86 Z p)] Z Q
  refine zw_run 3 (pc' := 11) (loc' := [some (.ref 89), some (.int p), some (.int (f_86 Z p)), none]) (stk' := [.int (-1), .int (f_86 Z p)]) (fun _ _ _ => rfl) ?_
  have J3 : ∀ (v2 : Int32), v2 = (if (f_86 Z p) = (-1) then (f_87 Z p) else (f_86 Z p) : Int32) → zw fm sx (d + 4) 60 26 [some (.ref 89), some (.int p), some (.int (f_86 Z p)), none] [.int v2] Z Q := by
    intro v2 ev2
    subst ev2
    refine zw_run 1 (pc' := 27) (loc' := [some (.ref 89), some (.int p), some (.int (f_86 Z p)), some (.int (if (f_86 Z p) = (-1) then (f_87 Z p) else (f_86 Z p) : Int32))]) (stk' := []) (fun _ _ _ => rfl) ?_
    obtain ⟨x4, hx4⟩ : ∃ w : Int32, w = (if (f_86 Z p) = (-1) then (f_87 Z p) else (f_86 Z p) : Int32) := ⟨_, rfl⟩
    rw [← hx4]
    have H := H x4 hx4
    refine zw_run 2 (pc' := 29) (loc' := [some (.ref 89), some (.int p), some (.int (f_86 Z p)), some (.int x4)]) (stk' := [.int (-1), .int x4]) (fun _ _ _ => rfl) ?_
    refine zw_br (c := x4 = (-1)) (t1 := 80) (t2 := 32) (loc' := [some (.ref 89), some (.int p), some (.int (f_86 Z p)), some (.int x4)]) (stk' := []) (fun _ _ _ => rfl) (fun c5 => ?_) (fun c5 => ?_)
    · rw [if_pos c5] at H
      refine zw_run 1 (pc' := 81) (loc' := [some (.ref 89), some (.int p), some (.int (f_86 Z p)), some (.int x4)]) (stk' := [.ref 89]) (fun _ _ _ => rfl) ?_
      refine zw_get (v := .ref 63) rfl rfl rfl ?_
      refine zw_run 1 (pc' := 85) (loc' := [some (.ref 89), some (.int p), some (.int (f_86 Z p)), some (.int x4)]) (stk' := [.int p, .ref 63]) (fun _ _ _ => rfl) ?_
      refine zw_callf (As := [.ref 63, .int p]) (rest := []) (c_89 p (d := d + 1)) rfl rfl rfl rfl ?_
      show zw fm sx (d + 4) 60 88 [some (.ref 89), some (.int p), some (.int (f_86 Z p)), some (.int x4)] [.int (bI (f_89 Z p))] Z Q
      refine zw_b0 (b := (f_89 Z p)) (t1 := 91) (t2 := 97) (loc' := [some (.ref 89), some (.int p), some (.int (f_86 Z p)), some (.int x4)]) (stk' := []) (fun _ _ _ => rfl) (fun c6 => ?_) (fun c6 => ?_)
      · rw [if_pos c6] at H
        refine zw_run 3 (pc' := 94) (loc' := [some (.ref 89), some (.int p), some (.int (f_86 Z p)), some (.int x4)]) (stk' := [.int p, .int 2, .ref 89]) (fun _ _ _ => rfl) ?_
        refine zw_callf (As := [.ref 89, .int 2, .int p]) (rest := []) (c_52 2 p (d := d + 3)) rfl rfl rfl rfl ?_
        show zw fm sx (d + 4) 60 97 [some (.ref 89), some (.int p), some (.int (f_86 Z p)), some (.int x4)] [] (f_52 Z 2 p) Q
        refine zw_run 3 (pc' := 100) (loc' := [some (.ref 89), some (.int p), some (.int (f_86 Z p)), some (.int x4)]) (stk' := [.int (p + 1)]) (fun _ _ _ => rfl) ?_
        refine zw_reti (i := .nop) rfl rfl ?_
        exact H
      · rw [if_neg c6] at H
        refine zw_run 3 (pc' := 100) (loc' := [some (.ref 89), some (.int p), some (.int (f_86 Z p)), some (.int x4)]) (stk' := [.int (p + 1)]) (fun _ _ _ => rfl) ?_
        refine zw_reti (i := .nop) rfl rfl ?_
        exact H
    · rw [if_neg c5] at H
      refine zw_run 1 (pc' := 33) (loc' := [some (.ref 89), some (.int p), some (.int (f_86 Z p)), some (.int x4)]) (stk' := [.ref 89]) (fun _ _ _ => rfl) ?_
      refine zw_get (v := .ref 65) rfl rfl rfl ?_
      refine zw_run 2 (pc' := 38) (loc' := [some (.ref 89), some (.int p), some (.int (f_86 Z p)), some (.int x4)]) (stk' := [.int (-1), .int (f_86 Z p), .ref 65]) (fun _ _ _ => rfl) ?_
      have J9 : ∀ (v8 : Int32), v8 = (if (f_86 Z p) = (-1) then 3 else 2 : Int32) → zw fm sx (d + 4) 60 46 [some (.ref 89), some (.int p), some (.int (f_86 Z p)), some (.int x4)] [.int v8, .ref 65] Z Q := by
        intro v8 ev8
        subst ev8
        refine zw_run 9 (pc' := 55) (loc' := [some (.ref 89), some (.int p), some (.int (f_86 Z p)), some (.int x4)]) (stk' := [.int 0, .int 0, .int (x4 - 1), .int (p + 1), .int (-1), .int (if (f_86 Z p) = (-1) then 3 else 2 : Int32), .ref 65]) (fun _ _ _ => rfl) ?_
        refine zw_callf (As := [.ref 65, .int (if (f_86 Z p) = (-1) then 3 else 2 : Int32), .int (-1), .int (p + 1), .int (x4 - 1), .int 0, .int 0]) (rest := []) (c_37 (if (f_86 Z p) = (-1) then 3 else 2 : Int32) (-1) (p + 1) (x4 - 1) 0 0 (d := d + 1)) rfl rfl rfl rfl ?_
        show zw fm sx (d + 4) 60 58 [some (.ref 89), some (.int p), some (.int (f_86 Z p)), some (.int x4)] [] (f_37 Z (if (f_86 Z p) = (-1) then 3 else 2 : Int32) (-1) (p + 1) (x4 - 1) 0 0) Q
        obtain ⟨Z10, hZ10⟩ : ∃ w : zr_Z, w = f_37 Z (if (f_86 Z p) = (-1) then 3 else 2 : Int32) (-1) (p + 1) (x4 - 1) 0 0 := ⟨_, rfl⟩
        rw [← hZ10]
        have H := H Z10 hZ10
        refine zw_run 1 (pc' := 59) (loc' := [some (.ref 89), some (.int p), some (.int (f_86 Z p)), some (.int x4)]) (stk' := [.ref 89]) (fun _ _ _ => rfl) ?_
        refine zw_get (v := .ref 65) rfl rfl rfl ?_
        refine zw_run 5 (pc' := 68) (loc' := [some (.ref 89), some (.int p), some (.int (f_86 Z p)), some (.int x4)]) (stk' := [.int (x4 - 1), .int p, .int 6, .ref 65]) (fun _ _ _ => rfl) ?_
        refine zw_callf (As := [.ref 65, .int 6, .int p, .int (x4 - 1)]) (rest := []) (c_36 6 p (x4 - 1) (d := d + 2)) rfl rfl rfl rfl ?_
        show zw fm sx (d + 4) 60 71 [some (.ref 89), some (.int p), some (.int (f_86 Z p)), some (.int x4)] [] (f_36 Z10 6 p (x4 - 1)) Q
        refine zw_run 1 (pc' := 72) (loc' := [some (.ref 89), some (.int p), some (.int (f_86 Z p)), some (.int x4)]) (stk' := [.ref 89]) (fun _ _ _ => rfl) ?_
        refine zw_get (v := .ref 103) rfl rfl rfl ?_
        refine zw_callf (As := [.ref 103]) (rest := []) (c_28 (d := d + 2)) rfl rfl rfl rfl ?_
        show zw fm sx (d + 4) 60 78 [some (.ref 89), some (.int p), some (.int (f_86 Z p)), some (.int x4)] [] (f_28 (f_36 Z10 6 p (x4 - 1))) Q
        refine zw_run 1 (pc' := 79) (loc' := [some (.ref 89), some (.int p), some (.int (f_86 Z p)), some (.int x4)]) (stk' := [.int x4]) (fun _ _ _ => rfl) ?_
        refine zw_reti (i := .nop) rfl rfl ?_
        exact H
      refine zw_br (c := (f_86 Z p) = (-1)) (t1 := 45) (t2 := 41) (loc' := [some (.ref 89), some (.int p), some (.int (f_86 Z p)), some (.int x4)]) (stk' := [.ref 65]) (fun _ _ _ => rfl) (fun c7 => ?_) (fun c7 => ?_)
      · skip
        refine zw_run 1 (pc' := 46) (loc' := [some (.ref 89), some (.int p), some (.int (f_86 Z p)), some (.int x4)]) (stk' := [.int 3, .ref 65]) (fun _ _ _ => rfl) ?_
        exact J9 _ (by first | (rw [if_pos c7]; done) | (clear H J9; simp_all [bI]; done))
      · skip
        refine zw_run 2 (pc' := 46) (loc' := [some (.ref 89), some (.int p), some (.int (f_86 Z p)), some (.int x4)]) (stk' := [.int 2, .ref 65]) (fun _ _ _ => rfl) ?_
        exact J9 _ (by first | (rw [if_neg c7]; done) | (clear H J9; simp_all [bI]; done))
  refine zw_br (c := (f_86 Z p) = (-1)) (t1 := 18) (t2 := 14) (loc' := [some (.ref 89), some (.int p), some (.int (f_86 Z p)), none]) (stk' := []) (fun _ _ _ => rfl) (fun c1 => ?_) (fun c1 => ?_)
  · skip
    refine zw_run 1 (pc' := 19) (loc' := [some (.ref 89), some (.int p), some (.int (f_86 Z p)), none]) (stk' := [.ref 89]) (fun _ _ _ => rfl) ?_
    refine zw_get (v := .ref 63) rfl rfl rfl ?_
    refine zw_run 1 (pc' := 23) (loc' := [some (.ref 89), some (.int p), some (.int (f_86 Z p)), none]) (stk' := [.int p, .ref 63]) (fun _ _ _ => rfl) ?_
    refine zw_callf (As := [.ref 63, .int p]) (rest := []) (c_87 p (d := d + 0)) rfl rfl rfl rfl ?_
    show zw fm sx (d + 4) 60 26 [some (.ref 89), some (.int p), some (.int (f_86 Z p)), none] [.int (f_87 Z p)] Z Q
    exact J3 _ (by first | (rw [if_pos c1]; done) | (clear H J3; simp_all [bI]; done))
  · skip
    refine zw_run 2 (pc' := 26) (loc' := [some (.ref 89), some (.int p), some (.int (f_86 Z p)), none]) (stk' := [.int (f_86 Z p)]) (fun _ _ _ => rfl) ?_
    exact J3 _ (by first | (rw [if_neg c1]; done) | (clear H J3; simp_all [bI]; done))
theorem t_60 {fm : Value} {sx : Nat × (Nat → Int32)} {d : Nat} {Z : zr_Z} {Q : Option Value → zr_Z → Prop} (p : Int32) (HQ : Q (some (.int (f_60 Z p).1)) (f_60 Z p).2) : zw fm sx (d + 4) 60 0 [some (.ref 89), some (.int p), none, none] [] Z Q := by
  refine b_60 p ?_
  unfold f_60 at HQ
  intro x4 hx4
  rw [← hx4] at HQ
  try dsimp only at HQ
  by_cases c5 : x4 = (-1)
  · rw [if_pos c5] at HQ ⊢
    by_cases c6 : (f_89 Z p) = true
    · rw [if_pos c6] at HQ ⊢
      exact HQ
    · rw [if_neg c6] at HQ ⊢
      exact HQ
  · rw [if_neg c5] at HQ ⊢
    intro Z10 hZ10
    rw [← hZ10] at HQ
    try dsimp only at HQ
    exact HQ
theorem c_60 {fm : Value} {sx : Nat × (Nat → Int32)} {d : Nat} {Z : zr_Z} (p : Int32) : zl fm sx (d + 5) 60 [.ref 89, .int p] Z (fun r Z' => r = some (.int (f_60 Z p).1) ∧ Z' = (f_60 Z p).2) :=
  zl_of (nL := 4) (loc0 := [some (.ref 89), some (.int p), none, none]) rfl rfl rfl (t_60 p ⟨rfl, rfl⟩)
