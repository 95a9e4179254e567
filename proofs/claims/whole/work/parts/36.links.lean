/-! Links, Nodes, Reader: the simple ones; walks written by wip/whole/gen_class.py -/
/-- MarkInlines$Links.forgetFrom -/
def f_26 (Z : zr_Z) (b : Int32) : zr_Z := (zcut (zcut (zcut (zcut (zcut Z 104 b) 106 b) 108 b) 110 b) 112 b)
set_option maxRecDepth 100000 in
set_option maxHeartbeats 1000000 in
theorem b_26 {fm : Value} {sx : Nat × (Nat → Int32)} {d : Nat} {Z : zr_Z} {Q : Option Value → zr_Z → Prop} (b : Int32) (H : Q none (zcut (zcut (zcut (zcut (zcut Z 104 b) 106 b) 108 b) 110 b) 112 b)) : zw fm sx (d + 1) 26 0 [some (.ref 103), some (.int b)] [] Z Q := by
  refine zw_run 1 (pc' := 1) (loc' := [some (.ref 103), some (.int b)]) (stk' := [.ref 103]) (fun _ _ _ => rfl) ?_
  refine zw_get (v := .ref 104) rfl rfl rfl ?_
  refine zw_run 1 (pc' := 5) (loc' := [some (.ref 103), some (.int b)]) (stk' := [.int b, .ref 104]) (fun _ _ _ => rfl) ?_
  refine zw_callf (As := [.ref 104, .int b]) (rest := []) (c_row_cut (id := 104) (by decide) b (d := d + 0)) rfl rfl rfl rfl ?_
  show zw fm sx (d + 1) 26 8 [some (.ref 103), some (.int b)] [] (zcut Z 104 b) Q
  refine zw_run 1 (pc' := 9) (loc' := [some (.ref 103), some (.int b)]) (stk' := [.ref 103]) (fun _ _ _ => rfl) ?_
  refine zw_get (v := .ref 106) rfl rfl rfl ?_
  refine zw_run 1 (pc' := 13) (loc' := [some (.ref 103), some (.int b)]) (stk' := [.int b, .ref 106]) (fun _ _ _ => rfl) ?_
  refine zw_callf (As := [.ref 106, .int b]) (rest := []) (c_row_cut (id := 106) (by decide) b (d := d + 0)) rfl rfl rfl rfl ?_
  show zw fm sx (d + 1) 26 16 [some (.ref 103), some (.int b)] [] (zcut (zcut Z 104 b) 106 b) Q
  refine zw_run 1 (pc' := 17) (loc' := [some (.ref 103), some (.int b)]) (stk' := [.ref 103]) (fun _ _ _ => rfl) ?_
  refine zw_get (v := .ref 108) rfl rfl rfl ?_
  refine zw_run 1 (pc' := 21) (loc' := [some (.ref 103), some (.int b)]) (stk' := [.int b, .ref 108]) (fun _ _ _ => rfl) ?_
  refine zw_callf (As := [.ref 108, .int b]) (rest := []) (c_row_cut (id := 108) (by decide) b (d := d + 0)) rfl rfl rfl rfl ?_
  show zw fm sx (d + 1) 26 24 [some (.ref 103), some (.int b)] [] (zcut (zcut (zcut Z 104 b) 106 b) 108 b) Q
  refine zw_run 1 (pc' := 25) (loc' := [some (.ref 103), some (.int b)]) (stk' := [.ref 103]) (fun _ _ _ => rfl) ?_
  refine zw_get (v := .ref 110) rfl rfl rfl ?_
  refine zw_run 1 (pc' := 29) (loc' := [some (.ref 103), some (.int b)]) (stk' := [.int b, .ref 110]) (fun _ _ _ => rfl) ?_
  refine zw_callf (As := [.ref 110, .int b]) (rest := []) (c_row_cut (id := 110) (by decide) b (d := d + 0)) rfl rfl rfl rfl ?_
  show zw fm sx (d + 1) 26 32 [some (.ref 103), some (.int b)] [] (zcut (zcut (zcut (zcut Z 104 b) 106 b) 108 b) 110 b) Q
  refine zw_run 1 (pc' := 33) (loc' := [some (.ref 103), some (.int b)]) (stk' := [.ref 103]) (fun _ _ _ => rfl) ?_
  refine zw_get (v := .ref 112) rfl rfl rfl ?_
  refine zw_run 1 (pc' := 37) (loc' := [some (.ref 103), some (.int b)]) (stk' := [.int b, .ref 112]) (fun _ _ _ => rfl) ?_
  refine zw_callf (As := [.ref 112, .int b]) (rest := []) (c_row_cut (id := 112) (by decide) b (d := d + 0)) rfl rfl rfl rfl ?_
  show zw fm sx (d + 1) 26 40 [some (.ref 103), some (.int b)] [] (zcut (zcut (zcut (zcut (zcut Z 104 b) 106 b) 108 b) 110 b) 112 b) Q
  refine zw_retv rfl rfl ?_
  exact H
theorem t_26 {fm : Value} {sx : Nat × (Nat → Int32)} {d : Nat} {Z : zr_Z} {Q : Option Value → zr_Z → Prop} (b : Int32) (HQ : Q none (f_26 Z b)) : zw fm sx (d + 1) 26 0 [some (.ref 103), some (.int b)] [] Z Q := by
  refine b_26 b ?_
  unfold f_26 at HQ
  exact HQ
theorem c_26 {fm : Value} {sx : Nat × (Nat → Int32)} {d : Nat} {Z : zr_Z} (b : Int32) : zl fm sx (d + 2) 26 [.ref 103, .int b] Z (fun r Z' => r = none ∧ Z' = (f_26 Z b)) :=
  zl_of (nL := 2) (loc0 := [some (.ref 103), some (.int b)]) rfl rfl rfl (t_26 b ⟨rfl, rfl⟩)
/-- MarkInlines$Links.startOver -/
def f_25 (Z : zr_Z)  : zr_Z := (zsc (f_26 Z 0) 1 0)
set_option maxRecDepth 100000 in
set_option maxHeartbeats 1000000 in
theorem b_25 {fm : Value} {sx : Nat × (Nat → Int32)} {d : Nat} {Z : zr_Z} {Q : Option Value → zr_Z → Prop}  (H : Q none (zsc (f_26 Z 0) 1 0)) : zw fm sx (d + 2) 25 0 [some (.ref 103)] [] Z Q := by
  refine zw_run 2 (pc' := 2) (loc' := [some (.ref 103)]) (stk' := [.int 0, .ref 103]) (fun _ _ _ => rfl) ?_
  refine zw_callf (As := [.ref 103, .int 0]) (rest := []) (c_26 0 (d := d + 0)) rfl rfl rfl rfl ?_
  show zw fm sx (d + 2) 25 5 [some (.ref 103)] [] (f_26 Z 0) Q
  refine zw_run 2 (pc' := 7) (loc' := [some (.ref 103)]) (stk' := [.int 0, .ref 103]) (fun _ _ _ => rfl) ?_
  refine zw_put (j := 1) rfl rfl rfl rfl (zr_obup1 _ _) ?_
  show zw fm sx (d + 2) 25 10 [some (.ref 103)] [] (zsc (f_26 Z 0) 1 0) Q
  refine zw_retv rfl rfl ?_
  exact H
theorem t_25 {fm : Value} {sx : Nat × (Nat → Int32)} {d : Nat} {Z : zr_Z} {Q : Option Value → zr_Z → Prop}  (HQ : Q none (f_25 Z)) : zw fm sx (d + 2) 25 0 [some (.ref 103)] [] Z Q := by
  refine b_25 ?_
  unfold f_25 at HQ
  exact HQ
theorem c_25 {fm : Value} {sx : Nat × (Nat → Int32)} {d : Nat} {Z : zr_Z}  : zl fm sx (d + 3) 25 [.ref 103] Z (fun r Z' => r = none ∧ Z' = (f_25 Z)) :=
  zl_of (nL := 1) (loc0 := [some (.ref 103)]) rfl rfl rfl (t_25 ⟨rfl, rfl⟩)
/-- MarkInlines$Links.meet -/
def f_27 (Z : zr_Z) (p : Int32) (im : Bool) : zr_Z := (zadd (zadd (zadd (zadd (zadd (zsc Z 1 ((zc Z 1) + 1)) 104 p) 106 (bI (im))) 108 0) 110 (f_76 (zadd (zadd (zadd (zsc Z 1 ((zc Z 1) + 1)) 104 p) 106 (bI (im))) 108 0))) 112 (zc (zadd (zadd (zadd (zadd (zsc Z 1 ((zc Z 1) + 1)) 104 p) 106 (bI (im))) 108 0) 110 (f_76 (zadd (zadd (zadd (zsc Z 1 ((zc Z 1) + 1)) 104 p) 106 (bI (im))) 108 0))) 1))
set_option maxRecDepth 100000 in
set_option maxHeartbeats 1000000 in
theorem b_27 {fm : Value} {sx : Nat × (Nat → Int32)} {d : Nat} {Z : zr_Z} {Q : Option Value → zr_Z → Prop} (p : Int32) (im : Bool) (H : Q none (zadd (zadd (zadd (zadd (zadd (zsc Z 1 ((zc Z 1) + 1)) 104 p) 106 (bI (im))) 108 0) 110 (f_76 (zadd (zadd (zadd (zsc Z 1 ((zc Z 1) + 1)) 104 p) 106 (bI (im))) 108 0))) 112 (zc (zadd (zadd (zadd (zadd (zsc Z 1 ((zc Z 1) + 1)) 104 p) 106 (bI (im))) 108 0) 110 (f_76 (zadd (zadd (zadd (zsc Z 1 ((zc Z 1) + 1)) 104 p) 106 (bI (im))) 108 0))) 1))) : zw fm sx (d + 2) 27 0 [some (.ref 103), some (.int p), some (.int (bI im))] [] Z Q := by
  refine zw_run 2 (pc' := 2) (loc' := [some (.ref 103), some (.int p), some (.int (bI im))]) (stk' := [.ref 103, .ref 103]) (fun _ _ _ => rfl) ?_
  refine zw_get (v := .int (zc Z 1)) rfl rfl rfl ?_
  refine zw_run 2 (pc' := 7) (loc' := [some (.ref 103), some (.int p), some (.int (bI im))]) (stk' := [.int ((zc Z 1) + 1), .ref 103]) (fun _ _ _ => rfl) ?_
  refine zw_put (j := 1) rfl rfl rfl rfl (zr_obup1 _ _) ?_
  show zw fm sx (d + 2) 27 10 [some (.ref 103), some (.int p), some (.int (bI im))] [] (zsc Z 1 ((zc Z 1) + 1)) Q
  refine zw_run 1 (pc' := 11) (loc' := [some (.ref 103), some (.int p), some (.int (bI im))]) (stk' := [.ref 103]) (fun _ _ _ => rfl) ?_
  refine zw_get (v := .ref 104) rfl rfl rfl ?_
  refine zw_run 1 (pc' := 15) (loc' := [some (.ref 103), some (.int p), some (.int (bI im))]) (stk' := [.int p, .ref 104]) (fun _ _ _ => rfl) ?_
  refine zw_callf (As := [.ref 104, .int p]) (rest := []) (c_row_add (id := 104) (by decide) p (d := d + 0)) rfl rfl rfl rfl ?_
  show zw fm sx (d + 2) 27 18 [some (.ref 103), some (.int p), some (.int (bI im))] [] (zadd (zsc Z 1 ((zc Z 1) + 1)) 104 p) Q
  refine zw_run 1 (pc' := 19) (loc' := [some (.ref 103), some (.int p), some (.int (bI im))]) (stk' := [.ref 103]) (fun _ _ _ => rfl) ?_
  refine zw_get (v := .ref 106) rfl rfl rfl ?_
  refine zw_run 1 (pc' := 23) (loc' := [some (.ref 103), some (.int p), some (.int (bI im))]) (stk' := [.int (bI im), .ref 106]) (fun _ _ _ => rfl) ?_
  have J3 : ∀ (v2 : Int32), v2 = (bI (im)) → zw fm sx (d + 2) 27 31 [some (.ref 103), some (.int p), some (.int (bI im))] [.int v2, .ref 106] (zadd (zsc Z 1 ((zc Z 1) + 1)) 104 p) Q := by
    intro v2 ev2
    subst ev2
    refine zw_callf (As := [.ref 106, .int (bI (im))]) (rest := []) (c_row_add (id := 106) (by decide) (bI (im)) (d := d + 0)) rfl rfl rfl rfl ?_
    show zw fm sx (d + 2) 27 34 [some (.ref 103), some (.int p), some (.int (bI im))] [] (zadd (zadd (zsc Z 1 ((zc Z 1) + 1)) 104 p) 106 (bI (im))) Q
    refine zw_run 1 (pc' := 35) (loc' := [some (.ref 103), some (.int p), some (.int (bI im))]) (stk' := [.ref 103]) (fun _ _ _ => rfl) ?_
    refine zw_get (v := .ref 108) rfl rfl rfl ?_
    refine zw_run 1 (pc' := 39) (loc' := [some (.ref 103), some (.int p), some (.int (bI im))]) (stk' := [.int 0, .ref 108]) (fun _ _ _ => rfl) ?_
    refine zw_callf (As := [.ref 108, .int 0]) (rest := []) (c_row_add (id := 108) (by decide) 0 (d := d + 0)) rfl rfl rfl rfl ?_
    show zw fm sx (d + 2) 27 42 [some (.ref 103), some (.int p), some (.int (bI im))] [] (zadd (zadd (zadd (zsc Z 1 ((zc Z 1) + 1)) 104 p) 106 (bI (im))) 108 0) Q
    refine zw_run 1 (pc' := 43) (loc' := [some (.ref 103), some (.int p), some (.int (bI im))]) (stk' := [.ref 103]) (fun _ _ _ => rfl) ?_
    refine zw_get (v := .ref 110) rfl rfl rfl ?_
    refine zw_run 1 (pc' := 47) (loc' := [some (.ref 103), some (.int p), some (.int (bI im))]) (stk' := [.ref 103, .ref 110]) (fun _ _ _ => rfl) ?_
    refine zw_get (v := .ref 90) rfl rfl rfl ?_
    refine zw_callf (As := [.ref 90]) (rest := [.ref 110]) (c_76 (d := d + 0)) rfl rfl rfl rfl ?_
    show zw fm sx (d + 2) 27 53 [some (.ref 103), some (.int p), some (.int (bI im))] [.int (f_76 (zadd (zadd (zadd (zsc Z 1 ((zc Z 1) + 1)) 104 p) 106 (bI (im))) 108 0)), .ref 110] (zadd (zadd (zadd (zsc Z 1 ((zc Z 1) + 1)) 104 p) 106 (bI (im))) 108 0) Q
    refine zw_callf (As := [.ref 110, .int (f_76 (zadd (zadd (zadd (zsc Z 1 ((zc Z 1) + 1)) 104 p) 106 (bI (im))) 108 0))]) (rest := []) (c_row_add (id := 110) (by decide) (f_76 (zadd (zadd (zadd (zsc Z 1 ((zc Z 1) + 1)) 104 p) 106 (bI (im))) 108 0)) (d := d + 0)) rfl rfl rfl rfl ?_
    show zw fm sx (d + 2) 27 56 [some (.ref 103), some (.int p), some (.int (bI im))] [] (zadd (zadd (zadd (zadd (zsc Z 1 ((zc Z 1) + 1)) 104 p) 106 (bI (im))) 108 0) 110 (f_76 (zadd (zadd (zadd (zsc Z 1 ((zc Z 1) + 1)) 104 p) 106 (bI (im))) 108 0))) Q
    refine zw_run 1 (pc' := 57) (loc' := [some (.ref 103), some (.int p), some (.int (bI im))]) (stk' := [.ref 103]) (fun _ _ _ => rfl) ?_
    refine zw_get (v := .ref 112) rfl rfl rfl ?_
    refine zw_run 1 (pc' := 61) (loc' := [some (.ref 103), some (.int p), some (.int (bI im))]) (stk' := [.ref 103, .ref 112]) (fun _ _ _ => rfl) ?_
    refine zw_get (v := .int (zc (zadd (zadd (zadd (zadd (zsc Z 1 ((zc Z 1) + 1)) 104 p) 106 (bI (im))) 108 0) 110 (f_76 (zadd (zadd (zadd (zsc Z 1 ((zc Z 1) + 1)) 104 p) 106 (bI (im))) 108 0))) 1)) rfl rfl rfl ?_
    refine zw_callf (As := [.ref 112, .int (zc (zadd (zadd (zadd (zadd (zsc Z 1 ((zc Z 1) + 1)) 104 p) 106 (bI (im))) 108 0) 110 (f_76 (zadd (zadd (zadd (zsc Z 1 ((zc Z 1) + 1)) 104 p) 106 (bI (im))) 108 0))) 1)]) (rest := []) (c_row_add (id := 112) (by decide) (zc (zadd (zadd (zadd (zadd (zsc Z 1 ((zc Z 1) + 1)) 104 p) 106 (bI (im))) 108 0) 110 (f_76 (zadd (zadd (zadd (zsc Z 1 ((zc Z 1) + 1)) 104 p) 106 (bI (im))) 108 0))) 1) (d := d + 0)) rfl rfl rfl rfl ?_
    show zw fm sx (d + 2) 27 67 [some (.ref 103), some (.int p), some (.int (bI im))] [] (zadd (zadd (zadd (zadd (zadd (zsc Z 1 ((zc Z 1) + 1)) 104 p) 106 (bI (im))) 108 0) 110 (f_76 (zadd (zadd (zadd (zsc Z 1 ((zc Z 1) + 1)) 104 p) 106 (bI (im))) 108 0))) 112 (zc (zadd (zadd (zadd (zadd (zsc Z 1 ((zc Z 1) + 1)) 104 p) 106 (bI (im))) 108 0) 110 (f_76 (zadd (zadd (zadd (zsc Z 1 ((zc Z 1) + 1)) 104 p) 106 (bI (im))) 108 0))) 1)) Q
    refine zw_retv rfl rfl ?_
    exact H
  refine zw_b0 (b := im) (t1 := 26) (t2 := 30) (loc' := [some (.ref 103), some (.int p), some (.int (bI im))]) (stk' := [.ref 106]) (fun _ _ _ => rfl) (fun c1 => ?_) (fun c1 => ?_)
  · skip
    refine zw_run 2 (pc' := 31) (loc' := [some (.ref 103), some (.int p), some (.int (bI im))]) (stk' := [.int 1, .ref 106]) (fun _ _ _ => rfl) ?_
    exact J3 _ (by clear H J3; first | (simp [bI, c1]; done) | (simp [bI, *]; done) | (simp_all [bI]; done) | (exfalso; simp_all; done))
  · skip
    refine zw_run 1 (pc' := 31) (loc' := [some (.ref 103), some (.int p), some (.int (bI im))]) (stk' := [.int 0, .ref 106]) (fun _ _ _ => rfl) ?_
    exact J3 _ (by clear H J3; first | (simp [bI, c1]; done) | (simp [bI, *]; done) | (simp_all [bI]; done) | (exfalso; simp_all; done))
theorem t_27 {fm : Value} {sx : Nat × (Nat → Int32)} {d : Nat} {Z : zr_Z} {Q : Option Value → zr_Z → Prop} (p : Int32) (im : Bool) (HQ : Q none (f_27 Z p im)) : zw fm sx (d + 2) 27 0 [some (.ref 103), some (.int p), some (.int (bI im))] [] Z Q := by
  refine b_27 p im ?_
  unfold f_27 at HQ
  exact HQ
theorem c_27 {fm : Value} {sx : Nat × (Nat → Int32)} {d : Nat} {Z : zr_Z} (p : Int32) (im : Bool) : zl fm sx (d + 3) 27 [.ref 103, .int p, .int (bI im)] Z (fun r Z' => r = none ∧ Z' = (f_27 Z p im)) :=
  zl_of (nL := 3) (loc0 := [some (.ref 103), some (.int p), some (.int (bI im))]) rfl rfl rfl (t_27 p im ⟨rfl, rfl⟩)
/-- MarkInlines$Links.textFrom -/
def f_30 (Z : zr_Z) (k : Int32) : Int32 := (((zt Z 104 k) + 1) + (zt Z 106 k))
set_option maxRecDepth 100000 in
set_option maxHeartbeats 1000000 in
theorem b_30 {fm : Value} {sx : Nat × (Nat → Int32)} {d : Nat} {Z : zr_Z} {Q : Option Value → zr_Z → Prop} (k : Int32) (H : Q (some (.int (((zt Z 104 k) + 1) + (zt Z 106 k)))) Z) : zw fm sx (d + 1) 30 0 [some (.ref 103), some (.int k)] [] Z Q := by
  refine zw_run 1 (pc' := 1) (loc' := [some (.ref 103), some (.int k)]) (stk' := [.ref 103]) (fun _ _ _ => rfl) ?_
  refine zw_get (v := .ref 104) rfl rfl rfl ?_
  refine zw_run 1 (pc' := 5) (loc' := [some (.ref 103), some (.int k)]) (stk' := [.int k, .ref 104]) (fun _ _ _ => rfl) ?_
  refine zw_callf (As := [.ref 104, .int k]) (rest := []) (c_row_at (id := 104) (by decide) k (d := d + 0)) rfl rfl rfl rfl ?_
  show zw fm sx (d + 1) 30 8 [some (.ref 103), some (.int k)] [.int (zt Z 104 k)] Z Q
  refine zw_run 3 (pc' := 11) (loc' := [some (.ref 103), some (.int k)]) (stk' := [.ref 103, .int ((zt Z 104 k) + 1)]) (fun _ _ _ => rfl) ?_
  refine zw_get (v := .ref 106) rfl rfl rfl ?_
  refine zw_run 1 (pc' := 15) (loc' := [some (.ref 103), some (.int k)]) (stk' := [.int k, .ref 106, .int ((zt Z 104 k) + 1)]) (fun _ _ _ => rfl) ?_
  refine zw_callf (As := [.ref 106, .int k]) (rest := [.int ((zt Z 104 k) + 1)]) (c_row_at (id := 106) (by decide) k (d := d + 0)) rfl rfl rfl rfl ?_
  show zw fm sx (d + 1) 30 18 [some (.ref 103), some (.int k)] [.int (zt Z 106 k), .int ((zt Z 104 k) + 1)] Z Q
  refine zw_run 1 (pc' := 19) (loc' := [some (.ref 103), some (.int k)]) (stk' := [.int (((zt Z 104 k) + 1) + (zt Z 106 k))]) (fun _ _ _ => rfl) ?_
  refine zw_reti (i := .nop) rfl rfl ?_
  exact H
theorem t_30 {fm : Value} {sx : Nat × (Nat → Int32)} {d : Nat} {Z : zr_Z} {Q : Option Value → zr_Z → Prop} (k : Int32) (HQ : Q (some (.int (f_30 Z k))) Z) : zw fm sx (d + 1) 30 0 [some (.ref 103), some (.int k)] [] Z Q := by
  refine b_30 k ?_
  unfold f_30 at HQ
  exact HQ
theorem c_30 {fm : Value} {sx : Nat × (Nat → Int32)} {d : Nat} {Z : zr_Z} (k : Int32) : zl fm sx (d + 2) 30 [.ref 103, .int k] Z (fun r Z' => r = some (.int (f_30 Z k)) ∧ Z' = Z) :=
  zl_of (nL := 2) (loc0 := [some (.ref 103), some (.int k)]) rfl rfl rfl (t_30 k ⟨rfl, rfl⟩)
/-- MarkInlines$Links.killLinkBrackets, its loop at 2 -/
def g_28_2 : Nat → zr_Z → Int32 → zr_Z
  | 0, Z, _ => Z
  | n + 1, Z, k => (if (zs Z 104) ≤ k then Z else (if ¬ (zt Z 106 k) = 0 then g_28_2 n Z (k + 1) else g_28_2 n (zput Z 108 k 1) (k + 1)))
set_option maxRecDepth 100000 in
set_option maxHeartbeats 2000000 in
theorem b_28_2 {fm : Value} {sx : Nat × (Nat → Int32)} {d : Nat} {Z : zr_Z} {Q : Option Value → zr_Z → Prop}  (k : Int32) (H : (if (zs Z 104) ≤ k then Q none Z else (if ¬ (zt Z 106 k) = 0 then zw fm sx (d + 1) 28 2 [some (.ref 103), some (.int (k + 1))] [] Z Q else zw fm sx (d + 1) 28 2 [some (.ref 103), some (.int (k + 1))] [] (zput Z 108 k 1) Q))) : zw fm sx (d + 1) 28 2 [some (.ref 103), some (.int k)] [] Z Q := by
  refine zw_run 2 (pc' := 4) (loc' := [some (.ref 103), some (.int k)]) (stk' := [.ref 103, .int k]) (fun _ _ _ => rfl) ?_
  refine zw_get (v := .ref 104) rfl rfl rfl ?_
  refine zw_callf (As := [.ref 104]) (rest := [.int k]) (c_row_size (id := 104) (by decide) (d := d + 0)) rfl rfl rfl rfl ?_
  show zw fm sx (d + 1) 28 10 [some (.ref 103), some (.int k)] [.int (zs Z 104), .int k] Z Q
  refine zw_br (c := (zs Z 104) ≤ k) (t1 := 39) (t2 := 13) (loc' := [some (.ref 103), some (.int k)]) (stk' := []) (fun _ _ _ => rfl) (fun c1 => ?_) (fun c1 => ?_)
  · rw [if_pos c1] at H
    refine zw_retv rfl rfl ?_
    exact H
  · rw [if_neg c1] at H
    refine zw_run 1 (pc' := 14) (loc' := [some (.ref 103), some (.int k)]) (stk' := [.ref 103]) (fun _ _ _ => rfl) ?_
    refine zw_get (v := .ref 106) rfl rfl rfl ?_
    refine zw_run 1 (pc' := 18) (loc' := [some (.ref 103), some (.int k)]) (stk' := [.int k, .ref 106]) (fun _ _ _ => rfl) ?_
    refine zw_callf (As := [.ref 106, .int k]) (rest := []) (c_row_at (id := 106) (by decide) k (d := d + 0)) rfl rfl rfl rfl ?_
    show zw fm sx (d + 1) 28 21 [some (.ref 103), some (.int k)] [.int (zt Z 106 k)] Z Q
    refine zw_br (c := ¬ (zt Z 106 k) = 0) (t1 := 33) (t2 := 24) (loc' := [some (.ref 103), some (.int k)]) (stk' := []) (fun _ _ _ => rfl) (fun c2 => ?_) (fun c2 => ?_)
    · rw [if_pos c2] at H
      refine zw_run 2 (pc' := 2) (loc' := [some (.ref 103), some (.int (k + 1))]) (stk' := []) (fun _ _ _ => rfl) ?_
      exact H
    · rw [if_neg c2] at H
      refine zw_run 1 (pc' := 25) (loc' := [some (.ref 103), some (.int k)]) (stk' := [.ref 103]) (fun _ _ _ => rfl) ?_
      refine zw_get (v := .ref 108) rfl rfl rfl ?_
      refine zw_run 2 (pc' := 30) (loc' := [some (.ref 103), some (.int k)]) (stk' := [.int 1, .int k, .ref 108]) (fun _ _ _ => rfl) ?_
      refine zw_callf (As := [.ref 108, .int k, .int 1]) (rest := []) (c_row_put (id := 108) (by decide) k 1 (d := d + 0)) rfl rfl rfl rfl ?_
      show zw fm sx (d + 1) 28 33 [some (.ref 103), some (.int k)] [] (zput Z 108 k 1) Q
      refine zw_run 2 (pc' := 2) (loc' := [some (.ref 103), some (.int (k + 1))]) (stk' := []) (fun _ _ _ => rfl) ?_
      exact H
theorem l_28_2 {fm : Value} {sx : Nat × (Nat → Int32)} {d : Nat} {Q : Option Value → zr_Z → Prop}  : ∀ (n : Nat) (Z : zr_Z) (k : Int32), (18000 - k.toInt).toNat < n → Q none (g_28_2 n Z k) → zw fm sx (d + 1) 28 2 [some (.ref 103), some (.int k)] [] Z Q := by
  intro n
  induction n with
  | zero => intro Z k hn; exact absurd hn (Nat.not_lt_zero _)
  | succ n ih =>
    intro Z k hn HQ
    refine zw_most fun hm => b_28_2 k ?_
    unfold g_28_2 at HQ
    by_cases c51 : (zs Z 104) ≤ k
    · rw [if_pos c51] at HQ ⊢
      exact HQ
    · rw [if_neg c51] at HQ ⊢
      by_cases c52 : ¬ (zt Z 106 k) = 0
      · rw [if_pos c52] at HQ ⊢
        refine ih Z (k + 1) ?_ HQ
        have u0 := Int32.not_le.mp c51
        have u1 := i32_up (by decide) hm u0 1 (by decide)
        have u2 := i32_lt.mp u0
        have u3 : 1 ≤ (1 : Int32).toInt := (by decide)
        have u4 := zs_int (id := 104) (by decide) hm
        omega
      · rw [if_neg c52] at HQ ⊢
        refine ih (zput Z 108 k 1) (k + 1) ?_ HQ
        have u0 := Int32.not_le.mp c51
        have u1 := i32_up (by decide) hm u0 1 (by decide)
        have u2 := i32_lt.mp u0
        have u3 : 1 ≤ (1 : Int32).toInt := (by decide)
        have u4 := zs_int (id := 104) (by decide) hm
        omega
/-- MarkInlines$Links.killLinkBrackets -/
def f_28 (Z : zr_Z)  : zr_Z := g_28_2 ((18000 - (0 : Int32).toInt).toNat + 1) Z 0
set_option maxRecDepth 100000 in
set_option maxHeartbeats 1000000 in
theorem b_28 {fm : Value} {sx : Nat × (Nat → Int32)} {d : Nat} {Z : zr_Z} {Q : Option Value → zr_Z → Prop}  (H : zw fm sx (d + 1) 28 2 [some (.ref 103), some (.int 0)] [] Z Q) : zw fm sx (d + 1) 28 0 [some (.ref 103), none] [] Z Q := by
  refine zw_run 2 (pc' := 2) (loc' := [some (.ref 103), some (.int 0)]) (stk' := []) (fun _ _ _ => rfl) ?_
  exact H
theorem t_28 {fm : Value} {sx : Nat × (Nat → Int32)} {d : Nat} {Z : zr_Z} {Q : Option Value → zr_Z → Prop}  (HQ : Q none (f_28 Z)) : zw fm sx (d + 1) 28 0 [some (.ref 103), none] [] Z Q := by
  refine b_28 ?_
  unfold f_28 at HQ
  exact l_28_2 _ _ _ (Nat.lt_succ_self _) HQ
theorem c_28 {fm : Value} {sx : Nat × (Nat → Int32)} {d : Nat} {Z : zr_Z}  : zl fm sx (d + 2) 28 [.ref 103] Z (fun r Z' => r = none ∧ Z' = (f_28 Z)) :=
  zl_of (nL := 2) (loc0 := [some (.ref 103), none]) rfl rfl rfl (t_28 ⟨rfl, rfl⟩)
/-- MarkInlines$Links.writtenOutEnd -/
def f_32 (Z : zr_Z) (p : Int32) : Int32 × zr_Z := (if (zt Z 61 p) = 40 then (let y5 : Bool := ((decide ((zt Z 61 (f_94 Z (p + 1))) = 60))); (let x9 : Int32 := (if y5 = true then (f_99 Z (f_94 Z (p + 1))) else (f_84 Z (f_94 Z (p + 1))) : Int32); (let x13 : Int32 := (if x9 = (-1) then (f_94 Z (p + 1)) else x9 : Int32); (let x17 : Int32 := (if (f_94 Z x13) ≤ x13 then (-1) else (f_85 Z (f_94 Z x13)) : Int32); (let x21 : Int32 := f_94 Z (if x17 = (-1) then x13 else x17 : Int32); (if (zt Z 61 x21) = 41 then (let y27 : Bool := (y5 && (!(decide (x9 = (-1))))); (let x31 : Int32 := (if x17 = (-1) then ((f_94 Z x13) + 1) else (x17 - 1) : Int32); (let Z32 : zr_Z := f_37 Z 1 (-1) ((f_94 Z (p + 1)) + (bI y27)) (x13 - (bI y27)) ((f_94 Z x13) + 1) x31; (x21 + 1, Z32)))) else ((-1), Z))))))) else ((-1), Z))
set_option maxRecDepth 100000 in
set_option maxHeartbeats 1000000 in
theorem b_32 {fm : Value} {sx : Nat × (Nat → Int32)} {d : Nat} {Z : zr_Z} {Q : Option Value → zr_Z → Prop} (p : Int32) (H : (if (zt Z 61 p) = 40 then (∀ y5 : Bool, y5 = ((decide ((zt Z 61 (f_94 Z (p + 1))) = 60))) → (∀ x9 : Int32, x9 = (if y5 = true then (f_99 Z (f_94 Z (p + 1))) else (f_84 Z (f_94 Z (p + 1))) : Int32) → (∀ x13 : Int32, x13 = (if x9 = (-1) then (f_94 Z (p + 1)) else x9 : Int32) → (∀ x17 : Int32, x17 = (if (f_94 Z x13) ≤ x13 then (-1) else (f_85 Z (f_94 Z x13)) : Int32) → (∀ x21 : Int32, x21 = f_94 Z (if x17 = (-1) then x13 else x17 : Int32) → (if (zt Z 61 x21) = 41 then (∀ y27 : Bool, y27 = (y5 && (!(decide (x9 = (-1))))) → (∀ x31 : Int32, x31 = (if x17 = (-1) then ((f_94 Z x13) + 1) else (x17 - 1) : Int32) → (∀ Z32 : zr_Z, Z32 = f_37 Z 1 (-1) ((f_94 Z (p + 1)) + (bI y27)) (x13 - (bI y27)) ((f_94 Z x13) + 1) x31 → Q (some (.int (x21 + 1))) Z32))) else Q (some (.int (-1))) Z)))))) else Q (some (.int (-1))) Z)) : zw fm sx (d + 3) 32 0 [some (.ref 103), some (.int p), none, none, none, none, none, none, none, none, none] [] Z Q := by
  refine zw_run 1 (pc' := 1) (loc' := [some (.ref 103), some (.int p), none, none, none, none, none, none, none, none, none]) (stk' := [.ref 103]) (fun _ _ _ => rfl) ?_
  refine zw_get (v := .ref 61) rfl rfl rfl ?_
  refine zw_run 1 (pc' := 5) (loc' := [some (.ref 103), some (.int p), none, none, none, none, none, none, none, none, none]) (stk' := [.int p, .ref 61]) (fun _ _ _ => rfl) ?_
  refine zw_callf (As := [.ref 61, .int p]) (rest := []) (c_row_at (id := 61) (by decide) p (d := d + 2)) rfl rfl rfl rfl ?_
  show zw fm sx (d + 3) 32 8 [some (.ref 103), some (.int p), none, none, none, none, none, none, none, none, none] [.int (zt Z 61 p)] Z Q
  refine zw_run 1 (pc' := 10) (loc' := [some (.ref 103), some (.int p), none, none, none, none, none, none, none, none, none]) (stk' := [.int 40, .int (zt Z 61 p)]) (fun _ _ _ => rfl) ?_
  refine zw_br (c := (zt Z 61 p) = 40) (t1 := 15) (t2 := 13) (loc' := [some (.ref 103), some (.int p), none, none, none, none, none, none, none, none, none]) (stk' := []) (fun _ _ _ => rfl) (fun c1 => ?_) (fun c1 => ?_)
  · rw [if_pos c1] at H
    refine zw_run 1 (pc' := 16) (loc' := [some (.ref 103), some (.int p), none, none, none, none, none, none, none, none, none]) (stk' := [.ref 103]) (fun _ _ _ => rfl) ?_
    refine zw_get (v := .ref 63) rfl rfl rfl ?_
    refine zw_run 3 (pc' := 22) (loc' := [some (.ref 103), some (.int p), none, none, none, none, none, none, none, none, none]) (stk' := [.int (p + 1), .ref 63]) (fun _ _ _ => rfl) ?_
    refine zw_callf (As := [.ref 63, .int (p + 1)]) (rest := []) (c_94 (p + 1) (d := d + 0)) rfl rfl rfl rfl ?_
    show zw fm sx (d + 3) 32 25 [some (.ref 103), some (.int p), none, none, none, none, none, none, none, none, none] [.int (f_94 Z (p + 1))] Z Q
    refine zw_run 2 (pc' := 27) (loc' := [some (.ref 103), some (.int p), some (.int (f_94 Z (p + 1))), none, none, none, none, none, none, none, none]) (stk' := [.ref 103]) (fun _ _ _ => rfl) ?_
    refine zw_get (v := .ref 61) rfl rfl rfl ?_
    refine zw_run 1 (pc' := 31) (loc' := [some (.ref 103), some (.int p), some (.int (f_94 Z (p + 1))), none, none, none, none, none, none, none, none]) (stk' := [.int (f_94 Z (p + 1)), .ref 61]) (fun _ _ _ => rfl) ?_
    refine zw_callf (As := [.ref 61, .int (f_94 Z (p + 1))]) (rest := []) (c_row_at (id := 61) (by decide) (f_94 Z (p + 1)) (d := d + 2)) rfl rfl rfl rfl ?_
    show zw fm sx (d + 3) 32 34 [some (.ref 103), some (.int p), some (.int (f_94 Z (p + 1))), none, none, none, none, none, none, none, none] [.int (zt Z 61 (f_94 Z (p + 1)))] Z Q
    refine zw_run 1 (pc' := 36) (loc' := [some (.ref 103), some (.int p), some (.int (f_94 Z (p + 1))), none, none, none, none, none, none, none, none]) (stk' := [.int 60, .int (zt Z 61 (f_94 Z (p + 1)))]) (fun _ _ _ => rfl) ?_
    have J4 : ∀ (v3 : Int32), v3 = (bI ((decide ((zt Z 61 (f_94 Z (p + 1))) = 60)))) → zw fm sx (d + 3) 32 44 [some (.ref 103), some (.int p), some (.int (f_94 Z (p + 1))), none, none, none, none, none, none, none, none] [.int v3] Z Q := by
      intro v3 ev3
      subst ev3
      refine zw_run 1 (pc' := 45) (loc' := [some (.ref 103), some (.int p), some (.int (f_94 Z (p + 1))), some (.int (bI ((decide ((zt Z 61 (f_94 Z (p + 1))) = 60))))), none, none, none, none, none, none, none]) (stk' := []) (fun _ _ _ => rfl) ?_
      obtain ⟨y5, hy5⟩ : ∃ w : Bool, w = ((decide ((zt Z 61 (f_94 Z (p + 1))) = 60))) := ⟨_, rfl⟩
      rw [← hy5]
      have H := H y5 hy5
      refine zw_run 1 (pc' := 46) (loc' := [some (.ref 103), some (.int p), some (.int (f_94 Z (p + 1))), some (.int (bI y5)), none, none, none, none, none, none, none]) (stk' := [.int (bI y5)]) (fun _ _ _ => rfl) ?_
      have J8 : ∀ (v7 : Int32), v7 = (if y5 = true then (f_99 Z (f_94 Z (p + 1))) else (f_84 Z (f_94 Z (p + 1))) : Int32) → zw fm sx (d + 3) 32 68 [some (.ref 103), some (.int p), some (.int (f_94 Z (p + 1))), some (.int (bI y5)), none, none, none, none, none, none, none] [.int v7] Z Q := by
        intro v7 ev7
        subst ev7
        refine zw_run 1 (pc' := 70) (loc' := [some (.ref 103), some (.int p), some (.int (f_94 Z (p + 1))), some (.int (bI y5)), some (.int (if y5 = true then (f_99 Z (f_94 Z (p + 1))) else (f_84 Z (f_94 Z (p + 1))) : Int32)), none, none, none, none, none, none]) (stk' := []) (fun _ _ _ => rfl) ?_
        obtain ⟨x9, hx9⟩ : ∃ w : Int32, w = (if y5 = true then (f_99 Z (f_94 Z (p + 1))) else (f_84 Z (f_94 Z (p + 1))) : Int32) := ⟨_, rfl⟩
        rw [← hx9]
        have H := H x9 hx9
        refine zw_run 2 (pc' := 73) (loc' := [some (.ref 103), some (.int p), some (.int (f_94 Z (p + 1))), some (.int (bI y5)), some (.int x9), none, none, none, none, none, none]) (stk' := [.int (-1), .int x9]) (fun _ _ _ => rfl) ?_
        have J12 : ∀ (v11 : Int32), v11 = (if x9 = (-1) then (f_94 Z (p + 1)) else x9 : Int32) → zw fm sx (d + 3) 32 82 [some (.ref 103), some (.int p), some (.int (f_94 Z (p + 1))), some (.int (bI y5)), some (.int x9), none, none, none, none, none, none] [.int v11] Z Q := by
          intro v11 ev11
          subst ev11
          refine zw_run 1 (pc' := 84) (loc' := [some (.ref 103), some (.int p), some (.int (f_94 Z (p + 1))), some (.int (bI y5)), some (.int x9), some (.int (if x9 = (-1) then (f_94 Z (p + 1)) else x9 : Int32)), none, none, none, none, none]) (stk' := []) (fun _ _ _ => rfl) ?_
          obtain ⟨x13, hx13⟩ : ∃ w : Int32, w = (if x9 = (-1) then (f_94 Z (p + 1)) else x9 : Int32) := ⟨_, rfl⟩
          rw [← hx13]
          have H := H x13 hx13
          refine zw_run 1 (pc' := 85) (loc' := [some (.ref 103), some (.int p), some (.int (f_94 Z (p + 1))), some (.int (bI y5)), some (.int x9), some (.int x13), none, none, none, none, none]) (stk' := [.ref 103]) (fun _ _ _ => rfl) ?_
          refine zw_get (v := .ref 63) rfl rfl rfl ?_
          refine zw_run 1 (pc' := 90) (loc' := [some (.ref 103), some (.int p), some (.int (f_94 Z (p + 1))), some (.int (bI y5)), some (.int x9), some (.int x13), none, none, none, none, none]) (stk' := [.int x13, .ref 63]) (fun _ _ _ => rfl) ?_
          refine zw_callf (As := [.ref 63, .int x13]) (rest := []) (c_94 x13 (d := d + 0)) rfl rfl rfl rfl ?_
          show zw fm sx (d + 3) 32 93 [some (.ref 103), some (.int p), some (.int (f_94 Z (p + 1))), some (.int (bI y5)), some (.int x9), some (.int x13), none, none, none, none, none] [.int (f_94 Z x13)] Z Q
          refine zw_run 3 (pc' := 99) (loc' := [some (.ref 103), some (.int p), some (.int (f_94 Z (p + 1))), some (.int (bI y5)), some (.int x9), some (.int x13), some (.int (f_94 Z x13)), none, none, none, none]) (stk' := [.int x13, .int (f_94 Z x13)]) (fun _ _ _ => rfl) ?_
          have J16 : ∀ (v15 : Int32), v15 = (if (f_94 Z x13) ≤ x13 then (-1) else (f_85 Z (f_94 Z x13)) : Int32) → zw fm sx (d + 3) 32 115 [some (.ref 103), some (.int p), some (.int (f_94 Z (p + 1))), some (.int (bI y5)), some (.int x9), some (.int x13), some (.int (f_94 Z x13)), none, none, none, none] [.int v15] Z Q := by
            intro v15 ev15
            subst ev15
            refine zw_run 1 (pc' := 117) (loc' := [some (.ref 103), some (.int p), some (.int (f_94 Z (p + 1))), some (.int (bI y5)), some (.int x9), some (.int x13), some (.int (f_94 Z x13)), some (.int (if (f_94 Z x13) ≤ x13 then (-1) else (f_85 Z (f_94 Z x13)) : Int32)), none, none, none]) (stk' := []) (fun _ _ _ => rfl) ?_
            obtain ⟨x17, hx17⟩ : ∃ w : Int32, w = (if (f_94 Z x13) ≤ x13 then (-1) else (f_85 Z (f_94 Z x13)) : Int32) := ⟨_, rfl⟩
            rw [← hx17]
            have H := H x17 hx17
            refine zw_run 1 (pc' := 118) (loc' := [some (.ref 103), some (.int p), some (.int (f_94 Z (p + 1))), some (.int (bI y5)), some (.int x9), some (.int x13), some (.int (f_94 Z x13)), some (.int x17), none, none, none]) (stk' := [.ref 103]) (fun _ _ _ => rfl) ?_
            refine zw_get (v := .ref 63) rfl rfl rfl ?_
            refine zw_run 2 (pc' := 124) (loc' := [some (.ref 103), some (.int p), some (.int (f_94 Z (p + 1))), some (.int (bI y5)), some (.int x9), some (.int x13), some (.int (f_94 Z x13)), some (.int x17), none, none, none]) (stk' := [.int (-1), .int x17, .ref 63]) (fun _ _ _ => rfl) ?_
            have J20 : ∀ (v19 : Int32), v19 = (if x17 = (-1) then x13 else x17 : Int32) → zw fm sx (d + 3) 32 134 [some (.ref 103), some (.int p), some (.int (f_94 Z (p + 1))), some (.int (bI y5)), some (.int x9), some (.int x13), some (.int (f_94 Z x13)), some (.int x17), none, none, none] [.int v19, .ref 63] Z Q := by
              intro v19 ev19
              subst ev19
              refine zw_callf (As := [.ref 63, .int (if x17 = (-1) then x13 else x17 : Int32)]) (rest := []) (c_94 (if x17 = (-1) then x13 else x17 : Int32) (d := d + 0)) rfl rfl rfl rfl ?_
              show zw fm sx (d + 3) 32 137 [some (.ref 103), some (.int p), some (.int (f_94 Z (p + 1))), some (.int (bI y5)), some (.int x9), some (.int x13), some (.int (f_94 Z x13)), some (.int x17), none, none, none] [.int (f_94 Z (if x17 = (-1) then x13 else x17 : Int32))] Z Q
              refine zw_run 1 (pc' := 139) (loc' := [some (.ref 103), some (.int p), some (.int (f_94 Z (p + 1))), some (.int (bI y5)), some (.int x9), some (.int x13), some (.int (f_94 Z x13)), some (.int x17), some (.int (f_94 Z (if x17 = (-1) then x13 else x17 : Int32))), none, none]) (stk' := []) (fun _ _ _ => rfl) ?_
              obtain ⟨x21, hx21⟩ : ∃ w : Int32, w = f_94 Z (if x17 = (-1) then x13 else x17 : Int32) := ⟨_, rfl⟩
              rw [← hx21]
              have H := H x21 hx21
              refine zw_run 1 (pc' := 140) (loc' := [some (.ref 103), some (.int p), some (.int (f_94 Z (p + 1))), some (.int (bI y5)), some (.int x9), some (.int x13), some (.int (f_94 Z x13)), some (.int x17), some (.int x21), none, none]) (stk' := [.ref 103]) (fun _ _ _ => rfl) ?_
              refine zw_get (v := .ref 61) rfl rfl rfl ?_
              refine zw_run 1 (pc' := 145) (loc' := [some (.ref 103), some (.int p), some (.int (f_94 Z (p + 1))), some (.int (bI y5)), some (.int x9), some (.int x13), some (.int (f_94 Z x13)), some (.int x17), some (.int x21), none, none]) (stk' := [.int x21, .ref 61]) (fun _ _ _ => rfl) ?_
              refine zw_callf (As := [.ref 61, .int x21]) (rest := []) (c_row_at (id := 61) (by decide) x21 (d := d + 2)) rfl rfl rfl rfl ?_
              show zw fm sx (d + 3) 32 148 [some (.ref 103), some (.int p), some (.int (f_94 Z (p + 1))), some (.int (bI y5)), some (.int x9), some (.int x13), some (.int (f_94 Z x13)), some (.int x17), some (.int x21), none, none] [.int (zt Z 61 x21)] Z Q
              refine zw_run 1 (pc' := 150) (loc' := [some (.ref 103), some (.int p), some (.int (f_94 Z (p + 1))), some (.int (bI y5)), some (.int x9), some (.int x13), some (.int (f_94 Z x13)), some (.int x17), some (.int x21), none, none]) (stk' := [.int 41, .int (zt Z 61 x21)]) (fun _ _ _ => rfl) ?_
              refine zw_br (c := (zt Z 61 x21) = 41) (t1 := 155) (t2 := 153) (loc' := [some (.ref 103), some (.int p), some (.int (f_94 Z (p + 1))), some (.int (bI y5)), some (.int x9), some (.int x13), some (.int (f_94 Z x13)), some (.int x17), some (.int x21), none, none]) (stk' := []) (fun _ _ _ => rfl) (fun c22 => ?_) (fun c22 => ?_)
              · rw [if_pos c22] at H
                refine zw_run 1 (pc' := 156) (loc' := [some (.ref 103), some (.int p), some (.int (f_94 Z (p + 1))), some (.int (bI y5)), some (.int x9), some (.int x13), some (.int (f_94 Z x13)), some (.int x17), some (.int x21), none, none]) (stk' := [.int (bI y5)]) (fun _ _ _ => rfl) ?_
                have J26 : ∀ (v25 : Int32), v25 = (bI (y5 && (!(decide (x9 = (-1)))))) → zw fm sx (d + 3) 32 170 [some (.ref 103), some (.int p), some (.int (f_94 Z (p + 1))), some (.int (bI y5)), some (.int x9), some (.int x13), some (.int (f_94 Z x13)), some (.int x17), some (.int x21), none, none] [.int v25] Z Q := by
                  intro v25 ev25
                  subst ev25
                  refine zw_run 1 (pc' := 172) (loc' := [some (.ref 103), some (.int p), some (.int (f_94 Z (p + 1))), some (.int (bI y5)), some (.int x9), some (.int x13), some (.int (f_94 Z x13)), some (.int x17), some (.int x21), some (.int (bI (y5 && (!(decide (x9 = (-1))))))), none]) (stk' := []) (fun _ _ _ => rfl) ?_
                  obtain ⟨y27, hy27⟩ : ∃ w : Bool, w = (y5 && (!(decide (x9 = (-1))))) := ⟨_, rfl⟩
                  rw [← hy27]
                  have H := H y27 hy27
                  refine zw_run 2 (pc' := 175) (loc' := [some (.ref 103), some (.int p), some (.int (f_94 Z (p + 1))), some (.int (bI y5)), some (.int x9), some (.int x13), some (.int (f_94 Z x13)), some (.int x17), some (.int x21), some (.int (bI y27)), none]) (stk' := [.int (-1), .int x17]) (fun _ _ _ => rfl) ?_
                  have J30 : ∀ (v29 : Int32), v29 = (if x17 = (-1) then ((f_94 Z x13) + 1) else (x17 - 1) : Int32) → zw fm sx (d + 3) 32 189 [some (.ref 103), some (.int p), some (.int (f_94 Z (p + 1))), some (.int (bI y5)), some (.int x9), some (.int x13), some (.int (f_94 Z x13)), some (.int x17), some (.int x21), some (.int (bI y27)), none] [.int v29] Z Q := by
                    intro v29 ev29
                    subst ev29
                    refine zw_run 1 (pc' := 191) (loc' := [some (.ref 103), some (.int p), some (.int (f_94 Z (p + 1))), some (.int (bI y5)), some (.int x9), some (.int x13), some (.int (f_94 Z x13)), some (.int x17), some (.int x21), some (.int (bI y27)), some (.int (if x17 = (-1) then ((f_94 Z x13) + 1) else (x17 - 1) : Int32))]) (stk' := []) (fun _ _ _ => rfl) ?_
                    obtain ⟨x31, hx31⟩ : ∃ w : Int32, w = (if x17 = (-1) then ((f_94 Z x13) + 1) else (x17 - 1) : Int32) := ⟨_, rfl⟩
                    rw [← hx31]
                    have H := H x31 hx31
                    refine zw_run 1 (pc' := 192) (loc' := [some (.ref 103), some (.int p), some (.int (f_94 Z (p + 1))), some (.int (bI y5)), some (.int x9), some (.int x13), some (.int (f_94 Z x13)), some (.int x17), some (.int x21), some (.int (bI y27)), some (.int x31)]) (stk' := [.ref 103]) (fun _ _ _ => rfl) ?_
                    refine zw_get (v := .ref 65) rfl rfl rfl ?_
                    refine zw_run 12 (pc' := 212) (loc' := [some (.ref 103), some (.int p), some (.int (f_94 Z (p + 1))), some (.int (bI y5)), some (.int x9), some (.int x13), some (.int (f_94 Z x13)), some (.int x17), some (.int x21), some (.int (bI y27)), some (.int x31)]) (stk' := [.int x31, .int ((f_94 Z x13) + 1), .int (x13 - (bI y27)), .int ((f_94 Z (p + 1)) + (bI y27)), .int (-1), .int 1, .ref 65]) (fun _ _ _ => rfl) ?_
                    refine zw_callf (As := [.ref 65, .int 1, .int (-1), .int ((f_94 Z (p + 1)) + (bI y27)), .int (x13 - (bI y27)), .int ((f_94 Z x13) + 1), .int x31]) (rest := []) (c_37 1 (-1) ((f_94 Z (p + 1)) + (bI y27)) (x13 - (bI y27)) ((f_94 Z x13) + 1) x31 (d := d + 0)) rfl rfl rfl rfl ?_
                    show zw fm sx (d + 3) 32 215 [some (.ref 103), some (.int p), some (.int (f_94 Z (p + 1))), some (.int (bI y5)), some (.int x9), some (.int x13), some (.int (f_94 Z x13)), some (.int x17), some (.int x21), some (.int (bI y27)), some (.int x31)] [] (f_37 Z 1 (-1) ((f_94 Z (p + 1)) + (bI y27)) (x13 - (bI y27)) ((f_94 Z x13) + 1) x31) Q
                    obtain ⟨Z32, hZ32⟩ : ∃ w : zr_Z, w = f_37 Z 1 (-1) ((f_94 Z (p + 1)) + (bI y27)) (x13 - (bI y27)) ((f_94 Z x13) + 1) x31 := ⟨_, rfl⟩
                    rw [← hZ32]
                    have H := H Z32 hZ32
                    refine zw_run 3 (pc' := 219) (loc' := [some (.ref 103), some (.int p), some (.int (f_94 Z (p + 1))), some (.int (bI y5)), some (.int x9), some (.int x13), some (.int (f_94 Z x13)), some (.int x17), some (.int x21), some (.int (bI y27)), some (.int x31)]) (stk' := [.int (x21 + 1)]) (fun _ _ _ => rfl) ?_
                    refine zw_reti (i := .nop) rfl rfl ?_
                    exact H
                  refine zw_br (c := x17 = (-1)) (t1 := 185) (t2 := 178) (loc' := [some (.ref 103), some (.int p), some (.int (f_94 Z (p + 1))), some (.int (bI y5)), some (.int x9), some (.int x13), some (.int (f_94 Z x13)), some (.int x17), some (.int x21), some (.int (bI y27)), none]) (stk' := []) (fun _ _ _ => rfl) (fun c28 => ?_) (fun c28 => ?_)
                  · skip
                    refine zw_run 3 (pc' := 189) (loc' := [some (.ref 103), some (.int p), some (.int (f_94 Z (p + 1))), some (.int (bI y5)), some (.int x9), some (.int x13), some (.int (f_94 Z x13)), some (.int x17), some (.int x21), some (.int (bI y27)), none]) (stk' := [.int ((f_94 Z x13) + 1)]) (fun _ _ _ => rfl) ?_
                    exact J30 _ (by first | (rw [if_pos c28]; done) | (clear H J30; simp_all [bI]; done))
                  · skip
                    refine zw_run 4 (pc' := 189) (loc' := [some (.ref 103), some (.int p), some (.int (f_94 Z (p + 1))), some (.int (bI y5)), some (.int x9), some (.int x13), some (.int (f_94 Z x13)), some (.int x17), some (.int x21), some (.int (bI y27)), none]) (stk' := [.int (x17 - 1)]) (fun _ _ _ => rfl) ?_
                    exact J30 _ (by first | (rw [if_neg c28]; done) | (clear H J30; simp_all [bI]; done))
                refine zw_b0 (b := y5) (t1 := 159) (t2 := 169) (loc' := [some (.ref 103), some (.int p), some (.int (f_94 Z (p + 1))), some (.int (bI y5)), some (.int x9), some (.int x13), some (.int (f_94 Z x13)), some (.int x17), some (.int x21), none, none]) (stk' := []) (fun _ _ _ => rfl) (fun c23 => ?_) (fun c23 => ?_)
                · skip
                  refine zw_run 2 (pc' := 162) (loc' := [some (.ref 103), some (.int p), some (.int (f_94 Z (p + 1))), some (.int (bI y5)), some (.int x9), some (.int x13), some (.int (f_94 Z x13)), some (.int x17), some (.int x21), none, none]) (stk' := [.int (-1), .int x9]) (fun _ _ _ => rfl) ?_
                  refine zw_br (c := x9 = (-1)) (t1 := 169) (t2 := 165) (loc' := [some (.ref 103), some (.int p), some (.int (f_94 Z (p + 1))), some (.int (bI y5)), some (.int x9), some (.int x13), some (.int (f_94 Z x13)), some (.int x17), some (.int x21), none, none]) (stk' := []) (fun _ _ _ => rfl) (fun c24 => ?_) (fun c24 => ?_)
                  · skip
                    refine zw_run 1 (pc' := 170) (loc' := [some (.ref 103), some (.int p), some (.int (f_94 Z (p + 1))), some (.int (bI y5)), some (.int x9), some (.int x13), some (.int (f_94 Z x13)), some (.int x17), some (.int x21), none, none]) (stk' := [.int 0]) (fun _ _ _ => rfl) ?_
                    exact J26 _ (by clear H J26; first | (simp [bI, c23, c24]; done) | (simp [bI, *]; done) | (simp_all [bI]; done) | (exfalso; simp_all; done))
                  · skip
                    refine zw_run 2 (pc' := 170) (loc' := [some (.ref 103), some (.int p), some (.int (f_94 Z (p + 1))), some (.int (bI y5)), some (.int x9), some (.int x13), some (.int (f_94 Z x13)), some (.int x17), some (.int x21), none, none]) (stk' := [.int 1]) (fun _ _ _ => rfl) ?_
                    exact J26 _ (by clear H J26; first | (simp [bI, c23, c24]; done) | (simp [bI, *]; done) | (simp_all [bI]; done) | (exfalso; simp_all; done))
                · skip
                  refine zw_run 1 (pc' := 170) (loc' := [some (.ref 103), some (.int p), some (.int (f_94 Z (p + 1))), some (.int (bI y5)), some (.int x9), some (.int x13), some (.int (f_94 Z x13)), some (.int x17), some (.int x21), none, none]) (stk' := [.int 0]) (fun _ _ _ => rfl) ?_
                  exact J26 _ (by clear H J26; first | (simp [bI, c23]; done) | (simp [bI, *]; done) | (simp_all [bI]; done) | (exfalso; simp_all; done))
              · rw [if_neg c22] at H
                refine zw_run 1 (pc' := 154) (loc' := [some (.ref 103), some (.int p), some (.int (f_94 Z (p + 1))), some (.int (bI y5)), some (.int x9), some (.int x13), some (.int (f_94 Z x13)), some (.int x17), some (.int x21), none, none]) (stk' := [.int (-1)]) (fun _ _ _ => rfl) ?_
                refine zw_reti (i := .nop) rfl rfl ?_
                exact H
            refine zw_br (c := x17 = (-1)) (t1 := 132) (t2 := 127) (loc' := [some (.ref 103), some (.int p), some (.int (f_94 Z (p + 1))), some (.int (bI y5)), some (.int x9), some (.int x13), some (.int (f_94 Z x13)), some (.int x17), none, none, none]) (stk' := [.ref 63]) (fun _ _ _ => rfl) (fun c18 => ?_) (fun c18 => ?_)
            · skip
              refine zw_run 1 (pc' := 134) (loc' := [some (.ref 103), some (.int p), some (.int (f_94 Z (p + 1))), some (.int (bI y5)), some (.int x9), some (.int x13), some (.int (f_94 Z x13)), some (.int x17), none, none, none]) (stk' := [.int x13, .ref 63]) (fun _ _ _ => rfl) ?_
              exact J20 _ (by first | (rw [if_pos c18]; done) | (clear H J20; simp_all [bI]; done))
            · skip
              refine zw_run 2 (pc' := 134) (loc' := [some (.ref 103), some (.int p), some (.int (f_94 Z (p + 1))), some (.int (bI y5)), some (.int x9), some (.int x13), some (.int (f_94 Z x13)), some (.int x17), none, none, none]) (stk' := [.int x17, .ref 63]) (fun _ _ _ => rfl) ?_
              exact J20 _ (by first | (rw [if_neg c18]; done) | (clear H J20; simp_all [bI]; done))
          refine zw_br (c := (f_94 Z x13) ≤ x13) (t1 := 114) (t2 := 102) (loc' := [some (.ref 103), some (.int p), some (.int (f_94 Z (p + 1))), some (.int (bI y5)), some (.int x9), some (.int x13), some (.int (f_94 Z x13)), none, none, none, none]) (stk' := []) (fun _ _ _ => rfl) (fun c14 => ?_) (fun c14 => ?_)
          · skip
            refine zw_run 1 (pc' := 115) (loc' := [some (.ref 103), some (.int p), some (.int (f_94 Z (p + 1))), some (.int (bI y5)), some (.int x9), some (.int x13), some (.int (f_94 Z x13)), none, none, none, none]) (stk' := [.int (-1)]) (fun _ _ _ => rfl) ?_
            exact J16 _ (by first | (rw [if_pos c14]; done) | (clear H J16; simp_all [bI]; done))
          · skip
            refine zw_run 1 (pc' := 103) (loc' := [some (.ref 103), some (.int p), some (.int (f_94 Z (p + 1))), some (.int (bI y5)), some (.int x9), some (.int x13), some (.int (f_94 Z x13)), none, none, none, none]) (stk' := [.ref 103]) (fun _ _ _ => rfl) ?_
            refine zw_get (v := .ref 63) rfl rfl rfl ?_
            refine zw_run 1 (pc' := 108) (loc' := [some (.ref 103), some (.int p), some (.int (f_94 Z (p + 1))), some (.int (bI y5)), some (.int x9), some (.int x13), some (.int (f_94 Z x13)), none, none, none, none]) (stk' := [.int (f_94 Z x13), .ref 63]) (fun _ _ _ => rfl) ?_
            refine zw_callf (As := [.ref 63, .int (f_94 Z x13)]) (rest := []) (c_85 (f_94 Z x13) (d := d + 0)) rfl rfl rfl rfl ?_
            show zw fm sx (d + 3) 32 111 [some (.ref 103), some (.int p), some (.int (f_94 Z (p + 1))), some (.int (bI y5)), some (.int x9), some (.int x13), some (.int (f_94 Z x13)), none, none, none, none] [.int (f_85 Z (f_94 Z x13))] Z Q
            refine zw_run 1 (pc' := 115) (loc' := [some (.ref 103), some (.int p), some (.int (f_94 Z (p + 1))), some (.int (bI y5)), some (.int x9), some (.int x13), some (.int (f_94 Z x13)), none, none, none, none]) (stk' := [.int (f_85 Z (f_94 Z x13))]) (fun _ _ _ => rfl) ?_
            exact J16 _ (by first | (rw [if_neg c14]; done) | (clear H J16; simp_all [bI]; done))
        refine zw_br (c := x9 = (-1)) (t1 := 81) (t2 := 76) (loc' := [some (.ref 103), some (.int p), some (.int (f_94 Z (p + 1))), some (.int (bI y5)), some (.int x9), none, none, none, none, none, none]) (stk' := []) (fun _ _ _ => rfl) (fun c10 => ?_) (fun c10 => ?_)
        · skip
          refine zw_run 1 (pc' := 82) (loc' := [some (.ref 103), some (.int p), some (.int (f_94 Z (p + 1))), some (.int (bI y5)), some (.int x9), none, none, none, none, none, none]) (stk' := [.int (f_94 Z (p + 1))]) (fun _ _ _ => rfl) ?_
          exact J12 _ (by first | (rw [if_pos c10]; done) | (clear H J12; simp_all [bI]; done))
        · skip
          refine zw_run 2 (pc' := 82) (loc' := [some (.ref 103), some (.int p), some (.int (f_94 Z (p + 1))), some (.int (bI y5)), some (.int x9), none, none, none, none, none, none]) (stk' := [.int x9]) (fun _ _ _ => rfl) ?_
          exact J12 _ (by first | (rw [if_neg c10]; done) | (clear H J12; simp_all [bI]; done))
      refine zw_b0 (b := y5) (t1 := 49) (t2 := 60) (loc' := [some (.ref 103), some (.int p), some (.int (f_94 Z (p + 1))), some (.int (bI y5)), none, none, none, none, none, none, none]) (stk' := []) (fun _ _ _ => rfl) (fun c6 => ?_) (fun c6 => ?_)
      · skip
        refine zw_run 1 (pc' := 50) (loc' := [some (.ref 103), some (.int p), some (.int (f_94 Z (p + 1))), some (.int (bI y5)), none, none, none, none, none, none, none]) (stk' := [.ref 103]) (fun _ _ _ => rfl) ?_
        refine zw_get (v := .ref 63) rfl rfl rfl ?_
        refine zw_run 1 (pc' := 54) (loc' := [some (.ref 103), some (.int p), some (.int (f_94 Z (p + 1))), some (.int (bI y5)), none, none, none, none, none, none, none]) (stk' := [.int (f_94 Z (p + 1)), .ref 63]) (fun _ _ _ => rfl) ?_
        refine zw_callf (As := [.ref 63, .int (f_94 Z (p + 1))]) (rest := []) (c_99 (f_94 Z (p + 1)) (d := d + 0)) rfl rfl rfl rfl ?_
        show zw fm sx (d + 3) 32 57 [some (.ref 103), some (.int p), some (.int (f_94 Z (p + 1))), some (.int (bI y5)), none, none, none, none, none, none, none] [.int (f_99 Z (f_94 Z (p + 1)))] Z Q
        refine zw_run 1 (pc' := 68) (loc' := [some (.ref 103), some (.int p), some (.int (f_94 Z (p + 1))), some (.int (bI y5)), none, none, none, none, none, none, none]) (stk' := [.int (f_99 Z (f_94 Z (p + 1)))]) (fun _ _ _ => rfl) ?_
        exact J8 _ (by first | (rw [if_pos c6]; done) | (clear H J8; simp_all [bI]; done))
      · skip
        refine zw_run 1 (pc' := 61) (loc' := [some (.ref 103), some (.int p), some (.int (f_94 Z (p + 1))), some (.int (bI y5)), none, none, none, none, none, none, none]) (stk' := [.ref 103]) (fun _ _ _ => rfl) ?_
        refine zw_get (v := .ref 63) rfl rfl rfl ?_
        refine zw_run 1 (pc' := 65) (loc' := [some (.ref 103), some (.int p), some (.int (f_94 Z (p + 1))), some (.int (bI y5)), none, none, none, none, none, none, none]) (stk' := [.int (f_94 Z (p + 1)), .ref 63]) (fun _ _ _ => rfl) ?_
        refine zw_callf (As := [.ref 63, .int (f_94 Z (p + 1))]) (rest := []) (c_84 (f_94 Z (p + 1)) (d := d + 0)) rfl rfl rfl rfl ?_
        show zw fm sx (d + 3) 32 68 [some (.ref 103), some (.int p), some (.int (f_94 Z (p + 1))), some (.int (bI y5)), none, none, none, none, none, none, none] [.int (f_84 Z (f_94 Z (p + 1)))] Z Q
        exact J8 _ (by first | (rw [if_neg c6]; done) | (clear H J8; simp_all [bI]; done))
    refine zw_br (c := ¬ (zt Z 61 (f_94 Z (p + 1))) = 60) (t1 := 43) (t2 := 39) (loc' := [some (.ref 103), some (.int p), some (.int (f_94 Z (p + 1))), none, none, none, none, none, none, none, none]) (stk' := []) (fun _ _ _ => rfl) (fun c2 => ?_) (fun c2 => ?_)
    · skip
      refine zw_run 1 (pc' := 44) (loc' := [some (.ref 103), some (.int p), some (.int (f_94 Z (p + 1))), none, none, none, none, none, none, none, none]) (stk' := [.int 0]) (fun _ _ _ => rfl) ?_
      exact J4 _ (by clear H J4; first | (simp [bI, c2]; done) | (simp [bI, *]; done) | (simp_all [bI]; done) | (exfalso; simp_all; done))
    · skip
      refine zw_run 2 (pc' := 44) (loc' := [some (.ref 103), some (.int p), some (.int (f_94 Z (p + 1))), none, none, none, none, none, none, none, none]) (stk' := [.int 1]) (fun _ _ _ => rfl) ?_
      exact J4 _ (by clear H J4; first | (simp [bI, c2]; done) | (simp [bI, *]; done) | (simp_all [bI]; done) | (exfalso; simp_all; done))
  · rw [if_neg c1] at H
    refine zw_run 1 (pc' := 14) (loc' := [some (.ref 103), some (.int p), none, none, none, none, none, none, none, none, none]) (stk' := [.int (-1)]) (fun _ _ _ => rfl) ?_
    refine zw_reti (i := .nop) rfl rfl ?_
    exact H
theorem t_32 {fm : Value} {sx : Nat × (Nat → Int32)} {d : Nat} {Z : zr_Z} {Q : Option Value → zr_Z → Prop} (p : Int32) (HQ : Q (some (.int (f_32 Z p).1)) (f_32 Z p).2) : zw fm sx (d + 3) 32 0 [some (.ref 103), some (.int p), none, none, none, none, none, none, none, none, none] [] Z Q := by
  refine b_32 p ?_
  unfold f_32 at HQ
  by_cases c1 : (zt Z 61 p) = 40
  · rw [if_pos c1] at HQ ⊢
    intro y5 hy5
    rw [← hy5] at HQ
    try dsimp only at HQ
    intro x9 hx9
    rw [← hx9] at HQ
    try dsimp only at HQ
    intro x13 hx13
    rw [← hx13] at HQ
    try dsimp only at HQ
    intro x17 hx17
    rw [← hx17] at HQ
    try dsimp only at HQ
    intro x21 hx21
    rw [← hx21] at HQ
    try dsimp only at HQ
    by_cases c22 : (zt Z 61 x21) = 41
    · rw [if_pos c22] at HQ ⊢
      intro y27 hy27
      rw [← hy27] at HQ
      try dsimp only at HQ
      intro x31 hx31
      rw [← hx31] at HQ
      try dsimp only at HQ
      intro Z32 hZ32
      rw [← hZ32] at HQ
      try dsimp only at HQ
      exact HQ
    · rw [if_neg c22] at HQ ⊢
      exact HQ
  · rw [if_neg c1] at HQ ⊢
    exact HQ
theorem c_32 {fm : Value} {sx : Nat × (Nat → Int32)} {d : Nat} {Z : zr_Z} (p : Int32) : zl fm sx (d + 4) 32 [.ref 103, .int p] Z (fun r Z' => r = some (.int (f_32 Z p).1) ∧ Z' = (f_32 Z p).2) :=
  zl_of (nL := 11) (loc0 := [some (.ref 103), some (.int p), none, none, none, none, none, none, none, none, none]) rfl rfl rfl (t_32 p ⟨rfl, rfl⟩)
/-- MarkInlines$Links.labelledEnd -/
def f_31 (Z : zr_Z) (k : Int32) (p : Int32) : Int32 × zr_Z := (if ¬ (zt Z 61 (p + 1)) = 91 then (let x6 : Int32 := (if ¬ (zt Z 61 (p + 1)) = 91 then (p + 1) else (if ¬ (zt Z 61 (p + 2)) = 93 then (p + 1) else (p + 3) : Int32) : Int32); (if ¬ (zt Z 112 k) = (zc Z 1) then ((-1), Z) else (if (f_97 Z (f_30 Z k) p) = true then (if ¬ ((f_20 Z (f_30 Z k) p).1) = (-1) then (let Z10 : zr_Z := f_37 ((f_20 Z (f_30 Z k) p).2) 0 ((f_20 Z (f_30 Z k) p).1) 0 0 0 0; (x6, Z10)) else ((-1), (f_20 Z (f_30 Z k) p).2)) else ((-1), Z)))) else (if ¬ (zt Z 61 (f_96 Z (p + 2))) = 93 then (let x16 : Int32 := (if ¬ (zt Z 61 (p + 1)) = 91 then (p + 1) else (if ¬ (zt Z 61 (p + 2)) = 93 then (p + 1) else (p + 3) : Int32) : Int32); (if ¬ (zt Z 112 k) = (zc Z 1) then ((-1), Z) else (if (f_97 Z (f_30 Z k) p) = true then (if ¬ ((f_20 Z (f_30 Z k) p).1) = (-1) then (let Z20 : zr_Z := f_37 ((f_20 Z (f_30 Z k) p).2) 0 ((f_20 Z (f_30 Z k) p).1) 0 0 0 0; (x16, Z20)) else ((-1), (f_20 Z (f_30 Z k) p).2)) else ((-1), Z)))) else (if (f_97 Z (p + 2) (f_96 Z (p + 2))) = true then (let x22 : Int32 := (f_20 Z (p + 2) (f_96 Z (p + 2))).1; (if ¬ x22 = (-1) then ((f_96 Z (p + 2)) + 1, f_37 ((f_20 Z (p + 2) (f_96 Z (p + 2))).2) 0 x22 0 0 0 0) else ((-1), (f_20 Z (p + 2) (f_96 Z (p + 2))).2))) else (let x28 : Int32 := (if ¬ (zt Z 61 (p + 1)) = 91 then (p + 1) else (if ¬ (zt Z 61 (p + 2)) = 93 then (p + 1) else (p + 3) : Int32) : Int32); (if ¬ (zt Z 112 k) = (zc Z 1) then ((-1), Z) else (if (f_97 Z (f_30 Z k) p) = true then (if ¬ ((f_20 Z (f_30 Z k) p).1) = (-1) then (let Z32 : zr_Z := f_37 ((f_20 Z (f_30 Z k) p).2) 0 ((f_20 Z (f_30 Z k) p).1) 0 0 0 0; (x28, Z32)) else ((-1), (f_20 Z (f_30 Z k) p).2)) else ((-1), Z)))))))
set_option maxRecDepth 100000 in
set_option maxHeartbeats 1000000 in
theorem b_31 {fm : Value} {sx : Nat × (Nat → Int32)} {d : Nat} {Z : zr_Z} {Q : Option Value → zr_Z → Prop} (k : Int32) (p : Int32) (H : (if ¬ (zt Z 61 (p + 1)) = 91 then (∀ x6 : Int32, x6 = (if ¬ (zt Z 61 (p + 1)) = 91 then (p + 1) else (if ¬ (zt Z 61 (p + 2)) = 93 then (p + 1) else (p + 3) : Int32) : Int32) → (if ¬ (zt Z 112 k) = (zc Z 1) then Q (some (.int (-1))) Z else (if (f_97 Z (f_30 Z k) p) = true then (if ¬ ((f_20 Z (f_30 Z k) p).1) = (-1) then (∀ Z10 : zr_Z, Z10 = f_37 ((f_20 Z (f_30 Z k) p).2) 0 ((f_20 Z (f_30 Z k) p).1) 0 0 0 0 → Q (some (.int x6)) Z10) else Q (some (.int (-1))) ((f_20 Z (f_30 Z k) p).2)) else Q (some (.int (-1))) Z))) else (if ¬ (zt Z 61 (f_96 Z (p + 2))) = 93 then (∀ x16 : Int32, x16 = (if ¬ (zt Z 61 (p + 1)) = 91 then (p + 1) else (if ¬ (zt Z 61 (p + 2)) = 93 then (p + 1) else (p + 3) : Int32) : Int32) → (if ¬ (zt Z 112 k) = (zc Z 1) then Q (some (.int (-1))) Z else (if (f_97 Z (f_30 Z k) p) = true then (if ¬ ((f_20 Z (f_30 Z k) p).1) = (-1) then (∀ Z20 : zr_Z, Z20 = f_37 ((f_20 Z (f_30 Z k) p).2) 0 ((f_20 Z (f_30 Z k) p).1) 0 0 0 0 → Q (some (.int x16)) Z20) else Q (some (.int (-1))) ((f_20 Z (f_30 Z k) p).2)) else Q (some (.int (-1))) Z))) else (if (f_97 Z (p + 2) (f_96 Z (p + 2))) = true then (∀ x22 : Int32, x22 = (f_20 Z (p + 2) (f_96 Z (p + 2))).1 → (if ¬ x22 = (-1) then Q (some (.int ((f_96 Z (p + 2)) + 1))) (f_37 ((f_20 Z (p + 2) (f_96 Z (p + 2))).2) 0 x22 0 0 0 0) else Q (some (.int (-1))) ((f_20 Z (p + 2) (f_96 Z (p + 2))).2))) else (∀ x28 : Int32, x28 = (if ¬ (zt Z 61 (p + 1)) = 91 then (p + 1) else (if ¬ (zt Z 61 (p + 2)) = 93 then (p + 1) else (p + 3) : Int32) : Int32) → (if ¬ (zt Z 112 k) = (zc Z 1) then Q (some (.int (-1))) Z else (if (f_97 Z (f_30 Z k) p) = true then (if ¬ ((f_20 Z (f_30 Z k) p).1) = (-1) then (∀ Z32 : zr_Z, Z32 = f_37 ((f_20 Z (f_30 Z k) p).2) 0 ((f_20 Z (f_30 Z k) p).1) 0 0 0 0 → Q (some (.int x28)) Z32) else Q (some (.int (-1))) ((f_20 Z (f_30 Z k) p).2)) else Q (some (.int (-1))) Z))))))) : zw fm sx (d + 4) 31 0 [some (.ref 103), some (.int k), some (.int p), none, none, none, none] [] Z Q := by
  refine zw_run 5 (pc' := 5) (loc' := [some (.ref 103), some (.int k), some (.int p), some (.int (p + 2)), none, none, none]) (stk' := [.ref 103]) (fun _ _ _ => rfl) ?_
  refine zw_get (v := .ref 63) rfl rfl rfl ?_
  refine zw_run 1 (pc' := 9) (loc' := [some (.ref 103), some (.int k), some (.int p), some (.int (p + 2)), none, none, none]) (stk' := [.int (p + 2), .ref 63]) (fun _ _ _ => rfl) ?_
  refine zw_callf (As := [.ref 63, .int (p + 2)]) (rest := []) (c_96 (p + 2) (d := d + 2)) rfl rfl rfl rfl ?_
  show zw fm sx (d + 4) 31 12 [some (.ref 103), some (.int k), some (.int p), some (.int (p + 2)), none, none, none] [.int (f_96 Z (p + 2))] Z Q
  refine zw_run 6 (pc' := 21) (loc' := [some (.ref 103), some (.int k), some (.int p), some (.int (p + 2)), some (.int (f_96 Z (p + 2))), some (.int ((f_96 Z (p + 2)) + 1)), none]) (stk' := [.ref 103]) (fun _ _ _ => rfl) ?_
  refine zw_get (v := .ref 61) rfl rfl rfl ?_
  refine zw_run 3 (pc' := 27) (loc' := [some (.ref 103), some (.int k), some (.int p), some (.int (p + 2)), some (.int (f_96 Z (p + 2))), some (.int ((f_96 Z (p + 2)) + 1)), none]) (stk' := [.int (p + 1), .ref 61]) (fun _ _ _ => rfl) ?_
  refine zw_callf (As := [.ref 61, .int (p + 1)]) (rest := []) (c_row_at (id := 61) (by decide) (p + 1) (d := d + 3)) rfl rfl rfl rfl ?_
  show zw fm sx (d + 4) 31 30 [some (.ref 103), some (.int k), some (.int p), some (.int (p + 2)), some (.int (f_96 Z (p + 2))), some (.int ((f_96 Z (p + 2)) + 1)), none] [.int (zt Z 61 (p + 1))] Z Q
  refine zw_run 1 (pc' := 32) (loc' := [some (.ref 103), some (.int k), some (.int p), some (.int (p + 2)), some (.int (f_96 Z (p + 2))), some (.int ((f_96 Z (p + 2)) + 1)), none]) (stk' := [.int 91, .int (zt Z 61 (p + 1))]) (fun _ _ _ => rfl) ?_
  refine zw_br (c := ¬ (zt Z 61 (p + 1)) = 91) (t1 := 62) (t2 := 35) (loc' := [some (.ref 103), some (.int k), some (.int p), some (.int (p + 2)), some (.int (f_96 Z (p + 2))), some (.int ((f_96 Z (p + 2)) + 1)), none]) (stk' := []) (fun _ _ _ => rfl) (fun c1 => ?_) (fun c1 => ?_)
  · rw [if_pos c1] at H
    refine zw_run 2 (pc' := 64) (loc' := [some (.ref 103), some (.int k), some (.int p), some (.int (p + 2)), some (.int (f_96 Z (p + 2))), some (.int ((f_96 Z (p + 2)) + 1)), none]) (stk' := [.int k, .ref 103]) (fun _ _ _ => rfl) ?_
    refine zw_callf (As := [.ref 103, .int k]) (rest := []) (c_30 k (d := d + 2)) rfl rfl rfl rfl ?_
    show zw fm sx (d + 4) 31 67 [some (.ref 103), some (.int k), some (.int p), some (.int (p + 2)), some (.int (f_96 Z (p + 2))), some (.int ((f_96 Z (p + 2)) + 1)), none] [.int (f_30 Z k)] Z Q
    refine zw_run 4 (pc' := 72) (loc' := [some (.ref 103), some (.int k), some (.int p), some (.int (f_30 Z k)), some (.int p), some (.int ((f_96 Z (p + 2)) + 1)), none]) (stk' := [.ref 103]) (fun _ _ _ => rfl) ?_
    refine zw_get (v := .ref 61) rfl rfl rfl ?_
    refine zw_run 3 (pc' := 78) (loc' := [some (.ref 103), some (.int k), some (.int p), some (.int (f_30 Z k)), some (.int p), some (.int ((f_96 Z (p + 2)) + 1)), none]) (stk' := [.int (p + 1), .ref 61]) (fun _ _ _ => rfl) ?_
    refine zw_callf (As := [.ref 61, .int (p + 1)]) (rest := []) (c_row_at (id := 61) (by decide) (p + 1) (d := d + 3)) rfl rfl rfl rfl ?_
    show zw fm sx (d + 4) 31 81 [some (.ref 103), some (.int k), some (.int p), some (.int (f_30 Z k)), some (.int p), some (.int ((f_96 Z (p + 2)) + 1)), none] [.int (zt Z 61 (p + 1))] Z Q
    refine zw_run 1 (pc' := 83) (loc' := [some (.ref 103), some (.int k), some (.int p), some (.int (f_30 Z k)), some (.int p), some (.int ((f_96 Z (p + 2)) + 1)), none]) (stk' := [.int 91, .int (zt Z 61 (p + 1))]) (fun _ _ _ => rfl) ?_
    have J5 : ∀ (v4 : Int32), v4 = (if ¬ (zt Z 61 (p + 1)) = 91 then (p + 1) else (if ¬ (zt Z 61 (p + 2)) = 93 then (p + 1) else (p + 3) : Int32) : Int32) → zw fm sx (d + 4) 31 110 [some (.ref 103), some (.int k), some (.int p), some (.int (f_30 Z k)), some (.int p), some (.int ((f_96 Z (p + 2)) + 1)), none] [.int v4] Z Q := by
      intro v4 ev4
      subst ev4
      refine zw_run 1 (pc' := 112) (loc' := [some (.ref 103), some (.int k), some (.int p), some (.int (f_30 Z k)), some (.int p), some (.int (if ¬ (zt Z 61 (p + 1)) = 91 then (p + 1) else (if ¬ (zt Z 61 (p + 2)) = 93 then (p + 1) else (p + 3) : Int32) : Int32)), none]) (stk' := []) (fun _ _ _ => rfl) ?_
      obtain ⟨x6, hx6⟩ : ∃ w : Int32, w = (if ¬ (zt Z 61 (p + 1)) = 91 then (p + 1) else (if ¬ (zt Z 61 (p + 2)) = 93 then (p + 1) else (p + 3) : Int32) : Int32) := ⟨_, rfl⟩
      rw [← hx6]
      have H := H x6 hx6
      refine zw_run 1 (pc' := 113) (loc' := [some (.ref 103), some (.int k), some (.int p), some (.int (f_30 Z k)), some (.int p), some (.int x6), none]) (stk' := [.ref 103]) (fun _ _ _ => rfl) ?_
      refine zw_get (v := .ref 112) rfl rfl rfl ?_
      refine zw_run 1 (pc' := 117) (loc' := [some (.ref 103), some (.int k), some (.int p), some (.int (f_30 Z k)), some (.int p), some (.int x6), none]) (stk' := [.int k, .ref 112]) (fun _ _ _ => rfl) ?_
      refine zw_callf (As := [.ref 112, .int k]) (rest := []) (c_row_at (id := 112) (by decide) k (d := d + 3)) rfl rfl rfl rfl ?_
      show zw fm sx (d + 4) 31 120 [some (.ref 103), some (.int k), some (.int p), some (.int (f_30 Z k)), some (.int p), some (.int x6), none] [.int (zt Z 112 k)] Z Q
      refine zw_run 1 (pc' := 121) (loc' := [some (.ref 103), some (.int k), some (.int p), some (.int (f_30 Z k)), some (.int p), some (.int x6), none]) (stk' := [.ref 103, .int (zt Z 112 k)]) (fun _ _ _ => rfl) ?_
      refine zw_get (v := .int (zc Z 1)) rfl rfl rfl ?_
      refine zw_br (c := ¬ (zt Z 112 k) = (zc Z 1)) (t1 := 140) (t2 := 127) (loc' := [some (.ref 103), some (.int k), some (.int p), some (.int (f_30 Z k)), some (.int p), some (.int x6), none]) (stk' := []) (fun _ _ _ => rfl) (fun c7 => ?_) (fun c7 => ?_)
      · rw [if_pos c7] at H
        refine zw_run 1 (pc' := 141) (loc' := [some (.ref 103), some (.int k), some (.int p), some (.int (f_30 Z k)), some (.int p), some (.int x6), none]) (stk' := [.int (-1)]) (fun _ _ _ => rfl) ?_
        refine zw_reti (i := .nop) rfl rfl ?_
        exact H
      · rw [if_neg c7] at H
        refine zw_run 1 (pc' := 128) (loc' := [some (.ref 103), some (.int k), some (.int p), some (.int (f_30 Z k)), some (.int p), some (.int x6), none]) (stk' := [.ref 103]) (fun _ _ _ => rfl) ?_
        refine zw_get (v := .ref 63) rfl rfl rfl ?_
        refine zw_run 2 (pc' := 134) (loc' := [some (.ref 103), some (.int k), some (.int p), some (.int (f_30 Z k)), some (.int p), some (.int x6), none]) (stk' := [.int p, .int (f_30 Z k), .ref 63]) (fun _ _ _ => rfl) ?_
        refine zw_callf (As := [.ref 63, .int (f_30 Z k), .int p]) (rest := []) (c_97 (f_30 Z k) p (d := d + 1)) rfl rfl rfl rfl ?_
        show zw fm sx (d + 4) 31 137 [some (.ref 103), some (.int k), some (.int p), some (.int (f_30 Z k)), some (.int p), some (.int x6), none] [.int (bI (f_97 Z (f_30 Z k) p))] Z Q
        refine zw_b1 (b := (f_97 Z (f_30 Z k) p)) (t1 := 142) (t2 := 140) (loc' := [some (.ref 103), some (.int k), some (.int p), some (.int (f_30 Z k)), some (.int p), some (.int x6), none]) (stk' := []) (fun _ _ _ => rfl) (fun c8 => ?_) (fun c8 => ?_)
        · rw [if_pos c8] at H
          refine zw_run 1 (pc' := 143) (loc' := [some (.ref 103), some (.int k), some (.int p), some (.int (f_30 Z k)), some (.int p), some (.int x6), none]) (stk' := [.ref 103]) (fun _ _ _ => rfl) ?_
          refine zw_get (v := .ref 82) rfl rfl rfl ?_
          refine zw_run 2 (pc' := 149) (loc' := [some (.ref 103), some (.int k), some (.int p), some (.int (f_30 Z k)), some (.int p), some (.int x6), none]) (stk' := [.int p, .int (f_30 Z k), .ref 82]) (fun _ _ _ => rfl) ?_
          refine zw_callf (As := [.ref 82, .int (f_30 Z k), .int p]) (rest := []) (c_20 (f_30 Z k) p (d := d + 0)) rfl rfl rfl rfl ?_
          show zw fm sx (d + 4) 31 152 [some (.ref 103), some (.int k), some (.int p), some (.int (f_30 Z k)), some (.int p), some (.int x6), none] [.int ((f_20 Z (f_30 Z k) p).1)] ((f_20 Z (f_30 Z k) p).2) Q
          refine zw_run 3 (pc' := 157) (loc' := [some (.ref 103), some (.int k), some (.int p), some (.int (f_30 Z k)), some (.int p), some (.int x6), some (.int ((f_20 Z (f_30 Z k) p).1))]) (stk' := [.int (-1), .int ((f_20 Z (f_30 Z k) p).1)]) (fun _ _ _ => rfl) ?_
          refine zw_br (c := ¬ ((f_20 Z (f_30 Z k) p).1) = (-1)) (t1 := 162) (t2 := 160) (loc' := [some (.ref 103), some (.int k), some (.int p), some (.int (f_30 Z k)), some (.int p), some (.int x6), some (.int ((f_20 Z (f_30 Z k) p).1))]) (stk' := []) (fun _ _ _ => rfl) (fun c9 => ?_) (fun c9 => ?_)
          · rw [if_pos c9] at H
            refine zw_run 1 (pc' := 163) (loc' := [some (.ref 103), some (.int k), some (.int p), some (.int (f_30 Z k)), some (.int p), some (.int x6), some (.int ((f_20 Z (f_30 Z k) p).1))]) (stk' := [.ref 103]) (fun _ _ _ => rfl) ?_
            refine zw_get (v := .ref 65) rfl rfl rfl ?_
            refine zw_run 6 (pc' := 173) (loc' := [some (.ref 103), some (.int k), some (.int p), some (.int (f_30 Z k)), some (.int p), some (.int x6), some (.int ((f_20 Z (f_30 Z k) p).1))]) (stk' := [.int 0, .int 0, .int 0, .int 0, .int ((f_20 Z (f_30 Z k) p).1), .int 0, .ref 65]) (fun _ _ _ => rfl) ?_
            refine zw_callf (As := [.ref 65, .int 0, .int ((f_20 Z (f_30 Z k) p).1), .int 0, .int 0, .int 0, .int 0]) (rest := []) (c_37 0 ((f_20 Z (f_30 Z k) p).1) 0 0 0 0 (d := d + 1)) rfl rfl rfl rfl ?_
            show zw fm sx (d + 4) 31 176 [some (.ref 103), some (.int k), some (.int p), some (.int (f_30 Z k)), some (.int p), some (.int x6), some (.int ((f_20 Z (f_30 Z k) p).1))] [] (f_37 ((f_20 Z (f_30 Z k) p).2) 0 ((f_20 Z (f_30 Z k) p).1) 0 0 0 0) Q
            obtain ⟨Z10, hZ10⟩ : ∃ w : zr_Z, w = f_37 ((f_20 Z (f_30 Z k) p).2) 0 ((f_20 Z (f_30 Z k) p).1) 0 0 0 0 := ⟨_, rfl⟩
            rw [← hZ10]
            have H := H Z10 hZ10
            refine zw_run 1 (pc' := 178) (loc' := [some (.ref 103), some (.int k), some (.int p), some (.int (f_30 Z k)), some (.int p), some (.int x6), some (.int ((f_20 Z (f_30 Z k) p).1))]) (stk' := [.int x6]) (fun _ _ _ => rfl) ?_
            refine zw_reti (i := .nop) rfl rfl ?_
            exact H
          · rw [if_neg c9] at H
            refine zw_run 1 (pc' := 161) (loc' := [some (.ref 103), some (.int k), some (.int p), some (.int (f_30 Z k)), some (.int p), some (.int x6), some (.int ((f_20 Z (f_30 Z k) p).1))]) (stk' := [.int (-1)]) (fun _ _ _ => rfl) ?_
            refine zw_reti (i := .nop) rfl rfl ?_
            exact H
        · rw [if_neg c8] at H
          refine zw_run 1 (pc' := 141) (loc' := [some (.ref 103), some (.int k), some (.int p), some (.int (f_30 Z k)), some (.int p), some (.int x6), none]) (stk' := [.int (-1)]) (fun _ _ _ => rfl) ?_
          refine zw_reti (i := .nop) rfl rfl ?_
          exact H
    refine zw_br (c := ¬ (zt Z 61 (p + 1)) = 91) (t1 := 107) (t2 := 86) (loc' := [some (.ref 103), some (.int k), some (.int p), some (.int (f_30 Z k)), some (.int p), some (.int ((f_96 Z (p + 2)) + 1)), none]) (stk' := []) (fun _ _ _ => rfl) (fun c2 => ?_) (fun c2 => ?_)
    · skip
      refine zw_run 3 (pc' := 110) (loc' := [some (.ref 103), some (.int k), some (.int p), some (.int (f_30 Z k)), some (.int p), some (.int ((f_96 Z (p + 2)) + 1)), none]) (stk' := [.int (p + 1)]) (fun _ _ _ => rfl) ?_
      exact J5 _ (by first | (rw [if_pos c2]; done) | (clear H J5; simp_all [bI]; done))
    · skip
      refine zw_run 1 (pc' := 87) (loc' := [some (.ref 103), some (.int k), some (.int p), some (.int (f_30 Z k)), some (.int p), some (.int ((f_96 Z (p + 2)) + 1)), none]) (stk' := [.ref 103]) (fun _ _ _ => rfl) ?_
      refine zw_get (v := .ref 61) rfl rfl rfl ?_
      refine zw_run 3 (pc' := 93) (loc' := [some (.ref 103), some (.int k), some (.int p), some (.int (f_30 Z k)), some (.int p), some (.int ((f_96 Z (p + 2)) + 1)), none]) (stk' := [.int (p + 2), .ref 61]) (fun _ _ _ => rfl) ?_
      refine zw_callf (As := [.ref 61, .int (p + 2)]) (rest := []) (c_row_at (id := 61) (by decide) (p + 2) (d := d + 3)) rfl rfl rfl rfl ?_
      show zw fm sx (d + 4) 31 96 [some (.ref 103), some (.int k), some (.int p), some (.int (f_30 Z k)), some (.int p), some (.int ((f_96 Z (p + 2)) + 1)), none] [.int (zt Z 61 (p + 2))] Z Q
      refine zw_run 1 (pc' := 98) (loc' := [some (.ref 103), some (.int k), some (.int p), some (.int (f_30 Z k)), some (.int p), some (.int ((f_96 Z (p + 2)) + 1)), none]) (stk' := [.int 93, .int (zt Z 61 (p + 2))]) (fun _ _ _ => rfl) ?_
      refine zw_br (c := ¬ (zt Z 61 (p + 2)) = 93) (t1 := 107) (t2 := 101) (loc' := [some (.ref 103), some (.int k), some (.int p), some (.int (f_30 Z k)), some (.int p), some (.int ((f_96 Z (p + 2)) + 1)), none]) (stk' := []) (fun _ _ _ => rfl) (fun c3 => ?_) (fun c3 => ?_)
      · skip
        refine zw_run 3 (pc' := 110) (loc' := [some (.ref 103), some (.int k), some (.int p), some (.int (f_30 Z k)), some (.int p), some (.int ((f_96 Z (p + 2)) + 1)), none]) (stk' := [.int (p + 1)]) (fun _ _ _ => rfl) ?_
        exact J5 _ (by first | (rw [if_neg c2, if_pos c3]; done) | (clear H J5; simp_all [bI]; done))
      · skip
        refine zw_run 4 (pc' := 110) (loc' := [some (.ref 103), some (.int k), some (.int p), some (.int (f_30 Z k)), some (.int p), some (.int ((f_96 Z (p + 2)) + 1)), none]) (stk' := [.int (p + 3)]) (fun _ _ _ => rfl) ?_
        exact J5 _ (by first | (rw [if_neg c2, if_neg c3]; done) | (clear H J5; simp_all [bI]; done))
  · rw [if_neg c1] at H
    refine zw_run 1 (pc' := 36) (loc' := [some (.ref 103), some (.int k), some (.int p), some (.int (p + 2)), some (.int (f_96 Z (p + 2))), some (.int ((f_96 Z (p + 2)) + 1)), none]) (stk' := [.ref 103]) (fun _ _ _ => rfl) ?_
    refine zw_get (v := .ref 61) rfl rfl rfl ?_
    refine zw_run 1 (pc' := 41) (loc' := [some (.ref 103), some (.int k), some (.int p), some (.int (p + 2)), some (.int (f_96 Z (p + 2))), some (.int ((f_96 Z (p + 2)) + 1)), none]) (stk' := [.int (f_96 Z (p + 2)), .ref 61]) (fun _ _ _ => rfl) ?_
    refine zw_callf (As := [.ref 61, .int (f_96 Z (p + 2))]) (rest := []) (c_row_at (id := 61) (by decide) (f_96 Z (p + 2)) (d := d + 3)) rfl rfl rfl rfl ?_
    show zw fm sx (d + 4) 31 44 [some (.ref 103), some (.int k), some (.int p), some (.int (p + 2)), some (.int (f_96 Z (p + 2))), some (.int ((f_96 Z (p + 2)) + 1)), none] [.int (zt Z 61 (f_96 Z (p + 2)))] Z Q
    refine zw_run 1 (pc' := 46) (loc' := [some (.ref 103), some (.int k), some (.int p), some (.int (p + 2)), some (.int (f_96 Z (p + 2))), some (.int ((f_96 Z (p + 2)) + 1)), none]) (stk' := [.int 93, .int (zt Z 61 (f_96 Z (p + 2)))]) (fun _ _ _ => rfl) ?_
    refine zw_br (c := ¬ (zt Z 61 (f_96 Z (p + 2))) = 93) (t1 := 62) (t2 := 49) (loc' := [some (.ref 103), some (.int k), some (.int p), some (.int (p + 2)), some (.int (f_96 Z (p + 2))), some (.int ((f_96 Z (p + 2)) + 1)), none]) (stk' := []) (fun _ _ _ => rfl) (fun c11 => ?_) (fun c11 => ?_)
    · rw [if_pos c11] at H
      refine zw_run 2 (pc' := 64) (loc' := [some (.ref 103), some (.int k), some (.int p), some (.int (p + 2)), some (.int (f_96 Z (p + 2))), some (.int ((f_96 Z (p + 2)) + 1)), none]) (stk' := [.int k, .ref 103]) (fun _ _ _ => rfl) ?_
      refine zw_callf (As := [.ref 103, .int k]) (rest := []) (c_30 k (d := d + 2)) rfl rfl rfl rfl ?_
      show zw fm sx (d + 4) 31 67 [some (.ref 103), some (.int k), some (.int p), some (.int (p + 2)), some (.int (f_96 Z (p + 2))), some (.int ((f_96 Z (p + 2)) + 1)), none] [.int (f_30 Z k)] Z Q
      refine zw_run 4 (pc' := 72) (loc' := [some (.ref 103), some (.int k), some (.int p), some (.int (f_30 Z k)), some (.int p), some (.int ((f_96 Z (p + 2)) + 1)), none]) (stk' := [.ref 103]) (fun _ _ _ => rfl) ?_
      refine zw_get (v := .ref 61) rfl rfl rfl ?_
      refine zw_run 3 (pc' := 78) (loc' := [some (.ref 103), some (.int k), some (.int p), some (.int (f_30 Z k)), some (.int p), some (.int ((f_96 Z (p + 2)) + 1)), none]) (stk' := [.int (p + 1), .ref 61]) (fun _ _ _ => rfl) ?_
      refine zw_callf (As := [.ref 61, .int (p + 1)]) (rest := []) (c_row_at (id := 61) (by decide) (p + 1) (d := d + 3)) rfl rfl rfl rfl ?_
      show zw fm sx (d + 4) 31 81 [some (.ref 103), some (.int k), some (.int p), some (.int (f_30 Z k)), some (.int p), some (.int ((f_96 Z (p + 2)) + 1)), none] [.int (zt Z 61 (p + 1))] Z Q
      refine zw_run 1 (pc' := 83) (loc' := [some (.ref 103), some (.int k), some (.int p), some (.int (f_30 Z k)), some (.int p), some (.int ((f_96 Z (p + 2)) + 1)), none]) (stk' := [.int 91, .int (zt Z 61 (p + 1))]) (fun _ _ _ => rfl) ?_
      have J15 : ∀ (v14 : Int32), v14 = (if ¬ (zt Z 61 (p + 1)) = 91 then (p + 1) else (if ¬ (zt Z 61 (p + 2)) = 93 then (p + 1) else (p + 3) : Int32) : Int32) → zw fm sx (d + 4) 31 110 [some (.ref 103), some (.int k), some (.int p), some (.int (f_30 Z k)), some (.int p), some (.int ((f_96 Z (p + 2)) + 1)), none] [.int v14] Z Q := by
        intro v14 ev14
        subst ev14
        refine zw_run 1 (pc' := 112) (loc' := [some (.ref 103), some (.int k), some (.int p), some (.int (f_30 Z k)), some (.int p), some (.int (if ¬ (zt Z 61 (p + 1)) = 91 then (p + 1) else (if ¬ (zt Z 61 (p + 2)) = 93 then (p + 1) else (p + 3) : Int32) : Int32)), none]) (stk' := []) (fun _ _ _ => rfl) ?_
        obtain ⟨x16, hx16⟩ : ∃ w : Int32, w = (if ¬ (zt Z 61 (p + 1)) = 91 then (p + 1) else (if ¬ (zt Z 61 (p + 2)) = 93 then (p + 1) else (p + 3) : Int32) : Int32) := ⟨_, rfl⟩
        rw [← hx16]
        have H := H x16 hx16
        refine zw_run 1 (pc' := 113) (loc' := [some (.ref 103), some (.int k), some (.int p), some (.int (f_30 Z k)), some (.int p), some (.int x16), none]) (stk' := [.ref 103]) (fun _ _ _ => rfl) ?_
        refine zw_get (v := .ref 112) rfl rfl rfl ?_
        refine zw_run 1 (pc' := 117) (loc' := [some (.ref 103), some (.int k), some (.int p), some (.int (f_30 Z k)), some (.int p), some (.int x16), none]) (stk' := [.int k, .ref 112]) (fun _ _ _ => rfl) ?_
        refine zw_callf (As := [.ref 112, .int k]) (rest := []) (c_row_at (id := 112) (by decide) k (d := d + 3)) rfl rfl rfl rfl ?_
        show zw fm sx (d + 4) 31 120 [some (.ref 103), some (.int k), some (.int p), some (.int (f_30 Z k)), some (.int p), some (.int x16), none] [.int (zt Z 112 k)] Z Q
        refine zw_run 1 (pc' := 121) (loc' := [some (.ref 103), some (.int k), some (.int p), some (.int (f_30 Z k)), some (.int p), some (.int x16), none]) (stk' := [.ref 103, .int (zt Z 112 k)]) (fun _ _ _ => rfl) ?_
        refine zw_get (v := .int (zc Z 1)) rfl rfl rfl ?_
        refine zw_br (c := ¬ (zt Z 112 k) = (zc Z 1)) (t1 := 140) (t2 := 127) (loc' := [some (.ref 103), some (.int k), some (.int p), some (.int (f_30 Z k)), some (.int p), some (.int x16), none]) (stk' := []) (fun _ _ _ => rfl) (fun c17 => ?_) (fun c17 => ?_)
        · rw [if_pos c17] at H
          refine zw_run 1 (pc' := 141) (loc' := [some (.ref 103), some (.int k), some (.int p), some (.int (f_30 Z k)), some (.int p), some (.int x16), none]) (stk' := [.int (-1)]) (fun _ _ _ => rfl) ?_
          refine zw_reti (i := .nop) rfl rfl ?_
          exact H
        · rw [if_neg c17] at H
          refine zw_run 1 (pc' := 128) (loc' := [some (.ref 103), some (.int k), some (.int p), some (.int (f_30 Z k)), some (.int p), some (.int x16), none]) (stk' := [.ref 103]) (fun _ _ _ => rfl) ?_
          refine zw_get (v := .ref 63) rfl rfl rfl ?_
          refine zw_run 2 (pc' := 134) (loc' := [some (.ref 103), some (.int k), some (.int p), some (.int (f_30 Z k)), some (.int p), some (.int x16), none]) (stk' := [.int p, .int (f_30 Z k), .ref 63]) (fun _ _ _ => rfl) ?_
          refine zw_callf (As := [.ref 63, .int (f_30 Z k), .int p]) (rest := []) (c_97 (f_30 Z k) p (d := d + 1)) rfl rfl rfl rfl ?_
          show zw fm sx (d + 4) 31 137 [some (.ref 103), some (.int k), some (.int p), some (.int (f_30 Z k)), some (.int p), some (.int x16), none] [.int (bI (f_97 Z (f_30 Z k) p))] Z Q
          refine zw_b1 (b := (f_97 Z (f_30 Z k) p)) (t1 := 142) (t2 := 140) (loc' := [some (.ref 103), some (.int k), some (.int p), some (.int (f_30 Z k)), some (.int p), some (.int x16), none]) (stk' := []) (fun _ _ _ => rfl) (fun c18 => ?_) (fun c18 => ?_)
          · rw [if_pos c18] at H
            refine zw_run 1 (pc' := 143) (loc' := [some (.ref 103), some (.int k), some (.int p), some (.int (f_30 Z k)), some (.int p), some (.int x16), none]) (stk' := [.ref 103]) (fun _ _ _ => rfl) ?_
            refine zw_get (v := .ref 82) rfl rfl rfl ?_
            refine zw_run 2 (pc' := 149) (loc' := [some (.ref 103), some (.int k), some (.int p), some (.int (f_30 Z k)), some (.int p), some (.int x16), none]) (stk' := [.int p, .int (f_30 Z k), .ref 82]) (fun _ _ _ => rfl) ?_
            refine zw_callf (As := [.ref 82, .int (f_30 Z k), .int p]) (rest := []) (c_20 (f_30 Z k) p (d := d + 0)) rfl rfl rfl rfl ?_
            show zw fm sx (d + 4) 31 152 [some (.ref 103), some (.int k), some (.int p), some (.int (f_30 Z k)), some (.int p), some (.int x16), none] [.int ((f_20 Z (f_30 Z k) p).1)] ((f_20 Z (f_30 Z k) p).2) Q
            refine zw_run 3 (pc' := 157) (loc' := [some (.ref 103), some (.int k), some (.int p), some (.int (f_30 Z k)), some (.int p), some (.int x16), some (.int ((f_20 Z (f_30 Z k) p).1))]) (stk' := [.int (-1), .int ((f_20 Z (f_30 Z k) p).1)]) (fun _ _ _ => rfl) ?_
            refine zw_br (c := ¬ ((f_20 Z (f_30 Z k) p).1) = (-1)) (t1 := 162) (t2 := 160) (loc' := [some (.ref 103), some (.int k), some (.int p), some (.int (f_30 Z k)), some (.int p), some (.int x16), some (.int ((f_20 Z (f_30 Z k) p).1))]) (stk' := []) (fun _ _ _ => rfl) (fun c19 => ?_) (fun c19 => ?_)
            · rw [if_pos c19] at H
              refine zw_run 1 (pc' := 163) (loc' := [some (.ref 103), some (.int k), some (.int p), some (.int (f_30 Z k)), some (.int p), some (.int x16), some (.int ((f_20 Z (f_30 Z k) p).1))]) (stk' := [.ref 103]) (fun _ _ _ => rfl) ?_
              refine zw_get (v := .ref 65) rfl rfl rfl ?_
              refine zw_run 6 (pc' := 173) (loc' := [some (.ref 103), some (.int k), some (.int p), some (.int (f_30 Z k)), some (.int p), some (.int x16), some (.int ((f_20 Z (f_30 Z k) p).1))]) (stk' := [.int 0, .int 0, .int 0, .int 0, .int ((f_20 Z (f_30 Z k) p).1), .int 0, .ref 65]) (fun _ _ _ => rfl) ?_
              refine zw_callf (As := [.ref 65, .int 0, .int ((f_20 Z (f_30 Z k) p).1), .int 0, .int 0, .int 0, .int 0]) (rest := []) (c_37 0 ((f_20 Z (f_30 Z k) p).1) 0 0 0 0 (d := d + 1)) rfl rfl rfl rfl ?_
              show zw fm sx (d + 4) 31 176 [some (.ref 103), some (.int k), some (.int p), some (.int (f_30 Z k)), some (.int p), some (.int x16), some (.int ((f_20 Z (f_30 Z k) p).1))] [] (f_37 ((f_20 Z (f_30 Z k) p).2) 0 ((f_20 Z (f_30 Z k) p).1) 0 0 0 0) Q
              obtain ⟨Z20, hZ20⟩ : ∃ w : zr_Z, w = f_37 ((f_20 Z (f_30 Z k) p).2) 0 ((f_20 Z (f_30 Z k) p).1) 0 0 0 0 := ⟨_, rfl⟩
              rw [← hZ20]
              have H := H Z20 hZ20
              refine zw_run 1 (pc' := 178) (loc' := [some (.ref 103), some (.int k), some (.int p), some (.int (f_30 Z k)), some (.int p), some (.int x16), some (.int ((f_20 Z (f_30 Z k) p).1))]) (stk' := [.int x16]) (fun _ _ _ => rfl) ?_
              refine zw_reti (i := .nop) rfl rfl ?_
              exact H
            · rw [if_neg c19] at H
              refine zw_run 1 (pc' := 161) (loc' := [some (.ref 103), some (.int k), some (.int p), some (.int (f_30 Z k)), some (.int p), some (.int x16), some (.int ((f_20 Z (f_30 Z k) p).1))]) (stk' := [.int (-1)]) (fun _ _ _ => rfl) ?_
              refine zw_reti (i := .nop) rfl rfl ?_
              exact H
          · rw [if_neg c18] at H
            refine zw_run 1 (pc' := 141) (loc' := [some (.ref 103), some (.int k), some (.int p), some (.int (f_30 Z k)), some (.int p), some (.int x16), none]) (stk' := [.int (-1)]) (fun _ _ _ => rfl) ?_
            refine zw_reti (i := .nop) rfl rfl ?_
            exact H
      refine zw_br (c := ¬ (zt Z 61 (p + 1)) = 91) (t1 := 107) (t2 := 86) (loc' := [some (.ref 103), some (.int k), some (.int p), some (.int (f_30 Z k)), some (.int p), some (.int ((f_96 Z (p + 2)) + 1)), none]) (stk' := []) (fun _ _ _ => rfl) (fun c12 => ?_) (fun c12 => ?_)
      · skip
        refine zw_run 3 (pc' := 110) (loc' := [some (.ref 103), some (.int k), some (.int p), some (.int (f_30 Z k)), some (.int p), some (.int ((f_96 Z (p + 2)) + 1)), none]) (stk' := [.int (p + 1)]) (fun _ _ _ => rfl) ?_
        exact J15 _ (by first | (rw [if_pos c12]; done) | (clear H J15; simp_all [bI]; done))
      · skip
        refine zw_run 1 (pc' := 87) (loc' := [some (.ref 103), some (.int k), some (.int p), some (.int (f_30 Z k)), some (.int p), some (.int ((f_96 Z (p + 2)) + 1)), none]) (stk' := [.ref 103]) (fun _ _ _ => rfl) ?_
        refine zw_get (v := .ref 61) rfl rfl rfl ?_
        refine zw_run 3 (pc' := 93) (loc' := [some (.ref 103), some (.int k), some (.int p), some (.int (f_30 Z k)), some (.int p), some (.int ((f_96 Z (p + 2)) + 1)), none]) (stk' := [.int (p + 2), .ref 61]) (fun _ _ _ => rfl) ?_
        refine zw_callf (As := [.ref 61, .int (p + 2)]) (rest := []) (c_row_at (id := 61) (by decide) (p + 2) (d := d + 3)) rfl rfl rfl rfl ?_
        show zw fm sx (d + 4) 31 96 [some (.ref 103), some (.int k), some (.int p), some (.int (f_30 Z k)), some (.int p), some (.int ((f_96 Z (p + 2)) + 1)), none] [.int (zt Z 61 (p + 2))] Z Q
        refine zw_run 1 (pc' := 98) (loc' := [some (.ref 103), some (.int k), some (.int p), some (.int (f_30 Z k)), some (.int p), some (.int ((f_96 Z (p + 2)) + 1)), none]) (stk' := [.int 93, .int (zt Z 61 (p + 2))]) (fun _ _ _ => rfl) ?_
        refine zw_br (c := ¬ (zt Z 61 (p + 2)) = 93) (t1 := 107) (t2 := 101) (loc' := [some (.ref 103), some (.int k), some (.int p), some (.int (f_30 Z k)), some (.int p), some (.int ((f_96 Z (p + 2)) + 1)), none]) (stk' := []) (fun _ _ _ => rfl) (fun c13 => ?_) (fun c13 => ?_)
        · skip
          refine zw_run 3 (pc' := 110) (loc' := [some (.ref 103), some (.int k), some (.int p), some (.int (f_30 Z k)), some (.int p), some (.int ((f_96 Z (p + 2)) + 1)), none]) (stk' := [.int (p + 1)]) (fun _ _ _ => rfl) ?_
          exact J15 _ (by first | (rw [if_neg c12, if_pos c13]; done) | (clear H J15; simp_all [bI]; done))
        · skip
          refine zw_run 4 (pc' := 110) (loc' := [some (.ref 103), some (.int k), some (.int p), some (.int (f_30 Z k)), some (.int p), some (.int ((f_96 Z (p + 2)) + 1)), none]) (stk' := [.int (p + 3)]) (fun _ _ _ => rfl) ?_
          exact J15 _ (by first | (rw [if_neg c12, if_neg c13]; done) | (clear H J15; simp_all [bI]; done))
    · rw [if_neg c11] at H
      refine zw_run 1 (pc' := 50) (loc' := [some (.ref 103), some (.int k), some (.int p), some (.int (p + 2)), some (.int (f_96 Z (p + 2))), some (.int ((f_96 Z (p + 2)) + 1)), none]) (stk' := [.ref 103]) (fun _ _ _ => rfl) ?_
      refine zw_get (v := .ref 63) rfl rfl rfl ?_
      refine zw_run 2 (pc' := 56) (loc' := [some (.ref 103), some (.int k), some (.int p), some (.int (p + 2)), some (.int (f_96 Z (p + 2))), some (.int ((f_96 Z (p + 2)) + 1)), none]) (stk' := [.int (f_96 Z (p + 2)), .int (p + 2), .ref 63]) (fun _ _ _ => rfl) ?_
      refine zw_callf (As := [.ref 63, .int (p + 2), .int (f_96 Z (p + 2))]) (rest := []) (c_97 (p + 2) (f_96 Z (p + 2)) (d := d + 1)) rfl rfl rfl rfl ?_
      show zw fm sx (d + 4) 31 59 [some (.ref 103), some (.int k), some (.int p), some (.int (p + 2)), some (.int (f_96 Z (p + 2))), some (.int ((f_96 Z (p + 2)) + 1)), none] [.int (bI (f_97 Z (p + 2) (f_96 Z (p + 2))))] Z Q
      refine zw_b1 (b := (f_97 Z (p + 2) (f_96 Z (p + 2)))) (t1 := 142) (t2 := 62) (loc' := [some (.ref 103), some (.int k), some (.int p), some (.int (p + 2)), some (.int (f_96 Z (p + 2))), some (.int ((f_96 Z (p + 2)) + 1)), none]) (stk' := []) (fun _ _ _ => rfl) (fun c21 => ?_) (fun c21 => ?_)
      · rw [if_pos c21] at H
        refine zw_run 1 (pc' := 143) (loc' := [some (.ref 103), some (.int k), some (.int p), some (.int (p + 2)), some (.int (f_96 Z (p + 2))), some (.int ((f_96 Z (p + 2)) + 1)), none]) (stk' := [.ref 103]) (fun _ _ _ => rfl) ?_
        refine zw_get (v := .ref 82) rfl rfl rfl ?_
        refine zw_run 2 (pc' := 149) (loc' := [some (.ref 103), some (.int k), some (.int p), some (.int (p + 2)), some (.int (f_96 Z (p + 2))), some (.int ((f_96 Z (p + 2)) + 1)), none]) (stk' := [.int (f_96 Z (p + 2)), .int (p + 2), .ref 82]) (fun _ _ _ => rfl) ?_
        refine zw_callf (As := [.ref 82, .int (p + 2), .int (f_96 Z (p + 2))]) (rest := []) (c_20 (p + 2) (f_96 Z (p + 2)) (d := d + 0)) rfl rfl rfl rfl ?_
        show zw fm sx (d + 4) 31 152 [some (.ref 103), some (.int k), some (.int p), some (.int (p + 2)), some (.int (f_96 Z (p + 2))), some (.int ((f_96 Z (p + 2)) + 1)), none] [.int ((f_20 Z (p + 2) (f_96 Z (p + 2))).1)] ((f_20 Z (p + 2) (f_96 Z (p + 2))).2) Q
        refine zw_run 1 (pc' := 154) (loc' := [some (.ref 103), some (.int k), some (.int p), some (.int (p + 2)), some (.int (f_96 Z (p + 2))), some (.int ((f_96 Z (p + 2)) + 1)), some (.int ((f_20 Z (p + 2) (f_96 Z (p + 2))).1))]) (stk' := []) (fun _ _ _ => rfl) ?_
        obtain ⟨x22, hx22⟩ : ∃ w : Int32, w = (f_20 Z (p + 2) (f_96 Z (p + 2))).1 := ⟨_, rfl⟩
        rw [← hx22]
        have H := H x22 hx22
        refine zw_run 2 (pc' := 157) (loc' := [some (.ref 103), some (.int k), some (.int p), some (.int (p + 2)), some (.int (f_96 Z (p + 2))), some (.int ((f_96 Z (p + 2)) + 1)), some (.int x22)]) (stk' := [.int (-1), .int x22]) (fun _ _ _ => rfl) ?_
        refine zw_br (c := ¬ x22 = (-1)) (t1 := 162) (t2 := 160) (loc' := [some (.ref 103), some (.int k), some (.int p), some (.int (p + 2)), some (.int (f_96 Z (p + 2))), some (.int ((f_96 Z (p + 2)) + 1)), some (.int x22)]) (stk' := []) (fun _ _ _ => rfl) (fun c23 => ?_) (fun c23 => ?_)
        · rw [if_pos c23] at H
          refine zw_run 1 (pc' := 163) (loc' := [some (.ref 103), some (.int k), some (.int p), some (.int (p + 2)), some (.int (f_96 Z (p + 2))), some (.int ((f_96 Z (p + 2)) + 1)), some (.int x22)]) (stk' := [.ref 103]) (fun _ _ _ => rfl) ?_
          refine zw_get (v := .ref 65) rfl rfl rfl ?_
          refine zw_run 6 (pc' := 173) (loc' := [some (.ref 103), some (.int k), some (.int p), some (.int (p + 2)), some (.int (f_96 Z (p + 2))), some (.int ((f_96 Z (p + 2)) + 1)), some (.int x22)]) (stk' := [.int 0, .int 0, .int 0, .int 0, .int x22, .int 0, .ref 65]) (fun _ _ _ => rfl) ?_
          refine zw_callf (As := [.ref 65, .int 0, .int x22, .int 0, .int 0, .int 0, .int 0]) (rest := []) (c_37 0 x22 0 0 0 0 (d := d + 1)) rfl rfl rfl rfl ?_
          show zw fm sx (d + 4) 31 176 [some (.ref 103), some (.int k), some (.int p), some (.int (p + 2)), some (.int (f_96 Z (p + 2))), some (.int ((f_96 Z (p + 2)) + 1)), some (.int x22)] [] (f_37 ((f_20 Z (p + 2) (f_96 Z (p + 2))).2) 0 x22 0 0 0 0) Q
          refine zw_run 1 (pc' := 178) (loc' := [some (.ref 103), some (.int k), some (.int p), some (.int (p + 2)), some (.int (f_96 Z (p + 2))), some (.int ((f_96 Z (p + 2)) + 1)), some (.int x22)]) (stk' := [.int ((f_96 Z (p + 2)) + 1)]) (fun _ _ _ => rfl) ?_
          refine zw_reti (i := .nop) rfl rfl ?_
          exact H
        · rw [if_neg c23] at H
          refine zw_run 1 (pc' := 161) (loc' := [some (.ref 103), some (.int k), some (.int p), some (.int (p + 2)), some (.int (f_96 Z (p + 2))), some (.int ((f_96 Z (p + 2)) + 1)), some (.int x22)]) (stk' := [.int (-1)]) (fun _ _ _ => rfl) ?_
          refine zw_reti (i := .nop) rfl rfl ?_
          exact H
      · rw [if_neg c21] at H
        refine zw_run 2 (pc' := 64) (loc' := [some (.ref 103), some (.int k), some (.int p), some (.int (p + 2)), some (.int (f_96 Z (p + 2))), some (.int ((f_96 Z (p + 2)) + 1)), none]) (stk' := [.int k, .ref 103]) (fun _ _ _ => rfl) ?_
        refine zw_callf (As := [.ref 103, .int k]) (rest := []) (c_30 k (d := d + 2)) rfl rfl rfl rfl ?_
        show zw fm sx (d + 4) 31 67 [some (.ref 103), some (.int k), some (.int p), some (.int (p + 2)), some (.int (f_96 Z (p + 2))), some (.int ((f_96 Z (p + 2)) + 1)), none] [.int (f_30 Z k)] Z Q
        refine zw_run 4 (pc' := 72) (loc' := [some (.ref 103), some (.int k), some (.int p), some (.int (f_30 Z k)), some (.int p), some (.int ((f_96 Z (p + 2)) + 1)), none]) (stk' := [.ref 103]) (fun _ _ _ => rfl) ?_
        refine zw_get (v := .ref 61) rfl rfl rfl ?_
        refine zw_run 3 (pc' := 78) (loc' := [some (.ref 103), some (.int k), some (.int p), some (.int (f_30 Z k)), some (.int p), some (.int ((f_96 Z (p + 2)) + 1)), none]) (stk' := [.int (p + 1), .ref 61]) (fun _ _ _ => rfl) ?_
        refine zw_callf (As := [.ref 61, .int (p + 1)]) (rest := []) (c_row_at (id := 61) (by decide) (p + 1) (d := d + 3)) rfl rfl rfl rfl ?_
        show zw fm sx (d + 4) 31 81 [some (.ref 103), some (.int k), some (.int p), some (.int (f_30 Z k)), some (.int p), some (.int ((f_96 Z (p + 2)) + 1)), none] [.int (zt Z 61 (p + 1))] Z Q
        refine zw_run 1 (pc' := 83) (loc' := [some (.ref 103), some (.int k), some (.int p), some (.int (f_30 Z k)), some (.int p), some (.int ((f_96 Z (p + 2)) + 1)), none]) (stk' := [.int 91, .int (zt Z 61 (p + 1))]) (fun _ _ _ => rfl) ?_
        have J27 : ∀ (v26 : Int32), v26 = (if ¬ (zt Z 61 (p + 1)) = 91 then (p + 1) else (if ¬ (zt Z 61 (p + 2)) = 93 then (p + 1) else (p + 3) : Int32) : Int32) → zw fm sx (d + 4) 31 110 [some (.ref 103), some (.int k), some (.int p), some (.int (f_30 Z k)), some (.int p), some (.int ((f_96 Z (p + 2)) + 1)), none] [.int v26] Z Q := by
          intro v26 ev26
          subst ev26
          refine zw_run 1 (pc' := 112) (loc' := [some (.ref 103), some (.int k), some (.int p), some (.int (f_30 Z k)), some (.int p), some (.int (if ¬ (zt Z 61 (p + 1)) = 91 then (p + 1) else (if ¬ (zt Z 61 (p + 2)) = 93 then (p + 1) else (p + 3) : Int32) : Int32)), none]) (stk' := []) (fun _ _ _ => rfl) ?_
          obtain ⟨x28, hx28⟩ : ∃ w : Int32, w = (if ¬ (zt Z 61 (p + 1)) = 91 then (p + 1) else (if ¬ (zt Z 61 (p + 2)) = 93 then (p + 1) else (p + 3) : Int32) : Int32) := ⟨_, rfl⟩
          rw [← hx28]
          have H := H x28 hx28
          refine zw_run 1 (pc' := 113) (loc' := [some (.ref 103), some (.int k), some (.int p), some (.int (f_30 Z k)), some (.int p), some (.int x28), none]) (stk' := [.ref 103]) (fun _ _ _ => rfl) ?_
          refine zw_get (v := .ref 112) rfl rfl rfl ?_
          refine zw_run 1 (pc' := 117) (loc' := [some (.ref 103), some (.int k), some (.int p), some (.int (f_30 Z k)), some (.int p), some (.int x28), none]) (stk' := [.int k, .ref 112]) (fun _ _ _ => rfl) ?_
          refine zw_callf (As := [.ref 112, .int k]) (rest := []) (c_row_at (id := 112) (by decide) k (d := d + 3)) rfl rfl rfl rfl ?_
          show zw fm sx (d + 4) 31 120 [some (.ref 103), some (.int k), some (.int p), some (.int (f_30 Z k)), some (.int p), some (.int x28), none] [.int (zt Z 112 k)] Z Q
          refine zw_run 1 (pc' := 121) (loc' := [some (.ref 103), some (.int k), some (.int p), some (.int (f_30 Z k)), some (.int p), some (.int x28), none]) (stk' := [.ref 103, .int (zt Z 112 k)]) (fun _ _ _ => rfl) ?_
          refine zw_get (v := .int (zc Z 1)) rfl rfl rfl ?_
          refine zw_br (c := ¬ (zt Z 112 k) = (zc Z 1)) (t1 := 140) (t2 := 127) (loc' := [some (.ref 103), some (.int k), some (.int p), some (.int (f_30 Z k)), some (.int p), some (.int x28), none]) (stk' := []) (fun _ _ _ => rfl) (fun c29 => ?_) (fun c29 => ?_)
          · rw [if_pos c29] at H
            refine zw_run 1 (pc' := 141) (loc' := [some (.ref 103), some (.int k), some (.int p), some (.int (f_30 Z k)), some (.int p), some (.int x28), none]) (stk' := [.int (-1)]) (fun _ _ _ => rfl) ?_
            refine zw_reti (i := .nop) rfl rfl ?_
            exact H
          · rw [if_neg c29] at H
            refine zw_run 1 (pc' := 128) (loc' := [some (.ref 103), some (.int k), some (.int p), some (.int (f_30 Z k)), some (.int p), some (.int x28), none]) (stk' := [.ref 103]) (fun _ _ _ => rfl) ?_
            refine zw_get (v := .ref 63) rfl rfl rfl ?_
            refine zw_run 2 (pc' := 134) (loc' := [some (.ref 103), some (.int k), some (.int p), some (.int (f_30 Z k)), some (.int p), some (.int x28), none]) (stk' := [.int p, .int (f_30 Z k), .ref 63]) (fun _ _ _ => rfl) ?_
            refine zw_callf (As := [.ref 63, .int (f_30 Z k), .int p]) (rest := []) (c_97 (f_30 Z k) p (d := d + 1)) rfl rfl rfl rfl ?_
            show zw fm sx (d + 4) 31 137 [some (.ref 103), some (.int k), some (.int p), some (.int (f_30 Z k)), some (.int p), some (.int x28), none] [.int (bI (f_97 Z (f_30 Z k) p))] Z Q
            refine zw_b1 (b := (f_97 Z (f_30 Z k) p)) (t1 := 142) (t2 := 140) (loc' := [some (.ref 103), some (.int k), some (.int p), some (.int (f_30 Z k)), some (.int p), some (.int x28), none]) (stk' := []) (fun _ _ _ => rfl) (fun c30 => ?_) (fun c30 => ?_)
            · rw [if_pos c30] at H
              refine zw_run 1 (pc' := 143) (loc' := [some (.ref 103), some (.int k), some (.int p), some (.int (f_30 Z k)), some (.int p), some (.int x28), none]) (stk' := [.ref 103]) (fun _ _ _ => rfl) ?_
              refine zw_get (v := .ref 82) rfl rfl rfl ?_
              refine zw_run 2 (pc' := 149) (loc' := [some (.ref 103), some (.int k), some (.int p), some (.int (f_30 Z k)), some (.int p), some (.int x28), none]) (stk' := [.int p, .int (f_30 Z k), .ref 82]) (fun _ _ _ => rfl) ?_
              refine zw_callf (As := [.ref 82, .int (f_30 Z k), .int p]) (rest := []) (c_20 (f_30 Z k) p (d := d + 0)) rfl rfl rfl rfl ?_
              show zw fm sx (d + 4) 31 152 [some (.ref 103), some (.int k), some (.int p), some (.int (f_30 Z k)), some (.int p), some (.int x28), none] [.int ((f_20 Z (f_30 Z k) p).1)] ((f_20 Z (f_30 Z k) p).2) Q
              refine zw_run 3 (pc' := 157) (loc' := [some (.ref 103), some (.int k), some (.int p), some (.int (f_30 Z k)), some (.int p), some (.int x28), some (.int ((f_20 Z (f_30 Z k) p).1))]) (stk' := [.int (-1), .int ((f_20 Z (f_30 Z k) p).1)]) (fun _ _ _ => rfl) ?_
              refine zw_br (c := ¬ ((f_20 Z (f_30 Z k) p).1) = (-1)) (t1 := 162) (t2 := 160) (loc' := [some (.ref 103), some (.int k), some (.int p), some (.int (f_30 Z k)), some (.int p), some (.int x28), some (.int ((f_20 Z (f_30 Z k) p).1))]) (stk' := []) (fun _ _ _ => rfl) (fun c31 => ?_) (fun c31 => ?_)
              · rw [if_pos c31] at H
                refine zw_run 1 (pc' := 163) (loc' := [some (.ref 103), some (.int k), some (.int p), some (.int (f_30 Z k)), some (.int p), some (.int x28), some (.int ((f_20 Z (f_30 Z k) p).1))]) (stk' := [.ref 103]) (fun _ _ _ => rfl) ?_
                refine zw_get (v := .ref 65) rfl rfl rfl ?_
                refine zw_run 6 (pc' := 173) (loc' := [some (.ref 103), some (.int k), some (.int p), some (.int (f_30 Z k)), some (.int p), some (.int x28), some (.int ((f_20 Z (f_30 Z k) p).1))]) (stk' := [.int 0, .int 0, .int 0, .int 0, .int ((f_20 Z (f_30 Z k) p).1), .int 0, .ref 65]) (fun _ _ _ => rfl) ?_
                refine zw_callf (As := [.ref 65, .int 0, .int ((f_20 Z (f_30 Z k) p).1), .int 0, .int 0, .int 0, .int 0]) (rest := []) (c_37 0 ((f_20 Z (f_30 Z k) p).1) 0 0 0 0 (d := d + 1)) rfl rfl rfl rfl ?_
                show zw fm sx (d + 4) 31 176 [some (.ref 103), some (.int k), some (.int p), some (.int (f_30 Z k)), some (.int p), some (.int x28), some (.int ((f_20 Z (f_30 Z k) p).1))] [] (f_37 ((f_20 Z (f_30 Z k) p).2) 0 ((f_20 Z (f_30 Z k) p).1) 0 0 0 0) Q
                obtain ⟨Z32, hZ32⟩ : ∃ w : zr_Z, w = f_37 ((f_20 Z (f_30 Z k) p).2) 0 ((f_20 Z (f_30 Z k) p).1) 0 0 0 0 := ⟨_, rfl⟩
                rw [← hZ32]
                have H := H Z32 hZ32
                refine zw_run 1 (pc' := 178) (loc' := [some (.ref 103), some (.int k), some (.int p), some (.int (f_30 Z k)), some (.int p), some (.int x28), some (.int ((f_20 Z (f_30 Z k) p).1))]) (stk' := [.int x28]) (fun _ _ _ => rfl) ?_
                refine zw_reti (i := .nop) rfl rfl ?_
                exact H
              · rw [if_neg c31] at H
                refine zw_run 1 (pc' := 161) (loc' := [some (.ref 103), some (.int k), some (.int p), some (.int (f_30 Z k)), some (.int p), some (.int x28), some (.int ((f_20 Z (f_30 Z k) p).1))]) (stk' := [.int (-1)]) (fun _ _ _ => rfl) ?_
                refine zw_reti (i := .nop) rfl rfl ?_
                exact H
            · rw [if_neg c30] at H
              refine zw_run 1 (pc' := 141) (loc' := [some (.ref 103), some (.int k), some (.int p), some (.int (f_30 Z k)), some (.int p), some (.int x28), none]) (stk' := [.int (-1)]) (fun _ _ _ => rfl) ?_
              refine zw_reti (i := .nop) rfl rfl ?_
              exact H
        refine zw_br (c := ¬ (zt Z 61 (p + 1)) = 91) (t1 := 107) (t2 := 86) (loc' := [some (.ref 103), some (.int k), some (.int p), some (.int (f_30 Z k)), some (.int p), some (.int ((f_96 Z (p + 2)) + 1)), none]) (stk' := []) (fun _ _ _ => rfl) (fun c24 => ?_) (fun c24 => ?_)
        · skip
          refine zw_run 3 (pc' := 110) (loc' := [some (.ref 103), some (.int k), some (.int p), some (.int (f_30 Z k)), some (.int p), some (.int ((f_96 Z (p + 2)) + 1)), none]) (stk' := [.int (p + 1)]) (fun _ _ _ => rfl) ?_
          exact J27 _ (by first | (rw [if_pos c24]; done) | (clear H J27; simp_all [bI]; done))
        · skip
          refine zw_run 1 (pc' := 87) (loc' := [some (.ref 103), some (.int k), some (.int p), some (.int (f_30 Z k)), some (.int p), some (.int ((f_96 Z (p + 2)) + 1)), none]) (stk' := [.ref 103]) (fun _ _ _ => rfl) ?_
          refine zw_get (v := .ref 61) rfl rfl rfl ?_
          refine zw_run 3 (pc' := 93) (loc' := [some (.ref 103), some (.int k), some (.int p), some (.int (f_30 Z k)), some (.int p), some (.int ((f_96 Z (p + 2)) + 1)), none]) (stk' := [.int (p + 2), .ref 61]) (fun _ _ _ => rfl) ?_
          refine zw_callf (As := [.ref 61, .int (p + 2)]) (rest := []) (c_row_at (id := 61) (by decide) (p + 2) (d := d + 3)) rfl rfl rfl rfl ?_
          show zw fm sx (d + 4) 31 96 [some (.ref 103), some (.int k), some (.int p), some (.int (f_30 Z k)), some (.int p), some (.int ((f_96 Z (p + 2)) + 1)), none] [.int (zt Z 61 (p + 2))] Z Q
          refine zw_run 1 (pc' := 98) (loc' := [some (.ref 103), some (.int k), some (.int p), some (.int (f_30 Z k)), some (.int p), some (.int ((f_96 Z (p + 2)) + 1)), none]) (stk' := [.int 93, .int (zt Z 61 (p + 2))]) (fun _ _ _ => rfl) ?_
          refine zw_br (c := ¬ (zt Z 61 (p + 2)) = 93) (t1 := 107) (t2 := 101) (loc' := [some (.ref 103), some (.int k), some (.int p), some (.int (f_30 Z k)), some (.int p), some (.int ((f_96 Z (p + 2)) + 1)), none]) (stk' := []) (fun _ _ _ => rfl) (fun c25 => ?_) (fun c25 => ?_)
          · skip
            refine zw_run 3 (pc' := 110) (loc' := [some (.ref 103), some (.int k), some (.int p), some (.int (f_30 Z k)), some (.int p), some (.int ((f_96 Z (p + 2)) + 1)), none]) (stk' := [.int (p + 1)]) (fun _ _ _ => rfl) ?_
            exact J27 _ (by first | (rw [if_neg c24, if_pos c25]; done) | (clear H J27; simp_all [bI]; done))
          · skip
            refine zw_run 4 (pc' := 110) (loc' := [some (.ref 103), some (.int k), some (.int p), some (.int (f_30 Z k)), some (.int p), some (.int ((f_96 Z (p + 2)) + 1)), none]) (stk' := [.int (p + 3)]) (fun _ _ _ => rfl) ?_
            exact J27 _ (by first | (rw [if_neg c24, if_neg c25]; done) | (clear H J27; simp_all [bI]; done))
theorem t_31 {fm : Value} {sx : Nat × (Nat → Int32)} {d : Nat} {Z : zr_Z} {Q : Option Value → zr_Z → Prop} (k : Int32) (p : Int32) (HQ : Q (some (.int (f_31 Z k p).1)) (f_31 Z k p).2) : zw fm sx (d + 4) 31 0 [some (.ref 103), some (.int k), some (.int p), none, none, none, none] [] Z Q := by
  refine b_31 k p ?_
  unfold f_31 at HQ
  by_cases c1 : ¬ (zt Z 61 (p + 1)) = 91
  · rw [if_pos c1] at HQ ⊢
    intro x6 hx6
    rw [← hx6] at HQ
    try dsimp only at HQ
    by_cases c7 : ¬ (zt Z 112 k) = (zc Z 1)
    · rw [if_pos c7] at HQ ⊢
      exact HQ
    · rw [if_neg c7] at HQ ⊢
      by_cases c8 : (f_97 Z (f_30 Z k) p) = true
      · rw [if_pos c8] at HQ ⊢
        by_cases c9 : ¬ ((f_20 Z (f_30 Z k) p).1) = (-1)
        · rw [if_pos c9] at HQ ⊢
          intro Z10 hZ10
          rw [← hZ10] at HQ
          try dsimp only at HQ
          exact HQ
        · rw [if_neg c9] at HQ ⊢
          exact HQ
      · rw [if_neg c8] at HQ ⊢
        exact HQ
  · rw [if_neg c1] at HQ ⊢
    by_cases c11 : ¬ (zt Z 61 (f_96 Z (p + 2))) = 93
    · rw [if_pos c11] at HQ ⊢
      intro x16 hx16
      rw [← hx16] at HQ
      try dsimp only at HQ
      by_cases c17 : ¬ (zt Z 112 k) = (zc Z 1)
      · rw [if_pos c17] at HQ ⊢
        exact HQ
      · rw [if_neg c17] at HQ ⊢
        by_cases c18 : (f_97 Z (f_30 Z k) p) = true
        · rw [if_pos c18] at HQ ⊢
          by_cases c19 : ¬ ((f_20 Z (f_30 Z k) p).1) = (-1)
          · rw [if_pos c19] at HQ ⊢
            intro Z20 hZ20
            rw [← hZ20] at HQ
            try dsimp only at HQ
            exact HQ
          · rw [if_neg c19] at HQ ⊢
            exact HQ
        · rw [if_neg c18] at HQ ⊢
          exact HQ
    · rw [if_neg c11] at HQ ⊢
      by_cases c21 : (f_97 Z (p + 2) (f_96 Z (p + 2))) = true
      · rw [if_pos c21] at HQ ⊢
        intro x22 hx22
        rw [← hx22] at HQ
        try dsimp only at HQ
        by_cases c23 : ¬ x22 = (-1)
        · rw [if_pos c23] at HQ ⊢
          exact HQ
        · rw [if_neg c23] at HQ ⊢
          exact HQ
      · rw [if_neg c21] at HQ ⊢
        intro x28 hx28
        rw [← hx28] at HQ
        try dsimp only at HQ
        by_cases c29 : ¬ (zt Z 112 k) = (zc Z 1)
        · rw [if_pos c29] at HQ ⊢
          exact HQ
        · rw [if_neg c29] at HQ ⊢
          by_cases c30 : (f_97 Z (f_30 Z k) p) = true
          · rw [if_pos c30] at HQ ⊢
            by_cases c31 : ¬ ((f_20 Z (f_30 Z k) p).1) = (-1)
            · rw [if_pos c31] at HQ ⊢
              intro Z32 hZ32
              rw [← hZ32] at HQ
              try dsimp only at HQ
              exact HQ
            · rw [if_neg c31] at HQ ⊢
              exact HQ
          · rw [if_neg c30] at HQ ⊢
            exact HQ
theorem c_31 {fm : Value} {sx : Nat × (Nat → Int32)} {d : Nat} {Z : zr_Z} (k : Int32) (p : Int32) : zl fm sx (d + 5) 31 [.ref 103, .int k, .int p] Z (fun r Z' => r = some (.int (f_31 Z k p).1) ∧ Z' = (f_31 Z k p).2) :=
  zl_of (nL := 7) (loc0 := [some (.ref 103), some (.int k), some (.int p), none, none, none, none]) rfl rfl rfl (t_31 k p ⟨rfl, rfl⟩)
