/-! walks into Option; written by wip/whole/gen_opt.py -/
/-- MarkInlinesModel.keep -/
def o_122 (Z : zr_Z) (c : Int32) : Option zr_Z := (if inq 142 (zf Z 10) then some (zmf (zar Z 142 (zf Z 10) c) 10 ((zf Z 10) + 1)) else none)
set_option maxRecDepth 100000 in
set_option maxHeartbeats 4000000 in
theorem t_122 {fm : Value} {sx : Nat × (Nat → Int32)} {d : Nat} {Z : zr_Z} {Q : Option Value → zr_Z → Prop} (hu : fm = .null ∨ ∃ q, fm = .ref q) (c : Int32) (H : oq (o_122 Z c) (fun x => Q none x)) : zw fm sx (d + 0) 122 0 [some (.ref 136), some (.int c)] [] Z Q := by
  unfold o_122 at H
  refine zw_run 1 (pc' := 1) (loc' := [some (.ref 136), some (.int c)]) (stk' := [.ref 136]) (fun _ _ _ => rfl) ?_
  refine zw_mget (v := .ref 142) rfl rfl ?_
  refine zw_run 1 (pc' := 5) (loc' := [some (.ref 136), some (.int c)]) (stk' := [.ref 136, .ref 142]) (fun _ _ _ => rfl) ?_
  refine zw_mget (v := .int (zf Z 10)) rfl rfl ?_
  refine zw_run 1 (pc' := 9) (loc' := [some (.ref 136), some (.int c)]) (stk' := [.int c, .int (zf Z 10), .ref 142]) (fun _ _ _ => rfl) ?_
  obtain ⟨b1, H⟩ := oq_ob H
  refine zw_iast (j := 142) rfl (by decide) (by decide) rfl b1 ?_
  show zw fm sx (d + 0) 122 10 [some (.ref 136), some (.int c)] [] (zar Z 142 (zf Z 10) c) Q
  refine zw_run 2 (pc' := 12) (loc' := [some (.ref 136), some (.int c)]) (stk' := [.ref 136, .ref 136]) (fun _ _ _ => rfl) ?_
  refine zw_mget (v := .int (zf Z 10)) rfl rfl ?_
  refine zw_run 2 (pc' := 17) (loc' := [some (.ref 136), some (.int c)]) (stk' := [.int ((zf Z 10) + 1), .ref 136]) (fun _ _ _ => rfl) ?_
  refine zw_mput rfl rfl rfl rfl ?_
  show zw fm sx (d + 0) 122 20 [some (.ref 136), some (.int c)] [] (zmf (zar Z 142 (zf Z 10) c) 10 ((zf Z 10) + 1)) Q
  refine zw_retv rfl rfl ?_
  have H := oq_some H
  exact H
theorem c_122 {fm : Value} {sx : Nat × (Nat → Int32)} {d : Nat} {Z : zr_Z} (hu : fm = .null ∨ ∃ q, fm = .ref q) (c : Int32) {x : zr_Z} (hx : o_122 Z c = some x) : zl fm sx (d + 1) 122 [.ref 136, .int c] Z (fun r Z' => r = none ∧ Z' = x) :=
  zl_of (nL := 2) (loc0 := [some (.ref 136), some (.int c)]) rfl rfl rfl (t_122 hu c ⟨x, hx, rfl, rfl⟩)
/-- MarkInlinesModel.unescape, its loop at 8 -/
def g_120_8 : Nat → zr_Z → Int32 → Int32 → Int32 → Int32 → Option (Int32 × zr_Z)
  | 0, _, _, _, _, _ => none
  | n + 1, Z, a, b, x3, x4 => (if sok Z then (if b ≤ x4 then some ((zf Z 10) - x3, Z) else (if (rp Z x4) = true then (Option.bind (o_122 Z (ra Z (x4 + 1))) fun u3 => (if sok u3 then g_120_8 n u3 a b x3 (x4 + 2) else none)) else (Option.bind (o_113 Z x4) fun u4 => (if sok u4.2 then (if u4.1 = true then (if b < (zf u4.2 50) then (Option.bind (o_122 u4.2 (ra u4.2 x4)) fun u7 => (if sok u7 then g_120_8 n u7 a b x3 (x4 + 1) else none)) else (Option.bind (o_122 u4.2 (if (k_182 (zf u4.2 51)) = true then 65533 else (zf u4.2 51) : Int32)) fun u11 => (if sok u11 then g_120_8 n u11 a b x3 (zf u11 50) else none))) else (Option.bind (o_122 u4.2 (ra u4.2 x4)) fun u12 => (if sok u12 then g_120_8 n u12 a b x3 (x4 + 1) else none))) else none)))) else none)
set_option maxRecDepth 100000 in
set_option maxHeartbeats 4000000 in
theorem l_120_8 {fm : Value} {sx : Nat × (Nat → Int32)} {d : Nat} {Q : Option Value → zr_Z → Prop} (hu : fm = .null ∨ ∃ q, fm = .ref q) (a : Int32) (b : Int32) : ∀ (n : Nat) (Z : zr_Z) (x3 : Int32) (x4 : Int32), oq (g_120_8 n Z a b x3 x4) (fun x => Q (some (.int x.1)) x.2) → zw fm sx (d + 3) 120 8 [some (.ref 136), none, some (.int b), some (.int x3), some (.int x4)] [] Z Q := by
  intro n
  induction n with
  | zero => intro Z x3 x4 H; exact absurd H oq_none
  | succ n ih =>
    intro Z x3 x4 H
    unfold g_120_8 at H
    obtain ⟨hS, H⟩ := oq_ob H
    refine zw_run 2 (pc' := 11) (loc' := [some (.ref 136), none, some (.int b), some (.int x3), some (.int x4)]) (stk' := [.int b, .int x4]) (fun _ _ _ => rfl) ?_
    refine zw_br (c := b ≤ x4) (t1 := 106) (t2 := 14) (loc' := [some (.ref 136), none, some (.int b), some (.int x3), some (.int x4)]) (stk' := []) (fun _ _ _ => rfl) (fun c1 => ?_) (fun c1 => ?_)
    · rw [if_pos c1] at H
      refine zw_run 1 (pc' := 107) (loc' := [some (.ref 136), none, some (.int b), some (.int x3), some (.int x4)]) (stk' := [.ref 136]) (fun _ _ _ => rfl) ?_
      refine zw_mget (v := .int (zf Z 10)) rfl rfl ?_
      refine zw_run 2 (pc' := 112) (loc' := [some (.ref 136), none, some (.int b), some (.int x3), some (.int x4)]) (stk' := [.int ((zf Z 10) - x3)]) (fun _ _ _ => rfl) ?_
      refine zw_reti (i := .nop) rfl rfl ?_
      have H := oq_some H
      exact H
    · rw [if_neg c1] at H
      refine zw_run 2 (pc' := 17) (loc' := [some (.ref 136), none, some (.int b), some (.int x3), some (.int x4)]) (stk' := [.int x4, .ref 136]) (fun _ _ _ => rfl) ?_
      refine zw_callf (As := [.ref 136, .int x4]) (rest := []) (c_111 (Z := Z) hS x4 (d := d + 1)) rfl rfl rfl rfl ?_
      show zw fm sx (d + 3) 120 20 [some (.ref 136), none, some (.int b), some (.int x3), some (.int x4)] [.int (bI (rp Z x4))] Z Q
      refine zw_b0 (b := (rp Z x4)) (t1 := 23) (t2 := 41) (loc' := [some (.ref 136), none, some (.int b), some (.int x3), some (.int x4)]) (stk' := []) (fun _ _ _ => rfl) (fun c2 => ?_) (fun c2 => ?_)
      · rw [if_pos c2] at H
        refine zw_run 5 (pc' := 29) (loc' := [some (.ref 136), none, some (.int b), some (.int x3), some (.int x4)]) (stk' := [.int (x4 + 1), .ref 136, .ref 136]) (fun _ _ _ => rfl) ?_
        refine zw_callf (As := [.ref 136, .int (x4 + 1)]) (rest := [.ref 136]) (c_183 (Z := Z) hS (x4 + 1) (d := d + 2)) rfl rfl rfl rfl ?_
        show zw fm sx (d + 3) 120 32 [some (.ref 136), none, some (.int b), some (.int x3), some (.int x4)] [.int (ra Z (x4 + 1)), .ref 136] Z Q
        obtain ⟨u3, hu3, H⟩ := oq_bind H
        refine zw_callf (As := [.ref 136, .int (ra Z (x4 + 1))]) (rest := []) (c_122 hu (ra Z (x4 + 1)) hu3 (d := d + 2)) rfl rfl rfl rfl ?_
        show zw fm sx (d + 3) 120 35 [some (.ref 136), none, some (.int b), some (.int x3), some (.int x4)] [] u3 Q
        obtain ⟨hS, H⟩ := oq_ob H
        refine zw_run 2 (pc' := 8) (loc' := [some (.ref 136), none, some (.int b), some (.int x3), some (.int (x4 + 2))]) (stk' := []) (fun _ _ _ => rfl) ?_
        exact ih u3 x3 (x4 + 2) H
      · rw [if_neg c2] at H
        refine zw_run 2 (pc' := 44) (loc' := [some (.ref 136), none, some (.int b), some (.int x3), some (.int x4)]) (stk' := [.int x4, .ref 136]) (fun _ _ _ => rfl) ?_
        obtain ⟨u4, hu4, H⟩ := oq_bind H
        refine zw_callf (As := [.ref 136, .int x4]) (rest := []) (c_113 hu x4 hu4 (d := d + 0)) rfl rfl rfl rfl ?_
        show zw fm sx (d + 3) 120 47 [some (.ref 136), none, some (.int b), some (.int x3), some (.int x4)] [.int (bI u4.1)] u4.2 Q
        obtain ⟨hS, H⟩ := oq_ob H
        refine zw_b0 (b := u4.1) (t1 := 50) (t2 := 90) (loc' := [some (.ref 136), none, some (.int b), some (.int x3), some (.int x4)]) (stk' := []) (fun _ _ _ => rfl) (fun c5 => ?_) (fun c5 => ?_)
        · rw [if_pos c5] at H
          refine zw_run 1 (pc' := 51) (loc' := [some (.ref 136), none, some (.int b), some (.int x3), some (.int x4)]) (stk' := [.ref 136]) (fun _ _ _ => rfl) ?_
          refine zw_mget (v := .int (zf u4.2 50)) rfl rfl ?_
          refine zw_run 1 (pc' := 55) (loc' := [some (.ref 136), none, some (.int b), some (.int x3), some (.int x4)]) (stk' := [.int b, .int (zf u4.2 50)]) (fun _ _ _ => rfl) ?_
          refine zw_br (c := b < (zf u4.2 50)) (t1 := 90) (t2 := 58) (loc' := [some (.ref 136), none, some (.int b), some (.int x3), some (.int x4)]) (stk' := []) (fun _ _ _ => rfl) (fun c6 => ?_) (fun c6 => ?_)
          · rw [if_pos c6] at H
            refine zw_run 3 (pc' := 94) (loc' := [some (.ref 136), none, some (.int b), some (.int x3), some (.int x4)]) (stk' := [.int x4, .ref 136, .ref 136]) (fun _ _ _ => rfl) ?_
            refine zw_callf (As := [.ref 136, .int x4]) (rest := [.ref 136]) (c_183 (Z := u4.2) hS x4 (d := d + 2)) rfl rfl rfl rfl ?_
            show zw fm sx (d + 3) 120 97 [some (.ref 136), none, some (.int b), some (.int x3), some (.int x4)] [.int (ra u4.2 x4), .ref 136] u4.2 Q
            obtain ⟨u7, hu7, H⟩ := oq_bind H
            refine zw_callf (As := [.ref 136, .int (ra u4.2 x4)]) (rest := []) (c_122 hu (ra u4.2 x4) hu7 (d := d + 2)) rfl rfl rfl rfl ?_
            show zw fm sx (d + 3) 120 100 [some (.ref 136), none, some (.int b), some (.int x3), some (.int x4)] [] u7 Q
            obtain ⟨hS, H⟩ := oq_ob H
            refine zw_run 2 (pc' := 8) (loc' := [some (.ref 136), none, some (.int b), some (.int x3), some (.int (x4 + 1))]) (stk' := []) (fun _ _ _ => rfl) ?_
            exact ih u7 x3 (x4 + 1) H
          · rw [if_neg c6] at H
            refine zw_run 2 (pc' := 60) (loc' := [some (.ref 136), none, some (.int b), some (.int x3), some (.int x4)]) (stk' := [.ref 136, .ref 136]) (fun _ _ _ => rfl) ?_
            refine zw_mget (v := .int (zf u4.2 51)) rfl rfl ?_
            refine zw_callf (As := [.int (zf u4.2 51)]) (rest := [.ref 136]) (c_182 (zf u4.2 51) (d := d + 2)) rfl rfl rfl rfl ?_
            show zw fm sx (d + 3) 120 66 [some (.ref 136), none, some (.int b), some (.int x3), some (.int x4)] [.int (bI (k_182 (zf u4.2 51))), .ref 136] u4.2 Q
            have J10 : ∀ (v9 : Int32), v9 = (if (k_182 (zf u4.2 51)) = true then 65533 else (zf u4.2 51) : Int32) → zw fm sx (d + 3) 120 78 [some (.ref 136), none, some (.int b), some (.int x3), some (.int x4)] [.int v9, .ref 136] u4.2 Q := by
              intro v9 ev9
              subst ev9
              obtain ⟨u11, hu11, H⟩ := oq_bind H
              refine zw_callf (As := [.ref 136, .int (if (k_182 (zf u4.2 51)) = true then 65533 else (zf u4.2 51) : Int32)]) (rest := []) (c_122 hu (if (k_182 (zf u4.2 51)) = true then 65533 else (zf u4.2 51) : Int32) hu11 (d := d + 2)) rfl rfl rfl rfl ?_
              show zw fm sx (d + 3) 120 81 [some (.ref 136), none, some (.int b), some (.int x3), some (.int x4)] [] u11 Q
              obtain ⟨hS, H⟩ := oq_ob H
              refine zw_run 1 (pc' := 82) (loc' := [some (.ref 136), none, some (.int b), some (.int x3), some (.int x4)]) (stk' := [.ref 136]) (fun _ _ _ => rfl) ?_
              refine zw_mget (v := .int (zf u11 50)) rfl rfl ?_
              refine zw_run 2 (pc' := 8) (loc' := [some (.ref 136), none, some (.int b), some (.int x3), some (.int (zf u11 50))]) (stk' := []) (fun _ _ _ => rfl) ?_
              exact ih u11 x3 (zf u11 50) H
            refine zw_b0 (b := (k_182 (zf u4.2 51))) (t1 := 69) (t2 := 74) (loc' := [some (.ref 136), none, some (.int b), some (.int x3), some (.int x4)]) (stk' := [.ref 136]) (fun _ _ _ => rfl) (fun c8 => ?_) (fun c8 => ?_)
            · skip
              refine zw_run 2 (pc' := 78) (loc' := [some (.ref 136), none, some (.int b), some (.int x3), some (.int x4)]) (stk' := [.int 65533, .ref 136]) (fun _ _ _ => rfl) ?_
              exact J10 _ (by first | (rw [if_pos c8]; done) | (rw [if_pos c8]; rfl) | (clear H J10; simp_all [bI]; done))
            · skip
              refine zw_run 1 (pc' := 75) (loc' := [some (.ref 136), none, some (.int b), some (.int x3), some (.int x4)]) (stk' := [.ref 136, .ref 136]) (fun _ _ _ => rfl) ?_
              refine zw_mget (v := .int (zf u4.2 51)) rfl rfl ?_
              exact J10 _ (by first | (rw [if_neg c8]; done) | (rw [if_neg c8]; rfl) | (clear H J10; simp_all [bI]; done))
        · rw [if_neg c5] at H
          refine zw_run 3 (pc' := 94) (loc' := [some (.ref 136), none, some (.int b), some (.int x3), some (.int x4)]) (stk' := [.int x4, .ref 136, .ref 136]) (fun _ _ _ => rfl) ?_
          refine zw_callf (As := [.ref 136, .int x4]) (rest := [.ref 136]) (c_183 (Z := u4.2) hS x4 (d := d + 2)) rfl rfl rfl rfl ?_
          show zw fm sx (d + 3) 120 97 [some (.ref 136), none, some (.int b), some (.int x3), some (.int x4)] [.int (ra u4.2 x4), .ref 136] u4.2 Q
          obtain ⟨u12, hu12, H⟩ := oq_bind H
          refine zw_callf (As := [.ref 136, .int (ra u4.2 x4)]) (rest := []) (c_122 hu (ra u4.2 x4) hu12 (d := d + 2)) rfl rfl rfl rfl ?_
          show zw fm sx (d + 3) 120 100 [some (.ref 136), none, some (.int b), some (.int x3), some (.int x4)] [] u12 Q
          obtain ⟨hS, H⟩ := oq_ob H
          refine zw_run 2 (pc' := 8) (loc' := [some (.ref 136), none, some (.int b), some (.int x3), some (.int (x4 + 1))]) (stk' := []) (fun _ _ _ => rfl) ?_
          exact ih u12 x3 (x4 + 1) H
/-- MarkInlinesModel.unescape -/
def o_120 (Z : zr_Z) (a : Int32) (b : Int32) : Option (Int32 × zr_Z) := (if sok Z then g_120_8 oF Z a b (zf Z 10) a else none)
set_option maxRecDepth 100000 in
set_option maxHeartbeats 4000000 in
theorem t_120 {fm : Value} {sx : Nat × (Nat → Int32)} {d : Nat} {Z : zr_Z} {Q : Option Value → zr_Z → Prop} (hu : fm = .null ∨ ∃ q, fm = .ref q) (a : Int32) (b : Int32) (H : oq (o_120 Z a b) (fun x => Q (some (.int x.1)) x.2)) : zw fm sx (d + 3) 120 0 [some (.ref 136), some (.int a), some (.int b), none, none] [] Z Q := by
  unfold o_120 at H
  obtain ⟨hS, H⟩ := oq_ob H
  refine zw_run 1 (pc' := 1) (loc' := [some (.ref 136), some (.int a), some (.int b), none, none]) (stk' := [.ref 136]) (fun _ _ _ => rfl) ?_
  refine zw_mget (v := .int (zf Z 10)) rfl rfl ?_
  refine zw_run 3 (pc' := 8) (loc' := [some (.ref 136), some (.int a), some (.int b), some (.int (zf Z 10)), some (.int a)]) (stk' := []) (fun _ _ _ => rfl) ?_
  refine zw_fgt [true, false, true, true, true] rfl ?_
  exact l_120_8 hu a b _ Z (zf Z 10) a H
theorem c_120 {fm : Value} {sx : Nat × (Nat → Int32)} {d : Nat} {Z : zr_Z} (hu : fm = .null ∨ ∃ q, fm = .ref q) (a : Int32) (b : Int32) {x : Int32 × zr_Z} (hx : o_120 Z a b = some x) : zl fm sx (d + 4) 120 [.ref 136, .int a, .int b] Z (fun r Z' => r = some (.int x.1) ∧ Z' = x.2) :=
  zl_of (nL := 5) (loc0 := [some (.ref 136), some (.int a), some (.int b), none, none]) rfl rfl rfl (t_120 hu a b ⟨x, hx, rfl, rfl⟩)
/-- MarkInlinesModel.makeNormal, its loop at 10 -/
def g_123_10 : Nat → zr_Z → Int32 → Int32 → Bool → Int32 → Option zr_Z
  | 0, _, _, _, _, _ => none
  | n + 1, Z, a, b, y3, x4 => (if b ≤ x4 then some Z else (if inq 137 x4 then (if (k_143 (zv Z 137 x4)) = true then (olet ((!(decide ((zf Z 8) ≤ 0))) : Bool) fun y7 => g_123_10 n Z a b y7 (x4 + 1)) else (if y3 = true then (if inq 141 (zf Z 8) then (if inq 141 ((zf Z 8) + 1) then g_123_10 n (zmf (zar (zmf (zar Z 141 (zf Z 8) 32) 8 ((zf Z 8) + 1)) 141 ((zf Z 8) + 1) (if (zv Z 137 x4) < 65 then (zv Z 137 x4) else (if 90 < (zv Z 137 x4) then (zv Z 137 x4) else ((zv Z 137 x4) + 32) : Int32) : Int32)) 8 (((zf Z 8) + 1) + 1)) a b false (x4 + 1) else none) else none) else (if inq 141 (zf Z 8) then g_123_10 n (zmf (zar Z 141 (zf Z 8) (if (zv Z 137 x4) < 65 then (zv Z 137 x4) else (if 90 < (zv Z 137 x4) then (zv Z 137 x4) else ((zv Z 137 x4) + 32) : Int32) : Int32)) 8 ((zf Z 8) + 1)) a b false (x4 + 1) else none))) else none))
set_option maxRecDepth 100000 in
set_option maxHeartbeats 4000000 in
theorem l_123_10 {fm : Value} {sx : Nat × (Nat → Int32)} {d : Nat} {Q : Option Value → zr_Z → Prop} (hu : fm = .null ∨ ∃ q, fm = .ref q) (a : Int32) (b : Int32) : ∀ (n : Nat) (Z : zr_Z) (y3 : Bool) (x4 : Int32), oq (g_123_10 n Z a b y3 x4) (fun x => Q none x) → zw fm sx (d + 1) 123 10 [some (.ref 136), none, some (.int b), some (.int (bI y3)), some (.int x4), none] [] Z Q := by
  intro n
  induction n with
  | zero => intro Z y3 x4 H; exact absurd H oq_none
  | succ n ih =>
    intro Z y3 x4 H
    unfold g_123_10 at H
    refine zw_run 2 (pc' := 13) (loc' := [some (.ref 136), none, some (.int b), some (.int (bI y3)), some (.int x4), none]) (stk' := [.int b, .int x4]) (fun _ _ _ => rfl) ?_
    refine zw_br (c := b ≤ x4) (t1 := 125) (t2 := 16) (loc' := [some (.ref 136), none, some (.int b), some (.int (bI y3)), some (.int x4), none]) (stk' := []) (fun _ _ _ => rfl) (fun c1 => ?_) (fun c1 => ?_)
    · rw [if_pos c1] at H
      refine zw_retv rfl rfl ?_
      have H := oq_some H
      exact H
    · rw [if_neg c1] at H
      refine zw_run 1 (pc' := 17) (loc' := [some (.ref 136), none, some (.int b), some (.int (bI y3)), some (.int x4), none]) (stk' := [.ref 136]) (fun _ _ _ => rfl) ?_
      refine zw_mget (v := .ref 137) rfl rfl ?_
      refine zw_run 1 (pc' := 22) (loc' := [some (.ref 136), none, some (.int b), some (.int (bI y3)), some (.int x4), none]) (stk' := [.int x4, .ref 137]) (fun _ _ _ => rfl) ?_
      obtain ⟨b2, H⟩ := oq_ob H
      refine zw_iald (j := 137) rfl (by decide) (by decide) rfl b2 ?_
      refine zw_run 2 (pc' := 27) (loc' := [some (.ref 136), none, some (.int b), some (.int (bI y3)), some (.int x4), some (.int (zv Z 137 x4))]) (stk' := [.int (zv Z 137 x4)]) (fun _ _ _ => rfl) ?_
      refine zw_callf (As := [.int (zv Z 137 x4)]) (rest := []) (c_143 (zv Z 137 x4) (d := d + 0)) rfl rfl rfl rfl ?_
      show zw fm sx (d + 1) 123 30 [some (.ref 136), none, some (.int b), some (.int (bI y3)), some (.int x4), some (.int (zv Z 137 x4))] [.int (bI (k_143 (zv Z 137 x4)))] Z Q
      refine zw_b0 (b := (k_143 (zv Z 137 x4))) (t1 := 33) (t2 := 49) (loc' := [some (.ref 136), none, some (.int b), some (.int (bI y3)), some (.int x4), some (.int (zv Z 137 x4))]) (stk' := []) (fun _ _ _ => rfl) (fun c3 => ?_) (fun c3 => ?_)
      · rw [if_pos c3] at H
        refine zw_run 1 (pc' := 34) (loc' := [some (.ref 136), none, some (.int b), some (.int (bI y3)), some (.int x4), some (.int (zv Z 137 x4))]) (stk' := [.ref 136]) (fun _ _ _ => rfl) ?_
        refine zw_mget (v := .int (zf Z 8)) rfl rfl ?_
        have J6 : ∀ (v5 : Int32), v5 = (bI (!(decide ((zf Z 8) ≤ 0)))) → zw fm sx (d + 1) 123 45 [some (.ref 136), none, some (.int b), some (.int (bI y3)), some (.int x4), some (.int (zv Z 137 x4))] [.int v5] Z Q := by
          intro v5 ev5
          subst ev5
          refine zw_run 1 (pc' := 46) (loc' := [some (.ref 136), none, some (.int b), some (.int (bI (!(decide ((zf Z 8) ≤ 0))))), some (.int x4), some (.int (zv Z 137 x4))]) (stk' := []) (fun _ _ _ => rfl) ?_
          obtain ⟨y7, hy7⟩ : ∃ w : Bool, w = (!(decide ((zf Z 8) ≤ 0))) := ⟨_, rfl⟩
          rw [← hy7]
          have H := oq_let H y7 hy7
          refine zw_run 3 (pc' := 10) (loc' := [some (.ref 136), none, some (.int b), some (.int (bI y7)), some (.int (x4 + 1)), some (.int (zv Z 137 x4))]) (stk' := []) (fun _ _ _ => rfl) ?_
          refine zw_fgt [true, false, true, true, true, false] rfl ?_
          exact ih Z y7 (x4 + 1) H
        refine zw_br (c := (zf Z 8) ≤ 0) (t1 := 44) (t2 := 40) (loc' := [some (.ref 136), none, some (.int b), some (.int (bI y3)), some (.int x4), some (.int (zv Z 137 x4))]) (stk' := []) (fun _ _ _ => rfl) (fun c4 => ?_) (fun c4 => ?_)
        · skip
          refine zw_run 1 (pc' := 45) (loc' := [some (.ref 136), none, some (.int b), some (.int (bI y3)), some (.int x4), some (.int (zv Z 137 x4))]) (stk' := [.int 0]) (fun _ _ _ => rfl) ?_
          exact J6 _ (by clear H J6; first | (simp [bI, c4]; done) | (simp [bI, *]; done) | (simp_all [bI]; done) | (rw [decide_eq_true (Decidable.not_not.mp c4)]; rfl) | (exfalso; simp_all; done))
        · skip
          refine zw_run 2 (pc' := 45) (loc' := [some (.ref 136), none, some (.int b), some (.int (bI y3)), some (.int x4), some (.int (zv Z 137 x4))]) (stk' := [.int 1]) (fun _ _ _ => rfl) ?_
          exact J6 _ (by clear H J6; first | (simp [bI, c4]; done) | (simp [bI, *]; done) | (simp_all [bI]; done) | (rw [decide_eq_true (Decidable.not_not.mp c4)]; rfl) | (exfalso; simp_all; done))
      · rw [if_neg c3] at H
        refine zw_run 1 (pc' := 50) (loc' := [some (.ref 136), none, some (.int b), some (.int (bI y3)), some (.int x4), some (.int (zv Z 137 x4))]) (stk' := [.int (bI y3)]) (fun _ _ _ => rfl) ?_
        refine zw_b0 (b := y3) (t1 := 53) (t2 := 74) (loc' := [some (.ref 136), none, some (.int b), some (.int (bI y3)), some (.int x4), some (.int (zv Z 137 x4))]) (stk' := []) (fun _ _ _ => rfl) (fun c8 => ?_) (fun c8 => ?_)
        · rw [if_pos c8] at H
          refine zw_run 1 (pc' := 54) (loc' := [some (.ref 136), none, some (.int b), some (.int (bI y3)), some (.int x4), some (.int (zv Z 137 x4))]) (stk' := [.ref 136]) (fun _ _ _ => rfl) ?_
          refine zw_mget (v := .ref 141) rfl rfl ?_
          refine zw_run 1 (pc' := 58) (loc' := [some (.ref 136), none, some (.int b), some (.int (bI y3)), some (.int x4), some (.int (zv Z 137 x4))]) (stk' := [.ref 136, .ref 141]) (fun _ _ _ => rfl) ?_
          refine zw_mget (v := .int (zf Z 8)) rfl rfl ?_
          refine zw_run 1 (pc' := 63) (loc' := [some (.ref 136), none, some (.int b), some (.int (bI y3)), some (.int x4), some (.int (zv Z 137 x4))]) (stk' := [.int 32, .int (zf Z 8), .ref 141]) (fun _ _ _ => rfl) ?_
          obtain ⟨b9, H⟩ := oq_ob H
          refine zw_iast (j := 141) rfl (by decide) (by decide) rfl b9 ?_
          show zw fm sx (d + 1) 123 64 [some (.ref 136), none, some (.int b), some (.int (bI y3)), some (.int x4), some (.int (zv Z 137 x4))] [] (zar Z 141 (zf Z 8) 32) Q
          refine zw_run 2 (pc' := 66) (loc' := [some (.ref 136), none, some (.int b), some (.int (bI y3)), some (.int x4), some (.int (zv Z 137 x4))]) (stk' := [.ref 136, .ref 136]) (fun _ _ _ => rfl) ?_
          refine zw_mget (v := .int (zf Z 8)) rfl rfl ?_
          refine zw_run 2 (pc' := 71) (loc' := [some (.ref 136), none, some (.int b), some (.int (bI y3)), some (.int x4), some (.int (zv Z 137 x4))]) (stk' := [.int ((zf Z 8) + 1), .ref 136]) (fun _ _ _ => rfl) ?_
          refine zw_mput rfl rfl rfl rfl ?_
          show zw fm sx (d + 1) 123 74 [some (.ref 136), none, some (.int b), some (.int (bI y3)), some (.int x4), some (.int (zv Z 137 x4))] [] (zmf (zar Z 141 (zf Z 8) 32) 8 ((zf Z 8) + 1)) Q
          refine zw_run 3 (pc' := 77) (loc' := [some (.ref 136), none, some (.int b), some (.int 0), some (.int x4), some (.int (zv Z 137 x4))]) (stk' := [.ref 136]) (fun _ _ _ => rfl) ?_
          refine zw_mget (v := .ref 141) rfl rfl ?_
          refine zw_run 1 (pc' := 81) (loc' := [some (.ref 136), none, some (.int b), some (.int 0), some (.int x4), some (.int (zv Z 137 x4))]) (stk' := [.ref 136, .ref 141]) (fun _ _ _ => rfl) ?_
          refine zw_mget (v := .int ((zf Z 8) + 1)) rfl rfl ?_
          refine zw_run 2 (pc' := 88) (loc' := [some (.ref 136), none, some (.int b), some (.int 0), some (.int x4), some (.int (zv Z 137 x4))]) (stk' := [.int 65, .int (zv Z 137 x4), .int ((zf Z 8) + 1), .ref 141]) (fun _ _ _ => rfl) ?_
          have J13 : ∀ (v12 : Int32), v12 = (if (zv Z 137 x4) < 65 then (zv Z 137 x4) else (if 90 < (zv Z 137 x4) then (zv Z 137 x4) else ((zv Z 137 x4) + 32) : Int32) : Int32) → zw fm sx (d + 1) 123 108 [some (.ref 136), none, some (.int b), some (.int 0), some (.int x4), some (.int (zv Z 137 x4))] [.int v12, .int ((zf Z 8) + 1), .ref 141] (zmf (zar Z 141 (zf Z 8) 32) 8 ((zf Z 8) + 1)) Q := by
            intro v12 ev12
            subst ev12
            obtain ⟨b14, H⟩ := oq_ob H
            refine zw_iast (j := 141) rfl (by decide) (by decide) rfl b14 ?_
            show zw fm sx (d + 1) 123 109 [some (.ref 136), none, some (.int b), some (.int 0), some (.int x4), some (.int (zv Z 137 x4))] [] (zar (zmf (zar Z 141 (zf Z 8) 32) 8 ((zf Z 8) + 1)) 141 ((zf Z 8) + 1) (if (zv Z 137 x4) < 65 then (zv Z 137 x4) else (if 90 < (zv Z 137 x4) then (zv Z 137 x4) else ((zv Z 137 x4) + 32) : Int32) : Int32)) Q
            refine zw_run 2 (pc' := 111) (loc' := [some (.ref 136), none, some (.int b), some (.int 0), some (.int x4), some (.int (zv Z 137 x4))]) (stk' := [.ref 136, .ref 136]) (fun _ _ _ => rfl) ?_
            refine zw_mget (v := .int ((zf Z 8) + 1)) rfl rfl ?_
            refine zw_run 2 (pc' := 116) (loc' := [some (.ref 136), none, some (.int b), some (.int 0), some (.int x4), some (.int (zv Z 137 x4))]) (stk' := [.int (((zf Z 8) + 1) + 1), .ref 136]) (fun _ _ _ => rfl) ?_
            refine zw_mput rfl rfl rfl rfl ?_
            show zw fm sx (d + 1) 123 119 [some (.ref 136), none, some (.int b), some (.int 0), some (.int x4), some (.int (zv Z 137 x4))] [] (zmf (zar (zmf (zar Z 141 (zf Z 8) 32) 8 ((zf Z 8) + 1)) 141 ((zf Z 8) + 1) (if (zv Z 137 x4) < 65 then (zv Z 137 x4) else (if 90 < (zv Z 137 x4) then (zv Z 137 x4) else ((zv Z 137 x4) + 32) : Int32) : Int32)) 8 (((zf Z 8) + 1) + 1)) Q
            refine zw_run 2 (pc' := 10) (loc' := [some (.ref 136), none, some (.int b), some (.int 0), some (.int (x4 + 1)), some (.int (zv Z 137 x4))]) (stk' := []) (fun _ _ _ => rfl) ?_
            refine zw_fgt [true, false, true, true, true, false] rfl ?_
            exact ih (zmf (zar (zmf (zar Z 141 (zf Z 8) 32) 8 ((zf Z 8) + 1)) 141 ((zf Z 8) + 1) (if (zv Z 137 x4) < 65 then (zv Z 137 x4) else (if 90 < (zv Z 137 x4) then (zv Z 137 x4) else ((zv Z 137 x4) + 32) : Int32) : Int32)) 8 (((zf Z 8) + 1) + 1)) false (x4 + 1) H
          refine zw_br (c := (zv Z 137 x4) < 65) (t1 := 106) (t2 := 91) (loc' := [some (.ref 136), none, some (.int b), some (.int 0), some (.int x4), some (.int (zv Z 137 x4))]) (stk' := [.int ((zf Z 8) + 1), .ref 141]) (fun _ _ _ => rfl) (fun c10 => ?_) (fun c10 => ?_)
          · skip
            refine zw_run 1 (pc' := 108) (loc' := [some (.ref 136), none, some (.int b), some (.int 0), some (.int x4), some (.int (zv Z 137 x4))]) (stk' := [.int (zv Z 137 x4), .int ((zf Z 8) + 1), .ref 141]) (fun _ _ _ => rfl) ?_
            exact J13 _ (by first | (rw [if_pos c10]; done) | (rw [if_pos c10]; rfl) | (clear H J13; simp_all [bI]; done))
          · skip
            refine zw_run 2 (pc' := 95) (loc' := [some (.ref 136), none, some (.int b), some (.int 0), some (.int x4), some (.int (zv Z 137 x4))]) (stk' := [.int 90, .int (zv Z 137 x4), .int ((zf Z 8) + 1), .ref 141]) (fun _ _ _ => rfl) ?_
            refine zw_br (c := 90 < (zv Z 137 x4)) (t1 := 106) (t2 := 98) (loc' := [some (.ref 136), none, some (.int b), some (.int 0), some (.int x4), some (.int (zv Z 137 x4))]) (stk' := [.int ((zf Z 8) + 1), .ref 141]) (fun _ _ _ => rfl) (fun c11 => ?_) (fun c11 => ?_)
            · skip
              refine zw_run 1 (pc' := 108) (loc' := [some (.ref 136), none, some (.int b), some (.int 0), some (.int x4), some (.int (zv Z 137 x4))]) (stk' := [.int (zv Z 137 x4), .int ((zf Z 8) + 1), .ref 141]) (fun _ _ _ => rfl) ?_
              exact J13 _ (by first | (rw [if_neg c10, if_pos c11]; done) | (rw [if_neg c10, if_pos c11]; rfl) | (clear H J13; simp_all [bI]; done))
            · skip
              refine zw_run 4 (pc' := 108) (loc' := [some (.ref 136), none, some (.int b), some (.int 0), some (.int x4), some (.int (zv Z 137 x4))]) (stk' := [.int ((zv Z 137 x4) + 32), .int ((zf Z 8) + 1), .ref 141]) (fun _ _ _ => rfl) ?_
              exact J13 _ (by first | (rw [if_neg c10, if_neg c11]; done) | (rw [if_neg c10, if_neg c11]; rfl) | (clear H J13; simp_all [bI]; done))
        · rw [if_neg c8] at H
          refine zw_run 3 (pc' := 77) (loc' := [some (.ref 136), none, some (.int b), some (.int 0), some (.int x4), some (.int (zv Z 137 x4))]) (stk' := [.ref 136]) (fun _ _ _ => rfl) ?_
          refine zw_mget (v := .ref 141) rfl rfl ?_
          refine zw_run 1 (pc' := 81) (loc' := [some (.ref 136), none, some (.int b), some (.int 0), some (.int x4), some (.int (zv Z 137 x4))]) (stk' := [.ref 136, .ref 141]) (fun _ _ _ => rfl) ?_
          refine zw_mget (v := .int (zf Z 8)) rfl rfl ?_
          refine zw_run 2 (pc' := 88) (loc' := [some (.ref 136), none, some (.int b), some (.int 0), some (.int x4), some (.int (zv Z 137 x4))]) (stk' := [.int 65, .int (zv Z 137 x4), .int (zf Z 8), .ref 141]) (fun _ _ _ => rfl) ?_
          have J18 : ∀ (v17 : Int32), v17 = (if (zv Z 137 x4) < 65 then (zv Z 137 x4) else (if 90 < (zv Z 137 x4) then (zv Z 137 x4) else ((zv Z 137 x4) + 32) : Int32) : Int32) → zw fm sx (d + 1) 123 108 [some (.ref 136), none, some (.int b), some (.int 0), some (.int x4), some (.int (zv Z 137 x4))] [.int v17, .int (zf Z 8), .ref 141] Z Q := by
            intro v17 ev17
            subst ev17
            obtain ⟨b19, H⟩ := oq_ob H
            refine zw_iast (j := 141) rfl (by decide) (by decide) rfl b19 ?_
            show zw fm sx (d + 1) 123 109 [some (.ref 136), none, some (.int b), some (.int 0), some (.int x4), some (.int (zv Z 137 x4))] [] (zar Z 141 (zf Z 8) (if (zv Z 137 x4) < 65 then (zv Z 137 x4) else (if 90 < (zv Z 137 x4) then (zv Z 137 x4) else ((zv Z 137 x4) + 32) : Int32) : Int32)) Q
            refine zw_run 2 (pc' := 111) (loc' := [some (.ref 136), none, some (.int b), some (.int 0), some (.int x4), some (.int (zv Z 137 x4))]) (stk' := [.ref 136, .ref 136]) (fun _ _ _ => rfl) ?_
            refine zw_mget (v := .int (zf Z 8)) rfl rfl ?_
            refine zw_run 2 (pc' := 116) (loc' := [some (.ref 136), none, some (.int b), some (.int 0), some (.int x4), some (.int (zv Z 137 x4))]) (stk' := [.int ((zf Z 8) + 1), .ref 136]) (fun _ _ _ => rfl) ?_
            refine zw_mput rfl rfl rfl rfl ?_
            show zw fm sx (d + 1) 123 119 [some (.ref 136), none, some (.int b), some (.int 0), some (.int x4), some (.int (zv Z 137 x4))] [] (zmf (zar Z 141 (zf Z 8) (if (zv Z 137 x4) < 65 then (zv Z 137 x4) else (if 90 < (zv Z 137 x4) then (zv Z 137 x4) else ((zv Z 137 x4) + 32) : Int32) : Int32)) 8 ((zf Z 8) + 1)) Q
            refine zw_run 2 (pc' := 10) (loc' := [some (.ref 136), none, some (.int b), some (.int 0), some (.int (x4 + 1)), some (.int (zv Z 137 x4))]) (stk' := []) (fun _ _ _ => rfl) ?_
            refine zw_fgt [true, false, true, true, true, false] rfl ?_
            exact ih (zmf (zar Z 141 (zf Z 8) (if (zv Z 137 x4) < 65 then (zv Z 137 x4) else (if 90 < (zv Z 137 x4) then (zv Z 137 x4) else ((zv Z 137 x4) + 32) : Int32) : Int32)) 8 ((zf Z 8) + 1)) false (x4 + 1) H
          refine zw_br (c := (zv Z 137 x4) < 65) (t1 := 106) (t2 := 91) (loc' := [some (.ref 136), none, some (.int b), some (.int 0), some (.int x4), some (.int (zv Z 137 x4))]) (stk' := [.int (zf Z 8), .ref 141]) (fun _ _ _ => rfl) (fun c15 => ?_) (fun c15 => ?_)
          · skip
            refine zw_run 1 (pc' := 108) (loc' := [some (.ref 136), none, some (.int b), some (.int 0), some (.int x4), some (.int (zv Z 137 x4))]) (stk' := [.int (zv Z 137 x4), .int (zf Z 8), .ref 141]) (fun _ _ _ => rfl) ?_
            exact J18 _ (by first | (rw [if_pos c15]; done) | (rw [if_pos c15]; rfl) | (clear H J18; simp_all [bI]; done))
          · skip
            refine zw_run 2 (pc' := 95) (loc' := [some (.ref 136), none, some (.int b), some (.int 0), some (.int x4), some (.int (zv Z 137 x4))]) (stk' := [.int 90, .int (zv Z 137 x4), .int (zf Z 8), .ref 141]) (fun _ _ _ => rfl) ?_
            refine zw_br (c := 90 < (zv Z 137 x4)) (t1 := 106) (t2 := 98) (loc' := [some (.ref 136), none, some (.int b), some (.int 0), some (.int x4), some (.int (zv Z 137 x4))]) (stk' := [.int (zf Z 8), .ref 141]) (fun _ _ _ => rfl) (fun c16 => ?_) (fun c16 => ?_)
            · skip
              refine zw_run 1 (pc' := 108) (loc' := [some (.ref 136), none, some (.int b), some (.int 0), some (.int x4), some (.int (zv Z 137 x4))]) (stk' := [.int (zv Z 137 x4), .int (zf Z 8), .ref 141]) (fun _ _ _ => rfl) ?_
              exact J18 _ (by first | (rw [if_neg c15, if_pos c16]; done) | (rw [if_neg c15, if_pos c16]; rfl) | (clear H J18; simp_all [bI]; done))
            · skip
              refine zw_run 4 (pc' := 108) (loc' := [some (.ref 136), none, some (.int b), some (.int 0), some (.int x4), some (.int (zv Z 137 x4))]) (stk' := [.int ((zv Z 137 x4) + 32), .int (zf Z 8), .ref 141]) (fun _ _ _ => rfl) ?_
              exact J18 _ (by first | (rw [if_neg c15, if_neg c16]; done) | (rw [if_neg c15, if_neg c16]; rfl) | (clear H J18; simp_all [bI]; done))
/-- MarkInlinesModel.makeNormal -/
def o_123 (Z : zr_Z) (a : Int32) (b : Int32) : Option zr_Z := g_123_10 oF (zmf Z 8 0) a b false a
set_option maxRecDepth 100000 in
set_option maxHeartbeats 4000000 in
theorem t_123 {fm : Value} {sx : Nat × (Nat → Int32)} {d : Nat} {Z : zr_Z} {Q : Option Value → zr_Z → Prop} (hu : fm = .null ∨ ∃ q, fm = .ref q) (a : Int32) (b : Int32) (H : oq (o_123 Z a b) (fun x => Q none x)) : zw fm sx (d + 1) 123 0 [some (.ref 136), some (.int a), some (.int b), none, none, none] [] Z Q := by
  unfold o_123 at H
  refine zw_run 2 (pc' := 2) (loc' := [some (.ref 136), some (.int a), some (.int b), none, none, none]) (stk' := [.int 0, .ref 136]) (fun _ _ _ => rfl) ?_
  refine zw_mput rfl rfl rfl rfl ?_
  show zw fm sx (d + 1) 123 5 [some (.ref 136), some (.int a), some (.int b), none, none, none] [] (zmf Z 8 0) Q
  refine zw_run 4 (pc' := 10) (loc' := [some (.ref 136), some (.int a), some (.int b), some (.int 0), some (.int a), none]) (stk' := []) (fun _ _ _ => rfl) ?_
  refine zw_fgt [true, false, true, true, true, false] rfl ?_
  exact l_123_10 hu a b _ (zmf Z 8 0) false a H
theorem c_123 {fm : Value} {sx : Nat × (Nat → Int32)} {d : Nat} {Z : zr_Z} (hu : fm = .null ∨ ∃ q, fm = .ref q) (a : Int32) (b : Int32) {x : zr_Z} (hx : o_123 Z a b = some x) : zl fm sx (d + 2) 123 [.ref 136, .int a, .int b] Z (fun r Z' => r = none ∧ Z' = x) :=
  zl_of (nL := 6) (loc0 := [some (.ref 136), some (.int a), some (.int b), none, none, none]) rfl rfl rfl (t_123 hu a b ⟨x, hx, rfl, rfl⟩)
/-- MarkInlinesModel.defined, its loop at 31 -/
def g_124_31 : Nat → zr_Z → Int32 → Bool → Int32 → (zr_Z → Int32 → Option Int32) → Option Int32
  | 0, _, _, _, _, _ => none
  | n + 1, Z, x1, y2, x3, K2 => (if (zf Z 8) ≤ x3 then (if y2 = true then some x1 else K2 Z (x1 + 1)) else (if y2 = true then (if inq 139 ((100 * x1) + x3) then (if inq 141 x3 then (olet (((decide ((zv Z 139 ((100 * x1) + x3)) = (zv Z 141 x3)))) : Bool) fun y9 => g_124_31 n Z x1 y9 (x3 + 1) K2) else none) else none) else (if y2 = true then some x1 else K2 Z (x1 + 1))))
set_option maxRecDepth 100000 in
set_option maxHeartbeats 4000000 in
theorem l_124_31 {fm : Value} {sx : Nat × (Nat → Int32)} {d : Nat} {Q : Option Value → zr_Z → Prop} (hu : fm = .null ∨ ∃ q, fm = .ref q)  (K2 : zr_Z → Int32 → Option Int32) (HK2 : ∀ (Z : zr_Z) (x1 : Int32), oq (K2 Z x1) (fun x => Q (some (.int x)) Z) → zw fm sx (d + 0) 124 2 [some (.ref 136), some (.int x1), none, none] [] Z Q) : ∀ (n : Nat) (Z : zr_Z) (x1 : Int32) (y2 : Bool) (x3 : Int32), oq (g_124_31 n Z x1 y2 x3 K2) (fun x => Q (some (.int x)) Z) → zw fm sx (d + 0) 124 31 [some (.ref 136), some (.int x1), some (.int (bI y2)), some (.int x3)] [] Z Q := by
  intro n
  induction n with
  | zero => intro Z x1 y2 x3 H; exact absurd H oq_none
  | succ n ih =>
    intro Z x1 y2 x3 H
    unfold g_124_31 at H
    refine zw_run 2 (pc' := 33) (loc' := [some (.ref 136), some (.int x1), some (.int (bI y2)), some (.int x3)]) (stk' := [.ref 136, .int x3]) (fun _ _ _ => rfl) ?_
    refine zw_mget (v := .int (zf Z 8)) rfl rfl ?_
    refine zw_br (c := (zf Z 8) ≤ x3) (t1 := 75) (t2 := 39) (loc' := [some (.ref 136), some (.int x1), some (.int (bI y2)), some (.int x3)]) (stk' := []) (fun _ _ _ => rfl) (fun c1 => ?_) (fun c1 => ?_)
    · rw [if_pos c1] at H
      refine zw_run 1 (pc' := 76) (loc' := [some (.ref 136), some (.int x1), some (.int (bI y2)), some (.int x3)]) (stk' := [.int (bI y2)]) (fun _ _ _ => rfl) ?_
      refine zw_b0 (b := y2) (t1 := 79) (t2 := 81) (loc' := [some (.ref 136), some (.int x1), some (.int (bI y2)), some (.int x3)]) (stk' := []) (fun _ _ _ => rfl) (fun c2 => ?_) (fun c2 => ?_)
      · rw [if_pos c2] at H
        refine zw_run 1 (pc' := 80) (loc' := [some (.ref 136), some (.int x1), some (.int (bI y2)), some (.int x3)]) (stk' := [.int x1]) (fun _ _ _ => rfl) ?_
        refine zw_reti (i := .nop) rfl rfl ?_
        have H := oq_some H
        exact H
      · rw [if_neg c2] at H
        refine zw_run 2 (pc' := 2) (loc' := [some (.ref 136), some (.int (x1 + 1)), some (.int (bI y2)), some (.int x3)]) (stk' := []) (fun _ _ _ => rfl) ?_
        refine zw_fgt [true, true, false, false] rfl ?_
        exact HK2 Z (x1 + 1) H
    · rw [if_neg c1] at H
      refine zw_run 1 (pc' := 40) (loc' := [some (.ref 136), some (.int x1), some (.int (bI y2)), some (.int x3)]) (stk' := [.int (bI y2)]) (fun _ _ _ => rfl) ?_
      refine zw_b0 (b := y2) (t1 := 43) (t2 := 75) (loc' := [some (.ref 136), some (.int x1), some (.int (bI y2)), some (.int x3)]) (stk' := []) (fun _ _ _ => rfl) (fun c3 => ?_) (fun c3 => ?_)
      · rw [if_pos c3] at H
        refine zw_run 1 (pc' := 44) (loc' := [some (.ref 136), some (.int x1), some (.int (bI y2)), some (.int x3)]) (stk' := [.ref 136]) (fun _ _ _ => rfl) ?_
        refine zw_mget (v := .ref 139) rfl rfl ?_
        refine zw_run 5 (pc' := 53) (loc' := [some (.ref 136), some (.int x1), some (.int (bI y2)), some (.int x3)]) (stk' := [.int ((100 * x1) + x3), .ref 139]) (fun _ _ _ => rfl) ?_
        obtain ⟨b4, H⟩ := oq_ob H
        refine zw_iald (j := 139) rfl (by decide) (by decide) rfl b4 ?_
        refine zw_run 1 (pc' := 55) (loc' := [some (.ref 136), some (.int x1), some (.int (bI y2)), some (.int x3)]) (stk' := [.ref 136, .int (zv Z 139 ((100 * x1) + x3))]) (fun _ _ _ => rfl) ?_
        refine zw_mget (v := .ref 141) rfl rfl ?_
        refine zw_run 1 (pc' := 59) (loc' := [some (.ref 136), some (.int x1), some (.int (bI y2)), some (.int x3)]) (stk' := [.int x3, .ref 141, .int (zv Z 139 ((100 * x1) + x3))]) (fun _ _ _ => rfl) ?_
        obtain ⟨b5, H⟩ := oq_ob H
        refine zw_iald (j := 141) rfl (by decide) (by decide) rfl b5 ?_
        have J8 : ∀ (v7 : Int32), v7 = (bI ((decide ((zv Z 139 ((100 * x1) + x3)) = (zv Z 141 x3))))) → zw fm sx (d + 0) 124 68 [some (.ref 136), some (.int x1), some (.int (bI y2)), some (.int x3)] [.int v7] Z Q := by
          intro v7 ev7
          subst ev7
          refine zw_run 1 (pc' := 69) (loc' := [some (.ref 136), some (.int x1), some (.int (bI ((decide ((zv Z 139 ((100 * x1) + x3)) = (zv Z 141 x3)))))), some (.int x3)]) (stk' := []) (fun _ _ _ => rfl) ?_
          obtain ⟨y9, hy9⟩ : ∃ w : Bool, w = ((decide ((zv Z 139 ((100 * x1) + x3)) = (zv Z 141 x3)))) := ⟨_, rfl⟩
          rw [← hy9]
          have H := oq_let H y9 hy9
          refine zw_run 2 (pc' := 31) (loc' := [some (.ref 136), some (.int x1), some (.int (bI y9)), some (.int (x3 + 1))]) (stk' := []) (fun _ _ _ => rfl) ?_
          exact ih Z x1 y9 (x3 + 1) H
        refine zw_br (c := ¬ (zv Z 139 ((100 * x1) + x3)) = (zv Z 141 x3)) (t1 := 67) (t2 := 63) (loc' := [some (.ref 136), some (.int x1), some (.int (bI y2)), some (.int x3)]) (stk' := []) (fun _ _ _ => rfl) (fun c6 => ?_) (fun c6 => ?_)
        · skip
          refine zw_run 1 (pc' := 68) (loc' := [some (.ref 136), some (.int x1), some (.int (bI y2)), some (.int x3)]) (stk' := [.int 0]) (fun _ _ _ => rfl) ?_
          exact J8 _ (by clear H J8; first | (simp [bI, c6]; done) | (simp [bI, *]; done) | (simp_all [bI]; done) | (rw [decide_eq_true (Decidable.not_not.mp c6)]; rfl) | (exfalso; simp_all; done))
        · skip
          refine zw_run 2 (pc' := 68) (loc' := [some (.ref 136), some (.int x1), some (.int (bI y2)), some (.int x3)]) (stk' := [.int 1]) (fun _ _ _ => rfl) ?_
          exact J8 _ (by clear H J8; first | (simp [bI, c6]; done) | (simp [bI, *]; done) | (simp_all [bI]; done) | (rw [decide_eq_true (Decidable.not_not.mp c6)]; rfl) | (exfalso; simp_all; done))
      · rw [if_neg c3] at H
        refine zw_run 1 (pc' := 76) (loc' := [some (.ref 136), some (.int x1), some (.int (bI y2)), some (.int x3)]) (stk' := [.int (bI y2)]) (fun _ _ _ => rfl) ?_
        refine zw_b0 (b := y2) (t1 := 79) (t2 := 81) (loc' := [some (.ref 136), some (.int x1), some (.int (bI y2)), some (.int x3)]) (stk' := []) (fun _ _ _ => rfl) (fun c10 => ?_) (fun c10 => ?_)
        · rw [if_pos c10] at H
          refine zw_run 1 (pc' := 80) (loc' := [some (.ref 136), some (.int x1), some (.int (bI y2)), some (.int x3)]) (stk' := [.int x1]) (fun _ _ _ => rfl) ?_
          refine zw_reti (i := .nop) rfl rfl ?_
          have H := oq_some H
          exact H
        · rw [if_neg c10] at H
          refine zw_run 2 (pc' := 2) (loc' := [some (.ref 136), some (.int (x1 + 1)), some (.int (bI y2)), some (.int x3)]) (stk' := []) (fun _ _ _ => rfl) ?_
          refine zw_fgt [true, true, false, false] rfl ?_
          exact HK2 Z (x1 + 1) H
/-- MarkInlinesModel.defined, its loop at 2 -/
def g_124_2 : Nat → zr_Z → Int32 → Option Int32
  | 0, _, _ => none
  | n + 1, Z, x1 => (if (zf Z 7) ≤ x1 then some (-1) else (if inq 140 x1 then (olet (((decide ((zv Z 140 x1) = (zf Z 8)))) : Bool) fun y6 => g_124_31 oF Z x1 y6 0 (fun Z x1 => g_124_2 n Z x1)) else none))
set_option maxRecDepth 100000 in
set_option maxHeartbeats 4000000 in
theorem l_124_2 {fm : Value} {sx : Nat × (Nat → Int32)} {d : Nat} {Q : Option Value → zr_Z → Prop} (hu : fm = .null ∨ ∃ q, fm = .ref q)  : ∀ (n : Nat) (Z : zr_Z) (x1 : Int32), oq (g_124_2 n Z x1) (fun x => Q (some (.int x)) Z) → zw fm sx (d + 0) 124 2 [some (.ref 136), some (.int x1), none, none] [] Z Q := by
  intro n
  induction n with
  | zero => intro Z x1 H; exact absurd H oq_none
  | succ n ih =>
    intro Z x1 H
    unfold g_124_2 at H
    refine zw_run 2 (pc' := 4) (loc' := [some (.ref 136), some (.int x1), none, none]) (stk' := [.ref 136, .int x1]) (fun _ _ _ => rfl) ?_
    refine zw_mget (v := .int (zf Z 7)) rfl rfl ?_
    refine zw_br (c := (zf Z 7) ≤ x1) (t1 := 87) (t2 := 10) (loc' := [some (.ref 136), some (.int x1), none, none]) (stk' := []) (fun _ _ _ => rfl) (fun c1 => ?_) (fun c1 => ?_)
    · rw [if_pos c1] at H
      refine zw_run 1 (pc' := 88) (loc' := [some (.ref 136), some (.int x1), none, none]) (stk' := [.int (-1)]) (fun _ _ _ => rfl) ?_
      refine zw_reti (i := .nop) rfl rfl ?_
      have H := oq_some H
      exact H
    · rw [if_neg c1] at H
      refine zw_run 1 (pc' := 11) (loc' := [some (.ref 136), some (.int x1), none, none]) (stk' := [.ref 136]) (fun _ _ _ => rfl) ?_
      refine zw_mget (v := .ref 140) rfl rfl ?_
      refine zw_run 1 (pc' := 15) (loc' := [some (.ref 136), some (.int x1), none, none]) (stk' := [.int x1, .ref 140]) (fun _ _ _ => rfl) ?_
      obtain ⟨b2, H⟩ := oq_ob H
      refine zw_iald (j := 140) rfl (by decide) (by decide) rfl b2 ?_
      refine zw_run 1 (pc' := 17) (loc' := [some (.ref 136), some (.int x1), none, none]) (stk' := [.ref 136, .int (zv Z 140 x1)]) (fun _ _ _ => rfl) ?_
      refine zw_mget (v := .int (zf Z 8)) rfl rfl ?_
      have J5 : ∀ (v4 : Int32), v4 = (bI ((decide ((zv Z 140 x1) = (zf Z 8))))) → zw fm sx (d + 0) 124 28 [some (.ref 136), some (.int x1), none, none] [.int v4] Z Q := by
        intro v4 ev4
        subst ev4
        refine zw_run 1 (pc' := 29) (loc' := [some (.ref 136), some (.int x1), some (.int (bI ((decide ((zv Z 140 x1) = (zf Z 8)))))), none]) (stk' := []) (fun _ _ _ => rfl) ?_
        obtain ⟨y6, hy6⟩ : ∃ w : Bool, w = ((decide ((zv Z 140 x1) = (zf Z 8)))) := ⟨_, rfl⟩
        rw [← hy6]
        have H := oq_let H y6 hy6
        refine zw_run 2 (pc' := 31) (loc' := [some (.ref 136), some (.int x1), some (.int (bI y6)), some (.int 0)]) (stk' := []) (fun _ _ _ => rfl) ?_
        exact l_124_31 hu _ (fun Z x1 q => ih Z x1 q) _ Z x1 y6 0 H
      refine zw_br (c := ¬ (zv Z 140 x1) = (zf Z 8)) (t1 := 27) (t2 := 23) (loc' := [some (.ref 136), some (.int x1), none, none]) (stk' := []) (fun _ _ _ => rfl) (fun c3 => ?_) (fun c3 => ?_)
      · skip
        refine zw_run 1 (pc' := 28) (loc' := [some (.ref 136), some (.int x1), none, none]) (stk' := [.int 0]) (fun _ _ _ => rfl) ?_
        exact J5 _ (by clear H J5; first | (simp [bI, c3]; done) | (simp [bI, *]; done) | (simp_all [bI]; done) | (rw [decide_eq_true (Decidable.not_not.mp c3)]; rfl) | (exfalso; simp_all; done))
      · skip
        refine zw_run 2 (pc' := 28) (loc' := [some (.ref 136), some (.int x1), none, none]) (stk' := [.int 1]) (fun _ _ _ => rfl) ?_
        exact J5 _ (by clear H J5; first | (simp [bI, c3]; done) | (simp [bI, *]; done) | (simp_all [bI]; done) | (rw [decide_eq_true (Decidable.not_not.mp c3)]; rfl) | (exfalso; simp_all; done))
/-- MarkInlinesModel.defined -/
def o_124 (Z : zr_Z)  : Option Int32 := g_124_2 oF Z 0
set_option maxRecDepth 100000 in
set_option maxHeartbeats 4000000 in
theorem t_124 {fm : Value} {sx : Nat × (Nat → Int32)} {d : Nat} {Z : zr_Z} {Q : Option Value → zr_Z → Prop} (hu : fm = .null ∨ ∃ q, fm = .ref q)  (H : oq (o_124 Z) (fun x => Q (some (.int x)) Z)) : zw fm sx (d + 0) 124 0 [some (.ref 136), none, none, none] [] Z Q := by
  unfold o_124 at H
  refine zw_run 2 (pc' := 2) (loc' := [some (.ref 136), some (.int 0), none, none]) (stk' := []) (fun _ _ _ => rfl) ?_
  exact l_124_2 hu _ Z 0 H
theorem c_124 {fm : Value} {sx : Nat × (Nat → Int32)} {d : Nat} {Z : zr_Z} (hu : fm = .null ∨ ∃ q, fm = .ref q)  {x : Int32} (hx : o_124 Z = some x) : zl fm sx (d + 1) 124 [.ref 136] Z (fun r Z' => r = some (.int x) ∧ Z' = Z) :=
  zl_of (nL := 4) (loc0 := [some (.ref 136), none, none, none]) rfl rfl rfl (t_124 hu ⟨x, hx, rfl, rfl⟩)
/-- MarkInlinesModel.item -/
def o_125 (Z : zr_Z) (wh : Int32) (le : Int32) : Option (Int32 × zr_Z) := (if inq 143 ((zf Z 20) + 1) then (if inq 144 ((zf Z 20) + 1) then (if inq 145 ((zf Z 20) + 1) then (if inq 146 ((zf Z 20) + 1) then (if inq 147 ((zf Z 20) + 1) then (if inq 148 ((zf Z 20) + 1) then (if inq 149 ((zf Z 20) + 1) then some ((zf Z 20) + 1, zar (zar (zar (zar (zar (zar (zar (zmf Z 20 ((zf Z 20) + 1)) 143 ((zf Z 20) + 1) wh) 144 ((zf Z 20) + 1) le) 145 ((zf Z 20) + 1) 0) 146 ((zf Z 20) + 1) 0) 147 ((zf Z 20) + 1) 0) 148 ((zf Z 20) + 1) 0) 149 ((zf Z 20) + 1) (-1)) else none) else none) else none) else none) else none) else none) else none)
set_option maxRecDepth 100000 in
set_option maxHeartbeats 4000000 in
theorem t_125 {fm : Value} {sx : Nat × (Nat → Int32)} {d : Nat} {Z : zr_Z} {Q : Option Value → zr_Z → Prop} (hu : fm = .null ∨ ∃ q, fm = .ref q) (wh : Int32) (le : Int32) (H : oq (o_125 Z wh le) (fun x => Q (some (.int x.1)) x.2)) : zw fm sx (d + 0) 125 0 [some (.ref 136), some (.int wh), some (.int le)] [] Z Q := by
  unfold o_125 at H
  refine zw_run 2 (pc' := 2) (loc' := [some (.ref 136), some (.int wh), some (.int le)]) (stk' := [.ref 136, .ref 136]) (fun _ _ _ => rfl) ?_
  refine zw_mget (v := .int (zf Z 20)) rfl rfl ?_
  refine zw_run 2 (pc' := 7) (loc' := [some (.ref 136), some (.int wh), some (.int le)]) (stk' := [.int ((zf Z 20) + 1), .ref 136]) (fun _ _ _ => rfl) ?_
  refine zw_mput rfl rfl rfl rfl ?_
  show zw fm sx (d + 0) 125 10 [some (.ref 136), some (.int wh), some (.int le)] [] (zmf Z 20 ((zf Z 20) + 1)) Q
  refine zw_run 1 (pc' := 11) (loc' := [some (.ref 136), some (.int wh), some (.int le)]) (stk' := [.ref 136]) (fun _ _ _ => rfl) ?_
  refine zw_mget (v := .ref 143) rfl rfl ?_
  refine zw_run 1 (pc' := 15) (loc' := [some (.ref 136), some (.int wh), some (.int le)]) (stk' := [.ref 136, .ref 143]) (fun _ _ _ => rfl) ?_
  refine zw_mget (v := .int ((zf Z 20) + 1)) rfl rfl ?_
  refine zw_run 1 (pc' := 19) (loc' := [some (.ref 136), some (.int wh), some (.int le)]) (stk' := [.int wh, .int ((zf Z 20) + 1), .ref 143]) (fun _ _ _ => rfl) ?_
  obtain ⟨b1, H⟩ := oq_ob H
  refine zw_iast (j := 143) rfl (by decide) (by decide) rfl b1 ?_
  show zw fm sx (d + 0) 125 20 [some (.ref 136), some (.int wh), some (.int le)] [] (zar (zmf Z 20 ((zf Z 20) + 1)) 143 ((zf Z 20) + 1) wh) Q
  refine zw_run 1 (pc' := 21) (loc' := [some (.ref 136), some (.int wh), some (.int le)]) (stk' := [.ref 136]) (fun _ _ _ => rfl) ?_
  refine zw_mget (v := .ref 144) rfl rfl ?_
  refine zw_run 1 (pc' := 25) (loc' := [some (.ref 136), some (.int wh), some (.int le)]) (stk' := [.ref 136, .ref 144]) (fun _ _ _ => rfl) ?_
  refine zw_mget (v := .int ((zf Z 20) + 1)) rfl rfl ?_
  refine zw_run 1 (pc' := 29) (loc' := [some (.ref 136), some (.int wh), some (.int le)]) (stk' := [.int le, .int ((zf Z 20) + 1), .ref 144]) (fun _ _ _ => rfl) ?_
  obtain ⟨b2, H⟩ := oq_ob H
  refine zw_iast (j := 144) rfl (by decide) (by decide) rfl b2 ?_
  show zw fm sx (d + 0) 125 30 [some (.ref 136), some (.int wh), some (.int le)] [] (zar (zar (zmf Z 20 ((zf Z 20) + 1)) 143 ((zf Z 20) + 1) wh) 144 ((zf Z 20) + 1) le) Q
  refine zw_run 1 (pc' := 31) (loc' := [some (.ref 136), some (.int wh), some (.int le)]) (stk' := [.ref 136]) (fun _ _ _ => rfl) ?_
  refine zw_mget (v := .ref 145) rfl rfl ?_
  refine zw_run 1 (pc' := 35) (loc' := [some (.ref 136), some (.int wh), some (.int le)]) (stk' := [.ref 136, .ref 145]) (fun _ _ _ => rfl) ?_
  refine zw_mget (v := .int ((zf Z 20) + 1)) rfl rfl ?_
  refine zw_run 1 (pc' := 39) (loc' := [some (.ref 136), some (.int wh), some (.int le)]) (stk' := [.int 0, .int ((zf Z 20) + 1), .ref 145]) (fun _ _ _ => rfl) ?_
  obtain ⟨b3, H⟩ := oq_ob H
  refine zw_iast (j := 145) rfl (by decide) (by decide) rfl b3 ?_
  show zw fm sx (d + 0) 125 40 [some (.ref 136), some (.int wh), some (.int le)] [] (zar (zar (zar (zmf Z 20 ((zf Z 20) + 1)) 143 ((zf Z 20) + 1) wh) 144 ((zf Z 20) + 1) le) 145 ((zf Z 20) + 1) 0) Q
  refine zw_run 1 (pc' := 41) (loc' := [some (.ref 136), some (.int wh), some (.int le)]) (stk' := [.ref 136]) (fun _ _ _ => rfl) ?_
  refine zw_mget (v := .ref 146) rfl rfl ?_
  refine zw_run 1 (pc' := 45) (loc' := [some (.ref 136), some (.int wh), some (.int le)]) (stk' := [.ref 136, .ref 146]) (fun _ _ _ => rfl) ?_
  refine zw_mget (v := .int ((zf Z 20) + 1)) rfl rfl ?_
  refine zw_run 1 (pc' := 49) (loc' := [some (.ref 136), some (.int wh), some (.int le)]) (stk' := [.int 0, .int ((zf Z 20) + 1), .ref 146]) (fun _ _ _ => rfl) ?_
  obtain ⟨b4, H⟩ := oq_ob H
  refine zw_iast (j := 146) rfl (by decide) (by decide) rfl b4 ?_
  show zw fm sx (d + 0) 125 50 [some (.ref 136), some (.int wh), some (.int le)] [] (zar (zar (zar (zar (zmf Z 20 ((zf Z 20) + 1)) 143 ((zf Z 20) + 1) wh) 144 ((zf Z 20) + 1) le) 145 ((zf Z 20) + 1) 0) 146 ((zf Z 20) + 1) 0) Q
  refine zw_run 1 (pc' := 51) (loc' := [some (.ref 136), some (.int wh), some (.int le)]) (stk' := [.ref 136]) (fun _ _ _ => rfl) ?_
  refine zw_mget (v := .ref 147) rfl rfl ?_
  refine zw_run 1 (pc' := 55) (loc' := [some (.ref 136), some (.int wh), some (.int le)]) (stk' := [.ref 136, .ref 147]) (fun _ _ _ => rfl) ?_
  refine zw_mget (v := .int ((zf Z 20) + 1)) rfl rfl ?_
  refine zw_run 1 (pc' := 59) (loc' := [some (.ref 136), some (.int wh), some (.int le)]) (stk' := [.int 0, .int ((zf Z 20) + 1), .ref 147]) (fun _ _ _ => rfl) ?_
  obtain ⟨b5, H⟩ := oq_ob H
  refine zw_iast (j := 147) rfl (by decide) (by decide) rfl b5 ?_
  show zw fm sx (d + 0) 125 60 [some (.ref 136), some (.int wh), some (.int le)] [] (zar (zar (zar (zar (zar (zmf Z 20 ((zf Z 20) + 1)) 143 ((zf Z 20) + 1) wh) 144 ((zf Z 20) + 1) le) 145 ((zf Z 20) + 1) 0) 146 ((zf Z 20) + 1) 0) 147 ((zf Z 20) + 1) 0) Q
  refine zw_run 1 (pc' := 61) (loc' := [some (.ref 136), some (.int wh), some (.int le)]) (stk' := [.ref 136]) (fun _ _ _ => rfl) ?_
  refine zw_mget (v := .ref 148) rfl rfl ?_
  refine zw_run 1 (pc' := 65) (loc' := [some (.ref 136), some (.int wh), some (.int le)]) (stk' := [.ref 136, .ref 148]) (fun _ _ _ => rfl) ?_
  refine zw_mget (v := .int ((zf Z 20) + 1)) rfl rfl ?_
  refine zw_run 1 (pc' := 69) (loc' := [some (.ref 136), some (.int wh), some (.int le)]) (stk' := [.int 0, .int ((zf Z 20) + 1), .ref 148]) (fun _ _ _ => rfl) ?_
  obtain ⟨b6, H⟩ := oq_ob H
  refine zw_iast (j := 148) rfl (by decide) (by decide) rfl b6 ?_
  show zw fm sx (d + 0) 125 70 [some (.ref 136), some (.int wh), some (.int le)] [] (zar (zar (zar (zar (zar (zar (zmf Z 20 ((zf Z 20) + 1)) 143 ((zf Z 20) + 1) wh) 144 ((zf Z 20) + 1) le) 145 ((zf Z 20) + 1) 0) 146 ((zf Z 20) + 1) 0) 147 ((zf Z 20) + 1) 0) 148 ((zf Z 20) + 1) 0) Q
  refine zw_run 1 (pc' := 71) (loc' := [some (.ref 136), some (.int wh), some (.int le)]) (stk' := [.ref 136]) (fun _ _ _ => rfl) ?_
  refine zw_mget (v := .ref 149) rfl rfl ?_
  refine zw_run 1 (pc' := 75) (loc' := [some (.ref 136), some (.int wh), some (.int le)]) (stk' := [.ref 136, .ref 149]) (fun _ _ _ => rfl) ?_
  refine zw_mget (v := .int ((zf Z 20) + 1)) rfl rfl ?_
  refine zw_run 1 (pc' := 79) (loc' := [some (.ref 136), some (.int wh), some (.int le)]) (stk' := [.int (-1), .int ((zf Z 20) + 1), .ref 149]) (fun _ _ _ => rfl) ?_
  obtain ⟨b7, H⟩ := oq_ob H
  refine zw_iast (j := 149) rfl (by decide) (by decide) rfl b7 ?_
  show zw fm sx (d + 0) 125 80 [some (.ref 136), some (.int wh), some (.int le)] [] (zar (zar (zar (zar (zar (zar (zar (zmf Z 20 ((zf Z 20) + 1)) 143 ((zf Z 20) + 1) wh) 144 ((zf Z 20) + 1) le) 145 ((zf Z 20) + 1) 0) 146 ((zf Z 20) + 1) 0) 147 ((zf Z 20) + 1) 0) 148 ((zf Z 20) + 1) 0) 149 ((zf Z 20) + 1) (-1)) Q
  refine zw_run 1 (pc' := 81) (loc' := [some (.ref 136), some (.int wh), some (.int le)]) (stk' := [.ref 136]) (fun _ _ _ => rfl) ?_
  refine zw_mget (v := .int ((zf Z 20) + 1)) rfl rfl ?_
  refine zw_reti (i := .nop) rfl rfl ?_
  have H := oq_some H
  exact H
theorem c_125 {fm : Value} {sx : Nat × (Nat → Int32)} {d : Nat} {Z : zr_Z} (hu : fm = .null ∨ ∃ q, fm = .ref q) (wh : Int32) (le : Int32) {x : Int32 × zr_Z} (hx : o_125 Z wh le = some x) : zl fm sx (d + 1) 125 [.ref 136, .int wh, .int le] Z (fun r Z' => r = some (.int x.1) ∧ Z' = x.2) :=
  zl_of (nL := 3) (loc0 := [some (.ref 136), some (.int wh), some (.int le)]) rfl rfl rfl (t_125 hu wh le ⟨x, hx, rfl, rfl⟩)
/-- MarkInlinesModel.put -/
def o_126 (Z : zr_Z) (xx : Int32) (be : Int32) : Option zr_Z := (if inq 150 be then (if inq 150 be then (if inq 151 xx then (if inq 150 xx then (if (zv Z 150 be) = 0 then some (zmf (zar (zar (zar Z 150 be xx) 151 xx be) 150 xx (zv Z 150 be)) 21 xx) else (if inq 151 (zv Z 150 be) then some (zar (zar (zar (zar Z 150 be xx) 151 xx be) 150 xx (zv Z 150 be)) 151 (zv Z 150 be) xx) else none)) else none) else none) else none) else none)
set_option maxRecDepth 100000 in
set_option maxHeartbeats 4000000 in
theorem t_126 {fm : Value} {sx : Nat × (Nat → Int32)} {d : Nat} {Z : zr_Z} {Q : Option Value → zr_Z → Prop} (hu : fm = .null ∨ ∃ q, fm = .ref q) (xx : Int32) (be : Int32) (H : oq (o_126 Z xx be) (fun x => Q none x)) : zw fm sx (d + 0) 126 0 [some (.ref 136), some (.int xx), some (.int be), none] [] Z Q := by
  unfold o_126 at H
  refine zw_run 1 (pc' := 1) (loc' := [some (.ref 136), some (.int xx), some (.int be), none]) (stk' := [.ref 136]) (fun _ _ _ => rfl) ?_
  refine zw_mget (v := .ref 150) rfl rfl ?_
  refine zw_run 1 (pc' := 5) (loc' := [some (.ref 136), some (.int xx), some (.int be), none]) (stk' := [.int be, .ref 150]) (fun _ _ _ => rfl) ?_
  obtain ⟨b1, H⟩ := oq_ob H
  refine zw_iald (j := 150) rfl (by decide) (by decide) rfl b1 ?_
  refine zw_run 2 (pc' := 8) (loc' := [some (.ref 136), some (.int xx), some (.int be), some (.int (zv Z 150 be))]) (stk' := [.ref 136]) (fun _ _ _ => rfl) ?_
  refine zw_mget (v := .ref 150) rfl rfl ?_
  refine zw_run 2 (pc' := 13) (loc' := [some (.ref 136), some (.int xx), some (.int be), some (.int (zv Z 150 be))]) (stk' := [.int xx, .int be, .ref 150]) (fun _ _ _ => rfl) ?_
  obtain ⟨b2, H⟩ := oq_ob H
  refine zw_iast (j := 150) rfl (by decide) (by decide) rfl b2 ?_
  show zw fm sx (d + 0) 126 14 [some (.ref 136), some (.int xx), some (.int be), some (.int (zv Z 150 be))] [] (zar Z 150 be xx) Q
  refine zw_run 1 (pc' := 15) (loc' := [some (.ref 136), some (.int xx), some (.int be), some (.int (zv Z 150 be))]) (stk' := [.ref 136]) (fun _ _ _ => rfl) ?_
  refine zw_mget (v := .ref 151) rfl rfl ?_
  refine zw_run 2 (pc' := 20) (loc' := [some (.ref 136), some (.int xx), some (.int be), some (.int (zv Z 150 be))]) (stk' := [.int be, .int xx, .ref 151]) (fun _ _ _ => rfl) ?_
  obtain ⟨b3, H⟩ := oq_ob H
  refine zw_iast (j := 151) rfl (by decide) (by decide) rfl b3 ?_
  show zw fm sx (d + 0) 126 21 [some (.ref 136), some (.int xx), some (.int be), some (.int (zv Z 150 be))] [] (zar (zar Z 150 be xx) 151 xx be) Q
  refine zw_run 1 (pc' := 22) (loc' := [some (.ref 136), some (.int xx), some (.int be), some (.int (zv Z 150 be))]) (stk' := [.ref 136]) (fun _ _ _ => rfl) ?_
  refine zw_mget (v := .ref 150) rfl rfl ?_
  refine zw_run 2 (pc' := 27) (loc' := [some (.ref 136), some (.int xx), some (.int be), some (.int (zv Z 150 be))]) (stk' := [.int (zv Z 150 be), .int xx, .ref 150]) (fun _ _ _ => rfl) ?_
  obtain ⟨b4, H⟩ := oq_ob H
  refine zw_iast (j := 150) rfl (by decide) (by decide) rfl b4 ?_
  show zw fm sx (d + 0) 126 28 [some (.ref 136), some (.int xx), some (.int be), some (.int (zv Z 150 be))] [] (zar (zar (zar Z 150 be xx) 151 xx be) 150 xx (zv Z 150 be)) Q
  refine zw_run 1 (pc' := 29) (loc' := [some (.ref 136), some (.int xx), some (.int be), some (.int (zv Z 150 be))]) (stk' := [.int (zv Z 150 be)]) (fun _ _ _ => rfl) ?_
  refine zw_br (c := (zv Z 150 be) = 0) (t1 := 42) (t2 := 32) (loc' := [some (.ref 136), some (.int xx), some (.int be), some (.int (zv Z 150 be))]) (stk' := []) (fun _ _ _ => rfl) (fun c5 => ?_) (fun c5 => ?_)
  · rw [if_pos c5] at H
    refine zw_run 2 (pc' := 44) (loc' := [some (.ref 136), some (.int xx), some (.int be), some (.int (zv Z 150 be))]) (stk' := [.int xx, .ref 136]) (fun _ _ _ => rfl) ?_
    refine zw_mput rfl rfl rfl rfl ?_
    show zw fm sx (d + 0) 126 47 [some (.ref 136), some (.int xx), some (.int be), some (.int (zv Z 150 be))] [] (zmf (zar (zar (zar Z 150 be xx) 151 xx be) 150 xx (zv Z 150 be)) 21 xx) Q
    refine zw_retv rfl rfl ?_
    have H := oq_some H
    exact H
  · rw [if_neg c5] at H
    refine zw_run 1 (pc' := 33) (loc' := [some (.ref 136), some (.int xx), some (.int be), some (.int (zv Z 150 be))]) (stk' := [.ref 136]) (fun _ _ _ => rfl) ?_
    refine zw_mget (v := .ref 151) rfl rfl ?_
    refine zw_run 2 (pc' := 38) (loc' := [some (.ref 136), some (.int xx), some (.int be), some (.int (zv Z 150 be))]) (stk' := [.int xx, .int (zv Z 150 be), .ref 151]) (fun _ _ _ => rfl) ?_
    obtain ⟨b6, H⟩ := oq_ob H
    refine zw_iast (j := 151) rfl (by decide) (by decide) rfl b6 ?_
    show zw fm sx (d + 0) 126 39 [some (.ref 136), some (.int xx), some (.int be), some (.int (zv Z 150 be))] [] (zar (zar (zar (zar Z 150 be xx) 151 xx be) 150 xx (zv Z 150 be)) 151 (zv Z 150 be) xx) Q
    refine zw_run 1 (pc' := 47) (loc' := [some (.ref 136), some (.int xx), some (.int be), some (.int (zv Z 150 be))]) (stk' := []) (fun _ _ _ => rfl) ?_
    refine zw_retv rfl rfl ?_
    have H := oq_some H
    exact H
theorem c_126 {fm : Value} {sx : Nat × (Nat → Int32)} {d : Nat} {Z : zr_Z} (hu : fm = .null ∨ ∃ q, fm = .ref q) (xx : Int32) (be : Int32) {x : zr_Z} (hx : o_126 Z xx be = some x) : zl fm sx (d + 1) 126 [.ref 136, .int xx, .int be] Z (fun r Z' => r = none ∧ Z' = x) :=
  zl_of (nL := 4) (loc0 := [some (.ref 136), some (.int xx), some (.int be), none]) rfl rfl rfl (t_126 hu xx be ⟨x, hx, rfl, rfl⟩)
/-- MarkInlinesModel.append -/
def o_127 (Z : zr_Z) (wh : Int32) (le : Int32) : Option (Int32 × zr_Z) := (Option.bind (o_125 Z wh le) fun u1 => (Option.bind (o_126 u1.2 u1.1 (zf u1.2 21)) fun u2 => some (u1.1, u2)))
set_option maxRecDepth 100000 in
set_option maxHeartbeats 4000000 in
theorem t_127 {fm : Value} {sx : Nat × (Nat → Int32)} {d : Nat} {Z : zr_Z} {Q : Option Value → zr_Z → Prop} (hu : fm = .null ∨ ∃ q, fm = .ref q) (wh : Int32) (le : Int32) (H : oq (o_127 Z wh le) (fun x => Q (some (.int x.1)) x.2)) : zw fm sx (d + 1) 127 0 [some (.ref 136), some (.int wh), some (.int le), none] [] Z Q := by
  unfold o_127 at H
  refine zw_run 3 (pc' := 3) (loc' := [some (.ref 136), some (.int wh), some (.int le), none]) (stk' := [.int le, .int wh, .ref 136]) (fun _ _ _ => rfl) ?_
  obtain ⟨u1, hu1, H⟩ := oq_bind H
  refine zw_callf (As := [.ref 136, .int wh, .int le]) (rest := []) (c_125 hu wh le hu1 (d := d + 0)) rfl rfl rfl rfl ?_
  show zw fm sx (d + 1) 127 6 [some (.ref 136), some (.int wh), some (.int le), none] [.int u1.1] u1.2 Q
  refine zw_run 4 (pc' := 10) (loc' := [some (.ref 136), some (.int wh), some (.int le), some (.int u1.1)]) (stk' := [.ref 136, .int u1.1, .ref 136]) (fun _ _ _ => rfl) ?_
  refine zw_mget (v := .int (zf u1.2 21)) rfl rfl ?_
  obtain ⟨u2, hu2, H⟩ := oq_bind H
  refine zw_callf (As := [.ref 136, .int u1.1, .int (zf u1.2 21)]) (rest := []) (c_126 hu u1.1 (zf u1.2 21) hu2 (d := d + 0)) rfl rfl rfl rfl ?_
  show zw fm sx (d + 1) 127 16 [some (.ref 136), some (.int wh), some (.int le), some (.int u1.1)] [] u2 Q
  refine zw_run 1 (pc' := 17) (loc' := [some (.ref 136), some (.int wh), some (.int le), some (.int u1.1)]) (stk' := [.int u1.1]) (fun _ _ _ => rfl) ?_
  refine zw_reti (i := .nop) rfl rfl ?_
  have H := oq_some H
  exact H
theorem c_127 {fm : Value} {sx : Nat × (Nat → Int32)} {d : Nat} {Z : zr_Z} (hu : fm = .null ∨ ∃ q, fm = .ref q) (wh : Int32) (le : Int32) {x : Int32 × zr_Z} (hx : o_127 Z wh le = some x) : zl fm sx (d + 2) 127 [.ref 136, .int wh, .int le] Z (fun r Z' => r = some (.int x.1) ∧ Z' = x.2) :=
  zl_of (nL := 4) (loc0 := [some (.ref 136), some (.int wh), some (.int le), none]) rfl rfl rfl (t_127 hu wh le ⟨x, hx, rfl, rfl⟩)
/-- MarkInlinesModel.say, its loop at 2 -/
def g_128_2 : Nat → zr_Z → Int32 → Int32 → Int32 → Option zr_Z
  | 0, _, _, _, _ => none
  | n + 1, Z, k, n_, x3 => (if sok Z then (if n_ ≤ x3 then some Z else (Option.bind (o_127 Z 0 (ra Z (k + x3))) fun u2 => (if sok u2.2 then g_128_2 n u2.2 k n_ (x3 + 1) else none))) else none)
set_option maxRecDepth 100000 in
set_option maxHeartbeats 4000000 in
theorem l_128_2 {fm : Value} {sx : Nat × (Nat → Int32)} {d : Nat} {Q : Option Value → zr_Z → Prop} (hu : fm = .null ∨ ∃ q, fm = .ref q) (k : Int32) (n_ : Int32) : ∀ (n : Nat) (Z : zr_Z) (x3 : Int32), oq (g_128_2 n Z k n_ x3) (fun x => Q none x) → zw fm sx (d + 2) 128 2 [some (.ref 136), some (.int k), some (.int n_), some (.int x3)] [] Z Q := by
  intro n
  induction n with
  | zero => intro Z x3 H; exact absurd H oq_none
  | succ n ih =>
    intro Z x3 H
    unfold g_128_2 at H
    obtain ⟨hS, H⟩ := oq_ob H
    refine zw_run 2 (pc' := 4) (loc' := [some (.ref 136), some (.int k), some (.int n_), some (.int x3)]) (stk' := [.int n_, .int x3]) (fun _ _ _ => rfl) ?_
    refine zw_br (c := n_ ≤ x3) (t1 := 26) (t2 := 7) (loc' := [some (.ref 136), some (.int k), some (.int n_), some (.int x3)]) (stk' := []) (fun _ _ _ => rfl) (fun c1 => ?_) (fun c1 => ?_)
    · rw [if_pos c1] at H
      refine zw_retv rfl rfl ?_
      have H := oq_some H
      exact H
    · rw [if_neg c1] at H
      refine zw_run 6 (pc' := 13) (loc' := [some (.ref 136), some (.int k), some (.int n_), some (.int x3)]) (stk' := [.int (k + x3), .ref 136, .int 0, .ref 136]) (fun _ _ _ => rfl) ?_
      refine zw_callf (As := [.ref 136, .int (k + x3)]) (rest := [.int 0, .ref 136]) (c_183 (Z := Z) hS (k + x3) (d := d + 1)) rfl rfl rfl rfl ?_
      show zw fm sx (d + 2) 128 16 [some (.ref 136), some (.int k), some (.int n_), some (.int x3)] [.int (ra Z (k + x3)), .int 0, .ref 136] Z Q
      obtain ⟨u2, hu2, H⟩ := oq_bind H
      refine zw_callf (As := [.ref 136, .int 0, .int (ra Z (k + x3))]) (rest := []) (c_127 hu 0 (ra Z (k + x3)) hu2 (d := d + 0)) rfl rfl rfl rfl ?_
      show zw fm sx (d + 2) 128 19 [some (.ref 136), some (.int k), some (.int n_), some (.int x3)] [.int u2.1] u2.2 Q
      obtain ⟨hS, H⟩ := oq_ob H
      refine zw_run 3 (pc' := 2) (loc' := [some (.ref 136), some (.int k), some (.int n_), some (.int (x3 + 1))]) (stk' := []) (fun _ _ _ => rfl) ?_
      exact ih u2.2 (x3 + 1) H
/-- MarkInlinesModel.say -/
def o_128 (Z : zr_Z) (k : Int32) (n_ : Int32) : Option zr_Z := (if sok Z then g_128_2 oF Z k n_ 0 else none)
set_option maxRecDepth 100000 in
set_option maxHeartbeats 4000000 in
theorem t_128 {fm : Value} {sx : Nat × (Nat → Int32)} {d : Nat} {Z : zr_Z} {Q : Option Value → zr_Z → Prop} (hu : fm = .null ∨ ∃ q, fm = .ref q) (k : Int32) (n_ : Int32) (H : oq (o_128 Z k n_) (fun x => Q none x)) : zw fm sx (d + 2) 128 0 [some (.ref 136), some (.int k), some (.int n_), none] [] Z Q := by
  unfold o_128 at H
  obtain ⟨hS, H⟩ := oq_ob H
  refine zw_run 2 (pc' := 2) (loc' := [some (.ref 136), some (.int k), some (.int n_), some (.int 0)]) (stk' := []) (fun _ _ _ => rfl) ?_
  exact l_128_2 hu k n_ _ Z 0 H
theorem c_128 {fm : Value} {sx : Nat × (Nat → Int32)} {d : Nat} {Z : zr_Z} (hu : fm = .null ∨ ∃ q, fm = .ref q) (k : Int32) (n_ : Int32) {x : zr_Z} (hx : o_128 Z k n_ = some x) : zl fm sx (d + 3) 128 [.ref 136, .int k, .int n_] Z (fun r Z' => r = none ∧ Z' = x) :=
  zl_of (nL := 4) (loc0 := [some (.ref 136), some (.int k), some (.int n_), none]) rfl rfl rfl (t_128 hu k n_ ⟨x, hx, rfl, rfl⟩)
/-- MarkInlinesModel.dropLast -/
def o_129 (Z : zr_Z)  : Option zr_Z := (if inq 151 (zf Z 21) then (if inq 150 (zv Z 151 (zf Z 21)) then some (zar (zmf Z 21 (zv Z 151 (zf Z 21))) 150 (zv Z 151 (zf Z 21)) 0) else none) else none)
set_option maxRecDepth 100000 in
set_option maxHeartbeats 4000000 in
theorem t_129 {fm : Value} {sx : Nat × (Nat → Int32)} {d : Nat} {Z : zr_Z} {Q : Option Value → zr_Z → Prop} (hu : fm = .null ∨ ∃ q, fm = .ref q)  (H : oq (o_129 Z) (fun x => Q none x)) : zw fm sx (d + 0) 129 0 [some (.ref 136)] [] Z Q := by
  unfold o_129 at H
  refine zw_run 2 (pc' := 2) (loc' := [some (.ref 136)]) (stk' := [.ref 136, .ref 136]) (fun _ _ _ => rfl) ?_
  refine zw_mget (v := .ref 151) rfl rfl ?_
  refine zw_run 1 (pc' := 6) (loc' := [some (.ref 136)]) (stk' := [.ref 136, .ref 151, .ref 136]) (fun _ _ _ => rfl) ?_
  refine zw_mget (v := .int (zf Z 21)) rfl rfl ?_
  obtain ⟨b1, H⟩ := oq_ob H
  refine zw_iald (j := 151) rfl (by decide) (by decide) rfl b1 ?_
  refine zw_mput rfl rfl rfl rfl ?_
  show zw fm sx (d + 0) 129 13 [some (.ref 136)] [] (zmf Z 21 (zv Z 151 (zf Z 21))) Q
  refine zw_run 1 (pc' := 14) (loc' := [some (.ref 136)]) (stk' := [.ref 136]) (fun _ _ _ => rfl) ?_
  refine zw_mget (v := .ref 150) rfl rfl ?_
  refine zw_run 1 (pc' := 18) (loc' := [some (.ref 136)]) (stk' := [.ref 136, .ref 150]) (fun _ _ _ => rfl) ?_
  refine zw_mget (v := .int (zv Z 151 (zf Z 21))) rfl rfl ?_
  refine zw_run 1 (pc' := 22) (loc' := [some (.ref 136)]) (stk' := [.int 0, .int (zv Z 151 (zf Z 21)), .ref 150]) (fun _ _ _ => rfl) ?_
  obtain ⟨b2, H⟩ := oq_ob H
  refine zw_iast (j := 150) rfl (by decide) (by decide) rfl b2 ?_
  show zw fm sx (d + 0) 129 23 [some (.ref 136)] [] (zar (zmf Z 21 (zv Z 151 (zf Z 21))) 150 (zv Z 151 (zf Z 21)) 0) Q
  refine zw_retv rfl rfl ?_
  have H := oq_some H
  exact H
theorem c_129 {fm : Value} {sx : Nat × (Nat → Int32)} {d : Nat} {Z : zr_Z} (hu : fm = .null ∨ ∃ q, fm = .ref q)  {x : zr_Z} (hx : o_129 Z = some x) : zl fm sx (d + 1) 129 [.ref 136] Z (fun r Z' => r = none ∧ Z' = x) :=
  zl_of (nL := 1) (loc0 := [some (.ref 136)]) rfl rfl rfl (t_129 hu ⟨x, hx, rfl, rfl⟩)
/-- MarkInlinesModel.isBoth -/
def o_130 (Z : zr_Z) (r_ : Int32) : Option Bool := (if inq 155 r_ then (if (if (zv Z 155 r_) = 0 then True else (inq 156 r_ ∧ (if (zv Z 156 r_) = 0 then True else True))) then some ((!(decide ((zv Z 155 r_) = 0))) && (!(decide ((zv Z 156 r_) = 0)))) else none) else none)
set_option maxRecDepth 100000 in
set_option maxHeartbeats 4000000 in
theorem t_130 {fm : Value} {sx : Nat × (Nat → Int32)} {d : Nat} {Z : zr_Z} {Q : Option Value → zr_Z → Prop} (hu : fm = .null ∨ ∃ q, fm = .ref q) (r_ : Int32) (H : oq (o_130 Z r_) (fun x => Q (some (.int (bI x))) Z)) : zw fm sx (d + 0) 130 0 [some (.ref 136), some (.int r_)] [] Z Q := by
  unfold o_130 at H
  refine zw_run 1 (pc' := 1) (loc' := [some (.ref 136), some (.int r_)]) (stk' := [.ref 136]) (fun _ _ _ => rfl) ?_
  refine zw_mget (v := .ref 155) rfl rfl ?_
  refine zw_run 1 (pc' := 5) (loc' := [some (.ref 136), some (.int r_)]) (stk' := [.int r_, .ref 155]) (fun _ _ _ => rfl) ?_
  obtain ⟨b1, H⟩ := oq_ob H
  refine zw_bald (j := 155) rfl (by decide) (by decide) rfl b1 ?_
  obtain ⟨HR, H⟩ := oq_ob H
  have J6 : ∀ (v5 : Int32), v5 = (bI ((!(decide ((zv Z 155 r_) = 0))) && (!(decide ((zv Z 156 r_) = 0))))) → zw fm sx (d + 0) 130 23 [some (.ref 136), some (.int r_)] [.int v5] Z Q := by
    intro v5 ev5
    subst ev5
    refine zw_retz rfl rfl (bI_01 _) ?_
    have H := oq_some H
    exact H
  clear H
  have H := HR
  refine zw_br (c := (zv Z 155 r_) = 0) (t1 := 22) (t2 := 9) (loc' := [some (.ref 136), some (.int r_)]) (stk' := []) (fun _ _ _ => rfl) (fun c2 => ?_) (fun c2 => ?_)
  · rw [if_pos c2] at H
    refine zw_run 1 (pc' := 23) (loc' := [some (.ref 136), some (.int r_)]) (stk' := [.int 0]) (fun _ _ _ => rfl) ?_
    exact J6 _ (by clear H J6; first | (simp [bI, c2]; done) | (simp [bI, *]; done) | (simp_all [bI]; done) | (rw [decide_eq_true (Decidable.not_not.mp c2)]; rfl) | (exfalso; simp_all; done))
  · rw [if_neg c2] at H
    refine zw_run 1 (pc' := 10) (loc' := [some (.ref 136), some (.int r_)]) (stk' := [.ref 136]) (fun _ _ _ => rfl) ?_
    refine zw_mget (v := .ref 156) rfl rfl ?_
    refine zw_run 1 (pc' := 14) (loc' := [some (.ref 136), some (.int r_)]) (stk' := [.int r_, .ref 156]) (fun _ _ _ => rfl) ?_
    obtain ⟨b3, H⟩ := H
    refine zw_bald (j := 156) rfl (by decide) (by decide) rfl b3 ?_
    refine zw_br (c := (zv Z 156 r_) = 0) (t1 := 22) (t2 := 18) (loc' := [some (.ref 136), some (.int r_)]) (stk' := []) (fun _ _ _ => rfl) (fun c4 => ?_) (fun c4 => ?_)
    · rw [if_pos c4] at H
      refine zw_run 1 (pc' := 23) (loc' := [some (.ref 136), some (.int r_)]) (stk' := [.int 0]) (fun _ _ _ => rfl) ?_
      exact J6 _ (by clear H J6; first | (simp [bI, c2, c4]; done) | (simp [bI, *]; done) | (simp_all [bI]; done) | (rw [decide_eq_true (Decidable.not_not.mp c2)]; rfl) | (rw [decide_eq_true (Decidable.not_not.mp c4)]; rfl) | (exfalso; simp_all; done))
    · rw [if_neg c4] at H
      refine zw_run 2 (pc' := 23) (loc' := [some (.ref 136), some (.int r_)]) (stk' := [.int 1]) (fun _ _ _ => rfl) ?_
      exact J6 _ (by clear H J6; first | (simp [bI, c2, c4]; done) | (simp [bI, *]; done) | (simp_all [bI]; done) | (rw [decide_eq_true (Decidable.not_not.mp c2)]; rfl) | (rw [decide_eq_true (Decidable.not_not.mp c4)]; rfl) | (exfalso; simp_all; done))
theorem c_130 {fm : Value} {sx : Nat × (Nat → Int32)} {d : Nat} {Z : zr_Z} (hu : fm = .null ∨ ∃ q, fm = .ref q) (r_ : Int32) {x : Bool} (hx : o_130 Z r_ = some x) : zl fm sx (d + 1) 130 [.ref 136, .int r_] Z (fun r Z' => r = some (.int (bI x)) ∧ Z' = Z) :=
  zl_of (nL := 2) (loc0 := [some (.ref 136), some (.int r_)]) rfl rfl rfl (t_130 hu r_ ⟨x, hx, rfl, rfl⟩)
/-- MarkInlinesModel.clashes -/
def o_131 (Z : zr_Z) (a : Int32) (c : Int32) : Option Bool := (Option.bind (o_130 Z a) fun u1 => (if u1 = true then (if inq 153 a then (if inq 153 c then (if (if ¬ (((zv Z 153 a) + (zv Z 153 c)) - ((zv Z 153 a) + (zv Z 153 c)) / 3 * 3) = 0 then True else (inq 153 a ∧ (if ¬ ((zv Z 153 a) - (zv Z 153 a) / 3 * 3) = 0 then True else (inq 153 c ∧ (if ((zv Z 153 c) - (zv Z 153 c) / 3 * 3) = 0 then True else True))))) then some ((decide ((((zv Z 153 a) + (zv Z 153 c)) - ((zv Z 153 a) + (zv Z 153 c)) / 3 * 3) = 0)) && ((!(decide (((zv Z 153 a) - (zv Z 153 a) / 3 * 3) = 0))) || (!(decide (((zv Z 153 c) - (zv Z 153 c) / 3 * 3) = 0))))) else none) else none) else none) else (Option.bind (o_130 Z c) fun u12 => (if (if u12 = true then (inq 153 a ∧ (inq 153 c ∧ (if ¬ (((zv Z 153 a) + (zv Z 153 c)) - ((zv Z 153 a) + (zv Z 153 c)) / 3 * 3) = 0 then True else (inq 153 a ∧ (if ¬ ((zv Z 153 a) - (zv Z 153 a) / 3 * 3) = 0 then True else (inq 153 c ∧ (if ((zv Z 153 c) - (zv Z 153 c) / 3 * 3) = 0 then True else True))))))) else True) then some (u12 && ((decide ((((zv Z 153 a) + (zv Z 153 c)) - ((zv Z 153 a) + (zv Z 153 c)) / 3 * 3) = 0)) && ((!(decide (((zv Z 153 a) - (zv Z 153 a) / 3 * 3) = 0))) || (!(decide (((zv Z 153 c) - (zv Z 153 c) / 3 * 3) = 0)))))) else none))))
set_option maxRecDepth 100000 in
set_option maxHeartbeats 4000000 in
theorem t_131 {fm : Value} {sx : Nat × (Nat → Int32)} {d : Nat} {Z : zr_Z} {Q : Option Value → zr_Z → Prop} (hu : fm = .null ∨ ∃ q, fm = .ref q) (a : Int32) (c : Int32) (H : oq (o_131 Z a c) (fun x => Q (some (.int (bI x))) Z)) : zw fm sx (d + 1) 131 0 [some (.ref 136), some (.int a), some (.int c)] [] Z Q := by
  unfold o_131 at H
  refine zw_run 2 (pc' := 2) (loc' := [some (.ref 136), some (.int a), some (.int c)]) (stk' := [.int a, .ref 136]) (fun _ _ _ => rfl) ?_
  obtain ⟨u1, hu1, H⟩ := oq_bind H
  refine zw_callf (As := [.ref 136, .int a]) (rest := []) (c_130 hu a hu1 (d := d + 0)) rfl rfl rfl rfl ?_
  show zw fm sx (d + 1) 131 5 [some (.ref 136), some (.int a), some (.int c)] [.int (bI u1)] Z Q
  refine zw_b1 (b := u1) (t1 := 16) (t2 := 8) (loc' := [some (.ref 136), some (.int a), some (.int c)]) (stk' := []) (fun _ _ _ => rfl) (fun c2 => ?_) (fun c2 => ?_)
  · rw [if_pos c2] at H
    refine zw_run 1 (pc' := 17) (loc' := [some (.ref 136), some (.int a), some (.int c)]) (stk' := [.ref 136]) (fun _ _ _ => rfl) ?_
    refine zw_mget (v := .ref 153) rfl rfl ?_
    refine zw_run 1 (pc' := 21) (loc' := [some (.ref 136), some (.int a), some (.int c)]) (stk' := [.int a, .ref 153]) (fun _ _ _ => rfl) ?_
    obtain ⟨b3, H⟩ := oq_ob H
    refine zw_iald (j := 153) rfl (by decide) (by decide) rfl b3 ?_
    refine zw_run 1 (pc' := 23) (loc' := [some (.ref 136), some (.int a), some (.int c)]) (stk' := [.ref 136, .int (zv Z 153 a)]) (fun _ _ _ => rfl) ?_
    refine zw_mget (v := .ref 153) rfl rfl ?_
    refine zw_run 1 (pc' := 27) (loc' := [some (.ref 136), some (.int a), some (.int c)]) (stk' := [.int c, .ref 153, .int (zv Z 153 a)]) (fun _ _ _ => rfl) ?_
    obtain ⟨b4, H⟩ := oq_ob H
    refine zw_iald (j := 153) rfl (by decide) (by decide) rfl b4 ?_
    refine zw_run 3 (pc' := 31) (loc' := [some (.ref 136), some (.int a), some (.int c)]) (stk' := [.int (((zv Z 153 a) + (zv Z 153 c)) - ((zv Z 153 a) + (zv Z 153 c)) / 3 * 3)]) (fun _ _ _ => rfl) ?_
    obtain ⟨HR, H⟩ := oq_ob H
    have J11 : ∀ (v10 : Int32), v10 = (bI ((decide ((((zv Z 153 a) + (zv Z 153 c)) - ((zv Z 153 a) + (zv Z 153 c)) / 3 * 3) = 0)) && ((!(decide (((zv Z 153 a) - (zv Z 153 a) / 3 * 3) = 0))) || (!(decide (((zv Z 153 c) - (zv Z 153 c) / 3 * 3) = 0)))))) → zw fm sx (d + 1) 131 61 [some (.ref 136), some (.int a), some (.int c)] [.int v10] Z Q := by
      intro v10 ev10
      subst ev10
      refine zw_retz rfl rfl (bI_01 _) ?_
      have H := oq_some H
      exact H
    clear H
    have H := HR
    refine zw_br (c := ¬ (((zv Z 153 a) + (zv Z 153 c)) - ((zv Z 153 a) + (zv Z 153 c)) / 3 * 3) = 0) (t1 := 60) (t2 := 34) (loc' := [some (.ref 136), some (.int a), some (.int c)]) (stk' := []) (fun _ _ _ => rfl) (fun c5 => ?_) (fun c5 => ?_)
    · rw [if_pos c5] at H
      refine zw_run 1 (pc' := 61) (loc' := [some (.ref 136), some (.int a), some (.int c)]) (stk' := [.int 0]) (fun _ _ _ => rfl) ?_
      exact J11 _ (by clear H J11; first | (simp [bI, c5]; done) | (simp [bI, *]; done) | (simp_all [bI]; done) | (rw [decide_eq_true (Decidable.not_not.mp c5)]; rfl) | (exfalso; simp_all; done))
    · rw [if_neg c5] at H
      refine zw_run 1 (pc' := 35) (loc' := [some (.ref 136), some (.int a), some (.int c)]) (stk' := [.ref 136]) (fun _ _ _ => rfl) ?_
      refine zw_mget (v := .ref 153) rfl rfl ?_
      refine zw_run 1 (pc' := 39) (loc' := [some (.ref 136), some (.int a), some (.int c)]) (stk' := [.int a, .ref 153]) (fun _ _ _ => rfl) ?_
      obtain ⟨b6, H⟩ := H
      refine zw_iald (j := 153) rfl (by decide) (by decide) rfl b6 ?_
      refine zw_run 2 (pc' := 42) (loc' := [some (.ref 136), some (.int a), some (.int c)]) (stk' := [.int ((zv Z 153 a) - (zv Z 153 a) / 3 * 3)]) (fun _ _ _ => rfl) ?_
      refine zw_br (c := ¬ ((zv Z 153 a) - (zv Z 153 a) / 3 * 3) = 0) (t1 := 56) (t2 := 45) (loc' := [some (.ref 136), some (.int a), some (.int c)]) (stk' := []) (fun _ _ _ => rfl) (fun c7 => ?_) (fun c7 => ?_)
      · rw [if_pos c7] at H
        refine zw_run 2 (pc' := 61) (loc' := [some (.ref 136), some (.int a), some (.int c)]) (stk' := [.int 1]) (fun _ _ _ => rfl) ?_
        exact J11 _ (by clear H J11; first | (simp [bI, c5, c7]; done) | (simp [bI, *]; done) | (simp_all [bI]; done) | (rw [decide_eq_true (Decidable.not_not.mp c5)]; rfl) | (rw [decide_eq_true (Decidable.not_not.mp c7)]; rfl) | (exfalso; simp_all; done))
      · rw [if_neg c7] at H
        refine zw_run 1 (pc' := 46) (loc' := [some (.ref 136), some (.int a), some (.int c)]) (stk' := [.ref 136]) (fun _ _ _ => rfl) ?_
        refine zw_mget (v := .ref 153) rfl rfl ?_
        refine zw_run 1 (pc' := 50) (loc' := [some (.ref 136), some (.int a), some (.int c)]) (stk' := [.int c, .ref 153]) (fun _ _ _ => rfl) ?_
        obtain ⟨b8, H⟩ := H
        refine zw_iald (j := 153) rfl (by decide) (by decide) rfl b8 ?_
        refine zw_run 2 (pc' := 53) (loc' := [some (.ref 136), some (.int a), some (.int c)]) (stk' := [.int ((zv Z 153 c) - (zv Z 153 c) / 3 * 3)]) (fun _ _ _ => rfl) ?_
        refine zw_br (c := ((zv Z 153 c) - (zv Z 153 c) / 3 * 3) = 0) (t1 := 60) (t2 := 56) (loc' := [some (.ref 136), some (.int a), some (.int c)]) (stk' := []) (fun _ _ _ => rfl) (fun c9 => ?_) (fun c9 => ?_)
        · rw [if_pos c9] at H
          refine zw_run 1 (pc' := 61) (loc' := [some (.ref 136), some (.int a), some (.int c)]) (stk' := [.int 0]) (fun _ _ _ => rfl) ?_
          exact J11 _ (by clear H J11; first | (simp [bI, c5, c7, c9]; done) | (simp [bI, *]; done) | (simp_all [bI]; done) | (rw [decide_eq_true (Decidable.not_not.mp c5)]; rfl) | (rw [decide_eq_true (Decidable.not_not.mp c7)]; rfl) | (rw [decide_eq_true (Decidable.not_not.mp c9)]; rfl) | (exfalso; simp_all; done))
        · rw [if_neg c9] at H
          refine zw_run 2 (pc' := 61) (loc' := [some (.ref 136), some (.int a), some (.int c)]) (stk' := [.int 1]) (fun _ _ _ => rfl) ?_
          exact J11 _ (by clear H J11; first | (simp [bI, c5, c7, c9]; done) | (simp [bI, *]; done) | (simp_all [bI]; done) | (rw [decide_eq_true (Decidable.not_not.mp c5)]; rfl) | (rw [decide_eq_true (Decidable.not_not.mp c7)]; rfl) | (rw [decide_eq_true (Decidable.not_not.mp c9)]; rfl) | (exfalso; simp_all; done))
  · rw [if_neg c2] at H
    refine zw_run 2 (pc' := 10) (loc' := [some (.ref 136), some (.int a), some (.int c)]) (stk' := [.int c, .ref 136]) (fun _ _ _ => rfl) ?_
    obtain ⟨u12, hu12, H⟩ := oq_bind H
    refine zw_callf (As := [.ref 136, .int c]) (rest := []) (c_130 hu c hu12 (d := d + 0)) rfl rfl rfl rfl ?_
    show zw fm sx (d + 1) 131 13 [some (.ref 136), some (.int a), some (.int c)] [.int (bI u12)] Z Q
    obtain ⟨HR, H⟩ := oq_ob H
    have J22 : ∀ (v21 : Int32), v21 = (bI (u12 && ((decide ((((zv Z 153 a) + (zv Z 153 c)) - ((zv Z 153 a) + (zv Z 153 c)) / 3 * 3) = 0)) && ((!(decide (((zv Z 153 a) - (zv Z 153 a) / 3 * 3) = 0))) || (!(decide (((zv Z 153 c) - (zv Z 153 c) / 3 * 3) = 0))))))) → zw fm sx (d + 1) 131 61 [some (.ref 136), some (.int a), some (.int c)] [.int v21] Z Q := by
      intro v21 ev21
      subst ev21
      refine zw_retz rfl rfl (bI_01 _) ?_
      have H := oq_some H
      exact H
    clear H
    have H := HR
    refine zw_b0 (b := u12) (t1 := 16) (t2 := 60) (loc' := [some (.ref 136), some (.int a), some (.int c)]) (stk' := []) (fun _ _ _ => rfl) (fun c13 => ?_) (fun c13 => ?_)
    · rw [if_pos c13] at H
      refine zw_run 1 (pc' := 17) (loc' := [some (.ref 136), some (.int a), some (.int c)]) (stk' := [.ref 136]) (fun _ _ _ => rfl) ?_
      refine zw_mget (v := .ref 153) rfl rfl ?_
      refine zw_run 1 (pc' := 21) (loc' := [some (.ref 136), some (.int a), some (.int c)]) (stk' := [.int a, .ref 153]) (fun _ _ _ => rfl) ?_
      obtain ⟨b14, H⟩ := H
      refine zw_iald (j := 153) rfl (by decide) (by decide) rfl b14 ?_
      refine zw_run 1 (pc' := 23) (loc' := [some (.ref 136), some (.int a), some (.int c)]) (stk' := [.ref 136, .int (zv Z 153 a)]) (fun _ _ _ => rfl) ?_
      refine zw_mget (v := .ref 153) rfl rfl ?_
      refine zw_run 1 (pc' := 27) (loc' := [some (.ref 136), some (.int a), some (.int c)]) (stk' := [.int c, .ref 153, .int (zv Z 153 a)]) (fun _ _ _ => rfl) ?_
      obtain ⟨b15, H⟩ := H
      refine zw_iald (j := 153) rfl (by decide) (by decide) rfl b15 ?_
      refine zw_run 3 (pc' := 31) (loc' := [some (.ref 136), some (.int a), some (.int c)]) (stk' := [.int (((zv Z 153 a) + (zv Z 153 c)) - ((zv Z 153 a) + (zv Z 153 c)) / 3 * 3)]) (fun _ _ _ => rfl) ?_
      refine zw_br (c := ¬ (((zv Z 153 a) + (zv Z 153 c)) - ((zv Z 153 a) + (zv Z 153 c)) / 3 * 3) = 0) (t1 := 60) (t2 := 34) (loc' := [some (.ref 136), some (.int a), some (.int c)]) (stk' := []) (fun _ _ _ => rfl) (fun c16 => ?_) (fun c16 => ?_)
      · rw [if_pos c16] at H
        refine zw_run 1 (pc' := 61) (loc' := [some (.ref 136), some (.int a), some (.int c)]) (stk' := [.int 0]) (fun _ _ _ => rfl) ?_
        exact J22 _ (by clear H J22; first | (simp [bI, c13, c16]; done) | (simp [bI, *]; done) | (simp_all [bI]; done) | (rw [decide_eq_true (Decidable.not_not.mp c13)]; rfl) | (rw [decide_eq_true (Decidable.not_not.mp c16)]; rfl) | (exfalso; simp_all; done))
      · rw [if_neg c16] at H
        refine zw_run 1 (pc' := 35) (loc' := [some (.ref 136), some (.int a), some (.int c)]) (stk' := [.ref 136]) (fun _ _ _ => rfl) ?_
        refine zw_mget (v := .ref 153) rfl rfl ?_
        refine zw_run 1 (pc' := 39) (loc' := [some (.ref 136), some (.int a), some (.int c)]) (stk' := [.int a, .ref 153]) (fun _ _ _ => rfl) ?_
        obtain ⟨b17, H⟩ := H
        refine zw_iald (j := 153) rfl (by decide) (by decide) rfl b17 ?_
        refine zw_run 2 (pc' := 42) (loc' := [some (.ref 136), some (.int a), some (.int c)]) (stk' := [.int ((zv Z 153 a) - (zv Z 153 a) / 3 * 3)]) (fun _ _ _ => rfl) ?_
        refine zw_br (c := ¬ ((zv Z 153 a) - (zv Z 153 a) / 3 * 3) = 0) (t1 := 56) (t2 := 45) (loc' := [some (.ref 136), some (.int a), some (.int c)]) (stk' := []) (fun _ _ _ => rfl) (fun c18 => ?_) (fun c18 => ?_)
        · rw [if_pos c18] at H
          refine zw_run 2 (pc' := 61) (loc' := [some (.ref 136), some (.int a), some (.int c)]) (stk' := [.int 1]) (fun _ _ _ => rfl) ?_
          exact J22 _ (by clear H J22; first | (simp [bI, c13, c16, c18]; done) | (simp [bI, *]; done) | (simp_all [bI]; done) | (rw [decide_eq_true (Decidable.not_not.mp c13)]; rfl) | (rw [decide_eq_true (Decidable.not_not.mp c16)]; rfl) | (rw [decide_eq_true (Decidable.not_not.mp c18)]; rfl) | (exfalso; simp_all; done))
        · rw [if_neg c18] at H
          refine zw_run 1 (pc' := 46) (loc' := [some (.ref 136), some (.int a), some (.int c)]) (stk' := [.ref 136]) (fun _ _ _ => rfl) ?_
          refine zw_mget (v := .ref 153) rfl rfl ?_
          refine zw_run 1 (pc' := 50) (loc' := [some (.ref 136), some (.int a), some (.int c)]) (stk' := [.int c, .ref 153]) (fun _ _ _ => rfl) ?_
          obtain ⟨b19, H⟩ := H
          refine zw_iald (j := 153) rfl (by decide) (by decide) rfl b19 ?_
          refine zw_run 2 (pc' := 53) (loc' := [some (.ref 136), some (.int a), some (.int c)]) (stk' := [.int ((zv Z 153 c) - (zv Z 153 c) / 3 * 3)]) (fun _ _ _ => rfl) ?_
          refine zw_br (c := ((zv Z 153 c) - (zv Z 153 c) / 3 * 3) = 0) (t1 := 60) (t2 := 56) (loc' := [some (.ref 136), some (.int a), some (.int c)]) (stk' := []) (fun _ _ _ => rfl) (fun c20 => ?_) (fun c20 => ?_)
          · rw [if_pos c20] at H
            refine zw_run 1 (pc' := 61) (loc' := [some (.ref 136), some (.int a), some (.int c)]) (stk' := [.int 0]) (fun _ _ _ => rfl) ?_
            exact J22 _ (by clear H J22; first | (simp [bI, c13, c16, c18, c20]; done) | (simp [bI, *]; done) | (simp_all [bI]; done) | (rw [decide_eq_true (Decidable.not_not.mp c13)]; rfl) | (rw [decide_eq_true (Decidable.not_not.mp c16)]; rfl) | (rw [decide_eq_true (Decidable.not_not.mp c18)]; rfl) | (rw [decide_eq_true (Decidable.not_not.mp c20)]; rfl) | (exfalso; simp_all; done))
          · rw [if_neg c20] at H
            refine zw_run 2 (pc' := 61) (loc' := [some (.ref 136), some (.int a), some (.int c)]) (stk' := [.int 1]) (fun _ _ _ => rfl) ?_
            exact J22 _ (by clear H J22; first | (simp [bI, c13, c16, c18, c20]; done) | (simp [bI, *]; done) | (simp_all [bI]; done) | (rw [decide_eq_true (Decidable.not_not.mp c13)]; rfl) | (rw [decide_eq_true (Decidable.not_not.mp c16)]; rfl) | (rw [decide_eq_true (Decidable.not_not.mp c18)]; rfl) | (rw [decide_eq_true (Decidable.not_not.mp c20)]; rfl) | (exfalso; simp_all; done))
    · rw [if_neg c13] at H
      refine zw_run 1 (pc' := 61) (loc' := [some (.ref 136), some (.int a), some (.int c)]) (stk' := [.int 0]) (fun _ _ _ => rfl) ?_
      exact J22 _ (by clear H J22; first | (simp [bI, c13]; done) | (simp [bI, *]; done) | (simp_all [bI]; done) | (rw [decide_eq_true (Decidable.not_not.mp c13)]; rfl) | (exfalso; simp_all; done))
theorem c_131 {fm : Value} {sx : Nat × (Nat → Int32)} {d : Nat} {Z : zr_Z} (hu : fm = .null ∨ ∃ q, fm = .ref q) (a : Int32) (c : Int32) {x : Bool} (hx : o_131 Z a c = some x) : zl fm sx (d + 2) 131 [.ref 136, .int a, .int c] Z (fun r Z' => r = some (.int (bI x)) ∧ Z' = Z) :=
  zl_of (nL := 3) (loc0 := [some (.ref 136), some (.int a), some (.int c)]) rfl rfl rfl (t_131 hu a c ⟨x, hx, rfl, rfl⟩)
/-- MarkInlinesModel.opener, its loop at 4 -/
def g_133_4 : Nat → zr_Z → Int32 → Int32 → Int32 → Option Int32
  | 0, _, _, _, _ => none
  | n + 1, Z, c, fi, x3 => (if x3 < fi then some (-1) else (if inq 157 x3 then (if ¬ (zv Z 157 x3) = 0 then g_133_4 n Z c fi (x3 + (-1)) else (if inq 155 x3 then (if (zv Z 155 x3) = 0 then g_133_4 n Z c fi (x3 + (-1)) else (if inq 154 x3 then (if (zv Z 154 x3) ≤ 0 then g_133_4 n Z c fi (x3 + (-1)) else (if inq 152 x3 then (if inq 144 (zv Z 152 x3) then (if inq 152 c then (if inq 144 (zv Z 152 c) then (if ¬ (zv Z 144 (zv Z 152 x3)) = (zv Z 144 (zv Z 152 c)) then g_133_4 n Z c fi (x3 + (-1)) else (Option.bind (o_131 Z x3 c) fun u13 => (if u13 = true then g_133_4 n Z c fi (x3 + (-1)) else some x3))) else none) else none) else none) else none)) else none)) else none)) else none))
set_option maxRecDepth 100000 in
set_option maxHeartbeats 4000000 in
theorem l_133_4 {fm : Value} {sx : Nat × (Nat → Int32)} {d : Nat} {Q : Option Value → zr_Z → Prop} (hu : fm = .null ∨ ∃ q, fm = .ref q) (c : Int32) (fi : Int32) : ∀ (n : Nat) (Z : zr_Z) (x3 : Int32), oq (g_133_4 n Z c fi x3) (fun x => Q (some (.int x)) Z) → zw fm sx (d + 2) 133 4 [some (.ref 136), some (.int c), some (.int fi), some (.int x3)] [] Z Q := by
  intro n
  induction n with
  | zero => intro Z x3 H; exact absurd H oq_none
  | succ n ih =>
    intro Z x3 H
    unfold g_133_4 at H
    refine zw_run 2 (pc' := 6) (loc' := [some (.ref 136), some (.int c), some (.int fi), some (.int x3)]) (stk' := [.int fi, .int x3]) (fun _ _ _ => rfl) ?_
    refine zw_br (c := x3 < fi) (t1 := 78) (t2 := 9) (loc' := [some (.ref 136), some (.int c), some (.int fi), some (.int x3)]) (stk' := []) (fun _ _ _ => rfl) (fun c1 => ?_) (fun c1 => ?_)
    · rw [if_pos c1] at H
      refine zw_run 1 (pc' := 79) (loc' := [some (.ref 136), some (.int c), some (.int fi), some (.int x3)]) (stk' := [.int (-1)]) (fun _ _ _ => rfl) ?_
      refine zw_reti (i := .nop) rfl rfl ?_
      have H := oq_some H
      exact H
    · rw [if_neg c1] at H
      refine zw_run 1 (pc' := 10) (loc' := [some (.ref 136), some (.int c), some (.int fi), some (.int x3)]) (stk' := [.ref 136]) (fun _ _ _ => rfl) ?_
      refine zw_mget (v := .ref 157) rfl rfl ?_
      refine zw_run 1 (pc' := 14) (loc' := [some (.ref 136), some (.int c), some (.int fi), some (.int x3)]) (stk' := [.int x3, .ref 157]) (fun _ _ _ => rfl) ?_
      obtain ⟨b2, H⟩ := oq_ob H
      refine zw_bald (j := 157) rfl (by decide) (by decide) rfl b2 ?_
      refine zw_br (c := ¬ (zv Z 157 x3) = 0) (t1 := 72) (t2 := 18) (loc' := [some (.ref 136), some (.int c), some (.int fi), some (.int x3)]) (stk' := []) (fun _ _ _ => rfl) (fun c3 => ?_) (fun c3 => ?_)
      · rw [if_pos c3] at H
        refine zw_run 2 (pc' := 4) (loc' := [some (.ref 136), some (.int c), some (.int fi), some (.int (x3 + (-1)))]) (stk' := []) (fun _ _ _ => rfl) ?_
        exact ih Z (x3 + (-1)) H
      · rw [if_neg c3] at H
        refine zw_run 1 (pc' := 19) (loc' := [some (.ref 136), some (.int c), some (.int fi), some (.int x3)]) (stk' := [.ref 136]) (fun _ _ _ => rfl) ?_
        refine zw_mget (v := .ref 155) rfl rfl ?_
        refine zw_run 1 (pc' := 23) (loc' := [some (.ref 136), some (.int c), some (.int fi), some (.int x3)]) (stk' := [.int x3, .ref 155]) (fun _ _ _ => rfl) ?_
        obtain ⟨b4, H⟩ := oq_ob H
        refine zw_bald (j := 155) rfl (by decide) (by decide) rfl b4 ?_
        refine zw_br (c := (zv Z 155 x3) = 0) (t1 := 72) (t2 := 27) (loc' := [some (.ref 136), some (.int c), some (.int fi), some (.int x3)]) (stk' := []) (fun _ _ _ => rfl) (fun c5 => ?_) (fun c5 => ?_)
        · rw [if_pos c5] at H
          refine zw_run 2 (pc' := 4) (loc' := [some (.ref 136), some (.int c), some (.int fi), some (.int (x3 + (-1)))]) (stk' := []) (fun _ _ _ => rfl) ?_
          exact ih Z (x3 + (-1)) H
        · rw [if_neg c5] at H
          refine zw_run 1 (pc' := 28) (loc' := [some (.ref 136), some (.int c), some (.int fi), some (.int x3)]) (stk' := [.ref 136]) (fun _ _ _ => rfl) ?_
          refine zw_mget (v := .ref 154) rfl rfl ?_
          refine zw_run 1 (pc' := 32) (loc' := [some (.ref 136), some (.int c), some (.int fi), some (.int x3)]) (stk' := [.int x3, .ref 154]) (fun _ _ _ => rfl) ?_
          obtain ⟨b6, H⟩ := oq_ob H
          refine zw_iald (j := 154) rfl (by decide) (by decide) rfl b6 ?_
          refine zw_br (c := (zv Z 154 x3) ≤ 0) (t1 := 72) (t2 := 36) (loc' := [some (.ref 136), some (.int c), some (.int fi), some (.int x3)]) (stk' := []) (fun _ _ _ => rfl) (fun c7 => ?_) (fun c7 => ?_)
          · rw [if_pos c7] at H
            refine zw_run 2 (pc' := 4) (loc' := [some (.ref 136), some (.int c), some (.int fi), some (.int (x3 + (-1)))]) (stk' := []) (fun _ _ _ => rfl) ?_
            exact ih Z (x3 + (-1)) H
          · rw [if_neg c7] at H
            refine zw_run 1 (pc' := 37) (loc' := [some (.ref 136), some (.int c), some (.int fi), some (.int x3)]) (stk' := [.ref 136]) (fun _ _ _ => rfl) ?_
            refine zw_mget (v := .ref 144) rfl rfl ?_
            refine zw_run 1 (pc' := 41) (loc' := [some (.ref 136), some (.int c), some (.int fi), some (.int x3)]) (stk' := [.ref 136, .ref 144]) (fun _ _ _ => rfl) ?_
            refine zw_mget (v := .ref 152) rfl rfl ?_
            refine zw_run 1 (pc' := 45) (loc' := [some (.ref 136), some (.int c), some (.int fi), some (.int x3)]) (stk' := [.int x3, .ref 152, .ref 144]) (fun _ _ _ => rfl) ?_
            obtain ⟨b8, H⟩ := oq_ob H
            refine zw_iald (j := 152) rfl (by decide) (by decide) rfl b8 ?_
            obtain ⟨b9, H⟩ := oq_ob H
            refine zw_iald (j := 144) rfl (by decide) (by decide) rfl b9 ?_
            refine zw_run 1 (pc' := 48) (loc' := [some (.ref 136), some (.int c), some (.int fi), some (.int x3)]) (stk' := [.ref 136, .int (zv Z 144 (zv Z 152 x3))]) (fun _ _ _ => rfl) ?_
            refine zw_mget (v := .ref 144) rfl rfl ?_
            refine zw_run 1 (pc' := 52) (loc' := [some (.ref 136), some (.int c), some (.int fi), some (.int x3)]) (stk' := [.ref 136, .ref 144, .int (zv Z 144 (zv Z 152 x3))]) (fun _ _ _ => rfl) ?_
            refine zw_mget (v := .ref 152) rfl rfl ?_
            refine zw_run 1 (pc' := 56) (loc' := [some (.ref 136), some (.int c), some (.int fi), some (.int x3)]) (stk' := [.int c, .ref 152, .ref 144, .int (zv Z 144 (zv Z 152 x3))]) (fun _ _ _ => rfl) ?_
            obtain ⟨b10, H⟩ := oq_ob H
            refine zw_iald (j := 152) rfl (by decide) (by decide) rfl b10 ?_
            obtain ⟨b11, H⟩ := oq_ob H
            refine zw_iald (j := 144) rfl (by decide) (by decide) rfl b11 ?_
            refine zw_br (c := ¬ (zv Z 144 (zv Z 152 x3)) = (zv Z 144 (zv Z 152 c))) (t1 := 72) (t2 := 61) (loc' := [some (.ref 136), some (.int c), some (.int fi), some (.int x3)]) (stk' := []) (fun _ _ _ => rfl) (fun c12 => ?_) (fun c12 => ?_)
            · rw [if_pos c12] at H
              refine zw_run 2 (pc' := 4) (loc' := [some (.ref 136), some (.int c), some (.int fi), some (.int (x3 + (-1)))]) (stk' := []) (fun _ _ _ => rfl) ?_
              exact ih Z (x3 + (-1)) H
            · rw [if_neg c12] at H
              refine zw_run 3 (pc' := 64) (loc' := [some (.ref 136), some (.int c), some (.int fi), some (.int x3)]) (stk' := [.int c, .int x3, .ref 136]) (fun _ _ _ => rfl) ?_
              obtain ⟨u13, hu13, H⟩ := oq_bind H
              refine zw_callf (As := [.ref 136, .int x3, .int c]) (rest := []) (c_131 hu x3 c hu13 (d := d + 0)) rfl rfl rfl rfl ?_
              show zw fm sx (d + 2) 133 67 [some (.ref 136), some (.int c), some (.int fi), some (.int x3)] [.int (bI u13)] Z Q
              refine zw_b1 (b := u13) (t1 := 72) (t2 := 70) (loc' := [some (.ref 136), some (.int c), some (.int fi), some (.int x3)]) (stk' := []) (fun _ _ _ => rfl) (fun c14 => ?_) (fun c14 => ?_)
              · rw [if_pos c14] at H
                refine zw_run 2 (pc' := 4) (loc' := [some (.ref 136), some (.int c), some (.int fi), some (.int (x3 + (-1)))]) (stk' := []) (fun _ _ _ => rfl) ?_
                exact ih Z (x3 + (-1)) H
              · rw [if_neg c14] at H
                refine zw_run 1 (pc' := 71) (loc' := [some (.ref 136), some (.int c), some (.int fi), some (.int x3)]) (stk' := [.int x3]) (fun _ _ _ => rfl) ?_
                refine zw_reti (i := .nop) rfl rfl ?_
                have H := oq_some H
                exact H
/-- MarkInlinesModel.opener -/
def o_133 (Z : zr_Z) (c : Int32) (fi : Int32) : Option Int32 := g_133_4 oF Z c fi (c - 1)
set_option maxRecDepth 100000 in
set_option maxHeartbeats 4000000 in
theorem t_133 {fm : Value} {sx : Nat × (Nat → Int32)} {d : Nat} {Z : zr_Z} {Q : Option Value → zr_Z → Prop} (hu : fm = .null ∨ ∃ q, fm = .ref q) (c : Int32) (fi : Int32) (H : oq (o_133 Z c fi) (fun x => Q (some (.int x)) Z)) : zw fm sx (d + 2) 133 0 [some (.ref 136), some (.int c), some (.int fi), none] [] Z Q := by
  unfold o_133 at H
  refine zw_run 4 (pc' := 4) (loc' := [some (.ref 136), some (.int c), some (.int fi), some (.int (c - 1))]) (stk' := []) (fun _ _ _ => rfl) ?_
  exact l_133_4 hu c fi _ Z (c - 1) H
theorem c_133 {fm : Value} {sx : Nat × (Nat → Int32)} {d : Nat} {Z : zr_Z} (hu : fm = .null ∨ ∃ q, fm = .ref q) (c : Int32) (fi : Int32) {x : Int32} (hx : o_133 Z c fi = some x) : zl fm sx (d + 3) 133 [.ref 136, .int c, .int fi] Z (fun r Z' => r = some (.int x) ∧ Z' = Z) :=
  zl_of (nL := 4) (loc0 := [some (.ref 136), some (.int c), some (.int fi), none]) rfl rfl rfl (t_133 hu c fi ⟨x, hx, rfl, rfl⟩)
/-- MarkInlinesModel.pair, its loop at 208 -/
def g_134_208 : Nat → zr_Z → Int32 → Int32 → Option zr_Z
  | 0, _, _, _ => none
  | n + 1, Z, fi, x2 => (if (zf Z 28) ≤ x2 then some Z else (if inq 157 x2 then g_134_208 n (zar Z 157 x2 1) fi (x2 + 1) else none))
set_option maxRecDepth 100000 in
set_option maxHeartbeats 4000000 in
theorem l_134_208 {fm : Value} {sx : Nat × (Nat → Int32)} {d : Nat} {Q : Option Value → zr_Z → Prop} (hu : fm = .null ∨ ∃ q, fm = .ref q) (fi : Int32) : ∀ (n : Nat) (Z : zr_Z) (x2 : Int32), oq (g_134_208 n Z fi x2) (fun x => Q none x) → zw fm sx (d + 3) 134 208 [some (.ref 136), none, some (.int x2), none, none, none, none] [] Z Q := by
  intro n
  induction n with
  | zero => intro Z x2 H; exact absurd H oq_none
  | succ n ih =>
    intro Z x2 H
    unfold g_134_208 at H
    refine zw_run 2 (pc' := 210) (loc' := [some (.ref 136), none, some (.int x2), none, none, none, none]) (stk' := [.ref 136, .int x2]) (fun _ _ _ => rfl) ?_
    refine zw_mget (v := .int (zf Z 28)) rfl rfl ?_
    refine zw_br (c := (zf Z 28) ≤ x2) (t1 := 229) (t2 := 216) (loc' := [some (.ref 136), none, some (.int x2), none, none, none, none]) (stk' := []) (fun _ _ _ => rfl) (fun c1 => ?_) (fun c1 => ?_)
    · rw [if_pos c1] at H
      refine zw_retv rfl rfl ?_
      have H := oq_some H
      exact H
    · rw [if_neg c1] at H
      refine zw_run 1 (pc' := 217) (loc' := [some (.ref 136), none, some (.int x2), none, none, none, none]) (stk' := [.ref 136]) (fun _ _ _ => rfl) ?_
      refine zw_mget (v := .ref 157) rfl rfl ?_
      refine zw_run 2 (pc' := 222) (loc' := [some (.ref 136), none, some (.int x2), none, none, none, none]) (stk' := [.int 1, .int x2, .ref 157]) (fun _ _ _ => rfl) ?_
      obtain ⟨b2, H⟩ := oq_ob H
      refine zw_bast (j := 157) rfl (by decide) (by decide) rfl (Or.inr rfl) b2 ?_
      show zw fm sx (d + 3) 134 223 [some (.ref 136), none, some (.int x2), none, none, none, none] [] (zar Z 157 x2 1) Q
      refine zw_run 2 (pc' := 208) (loc' := [some (.ref 136), none, some (.int (x2 + 1)), none, none, none, none]) (stk' := []) (fun _ _ _ => rfl) ?_
      exact ih (zar Z 157 x2 1) (x2 + 1) H
/-- MarkInlinesModel.pair, its loop at 177 -/
def g_134_177 : Nat → zr_Z → Int32 → Int32 → Bool → Int32 → (zr_Z → Int32 → Bool → Option zr_Z) → Option zr_Z
  | 0, _, _, _, _, _, _ => none
  | n + 1, Z, fi, x2, y3, x6, K34 => (if x2 ≤ x6 then K34 Z x2 y3 else (if inq 157 x6 then g_134_177 n (zar Z 157 x6 1) fi x2 y3 (x6 + 1) K34 else none))
set_option maxRecDepth 100000 in
set_option maxHeartbeats 4000000 in
theorem l_134_177 {fm : Value} {sx : Nat × (Nat → Int32)} {d : Nat} {Q : Option Value → zr_Z → Prop} (hu : fm = .null ∨ ∃ q, fm = .ref q) (fi : Int32) (K34 : zr_Z → Int32 → Bool → Option zr_Z) (HK34 : ∀ (Z : zr_Z) (x2 : Int32) (y3 : Bool), oq (K34 Z x2 y3) (fun x => Q none x) → zw fm sx (d + 3) 134 34 [some (.ref 136), some (.int fi), some (.int x2), some (.int (bI y3)), none, none, none] [] Z Q) : ∀ (n : Nat) (Z : zr_Z) (x2 : Int32) (y3 : Bool) (x6 : Int32), oq (g_134_177 n Z fi x2 y3 x6 K34) (fun x => Q none x) → zw fm sx (d + 3) 134 177 [some (.ref 136), some (.int fi), some (.int x2), some (.int (bI y3)), none, none, some (.int x6)] [] Z Q := by
  intro n
  induction n with
  | zero => intro Z x2 y3 x6 H; exact absurd H oq_none
  | succ n ih =>
    intro Z x2 y3 x6 H
    unfold g_134_177 at H
    refine zw_run 2 (pc' := 180) (loc' := [some (.ref 136), some (.int fi), some (.int x2), some (.int (bI y3)), none, none, some (.int x6)]) (stk' := [.int x2, .int x6]) (fun _ _ _ => rfl) ?_
    refine zw_br (c := x2 ≤ x6) (t1 := 197) (t2 := 183) (loc' := [some (.ref 136), some (.int fi), some (.int x2), some (.int (bI y3)), none, none, some (.int x6)]) (stk' := []) (fun _ _ _ => rfl) (fun c1 => ?_) (fun c1 => ?_)
    · rw [if_pos c1] at H
      refine zw_run 1 (pc' := 34) (loc' := [some (.ref 136), some (.int fi), some (.int x2), some (.int (bI y3)), none, none, some (.int x6)]) (stk' := []) (fun _ _ _ => rfl) ?_
      refine zw_fgt [true, true, true, true, false, false, false] rfl ?_
      exact HK34 Z x2 y3 H
    · rw [if_neg c1] at H
      refine zw_run 1 (pc' := 184) (loc' := [some (.ref 136), some (.int fi), some (.int x2), some (.int (bI y3)), none, none, some (.int x6)]) (stk' := [.ref 136]) (fun _ _ _ => rfl) ?_
      refine zw_mget (v := .ref 157) rfl rfl ?_
      refine zw_run 2 (pc' := 190) (loc' := [some (.ref 136), some (.int fi), some (.int x2), some (.int (bI y3)), none, none, some (.int x6)]) (stk' := [.int 1, .int x6, .ref 157]) (fun _ _ _ => rfl) ?_
      obtain ⟨b2, H⟩ := oq_ob H
      refine zw_bast (j := 157) rfl (by decide) (by decide) rfl (Or.inr rfl) b2 ?_
      show zw fm sx (d + 3) 134 191 [some (.ref 136), some (.int fi), some (.int x2), some (.int (bI y3)), none, none, some (.int x6)] [] (zar Z 157 x6 1) Q
      refine zw_run 2 (pc' := 177) (loc' := [some (.ref 136), some (.int fi), some (.int x2), some (.int (bI y3)), none, none, some (.int (x6 + 1))]) (stk' := []) (fun _ _ _ => rfl) ?_
      exact ih (zar Z 157 x6 1) x2 y3 (x6 + 1) H
/-- MarkInlinesModel.pair, its loop at 34 -/
def g_134_34 : Nat → zr_Z → Int32 → Int32 → Bool → (zr_Z → Int32 → Option zr_Z) → Option zr_Z
  | 0, _, _, _, _, _ => none
  | n + 1, Z, fi, x2, y3, K2 => (if y3 = true then (if inq 154 x2 then (if (zv Z 154 x2) ≤ 0 then K2 Z (x2 + 1) else (Option.bind (o_133 Z x2 fi) fun u4 => (olet ((!(decide (u4 = (-1)))) : Bool) fun y8 => (if y8 = true then (if inq 154 u4 then (if (if (zv Z 154 u4) ≤ 1 then True else (inq 154 x2 ∧ (if (zv Z 154 x2) ≤ 1 then True else True))) then (olet ((if (zv Z 154 u4) ≤ 1 then 1 else (if (zv Z 154 x2) ≤ 1 then 1 else 2 : Int32) : Int32) : Int32) fun x16 => (if inq 154 u4 then (if inq 154 u4 then (if inq 154 x2 then (if inq 154 x2 then (Option.bind (o_125 (zar (zar Z 154 u4 ((zv Z 154 u4) - x16)) 154 x2 ((zv (zar Z 154 u4 ((zv Z 154 u4) - x16)) 154 x2) - x16)) (if ¬ x16 = 2 then 4 else 5 : Int32) 0) fun u24 => (if inq 152 u4 then (Option.bind (o_126 u24.2 u24.1 (zv u24.2 152 u4)) fun u26 => (Option.bind (o_125 u26 12 0) fun u27 => (if inq 152 x2 then (if inq 151 (zv u27.2 152 x2) then (Option.bind (o_126 u27.2 u27.1 (zv u27.2 151 (zv u27.2 152 x2))) fun u30 => g_134_177 oF u30 fi x2 y8 (u4 + 1) (fun Z x2 y3 => g_134_34 n Z fi x2 y3 K2)) else none) else none))) else none)) else none) else none) else none) else none)) else none) else none) else g_134_34 n Z fi x2 y8 K2)))) else none) else K2 Z (x2 + 1))
set_option maxRecDepth 100000 in
set_option maxHeartbeats 4000000 in
theorem l_134_34 {fm : Value} {sx : Nat × (Nat → Int32)} {d : Nat} {Q : Option Value → zr_Z → Prop} (hu : fm = .null ∨ ∃ q, fm = .ref q) (fi : Int32) (K2 : zr_Z → Int32 → Option zr_Z) (HK2 : ∀ (Z : zr_Z) (x2 : Int32), oq (K2 Z x2) (fun x => Q none x) → zw fm sx (d + 3) 134 2 [some (.ref 136), some (.int fi), some (.int x2), none, none, none, none] [] Z Q) : ∀ (n : Nat) (Z : zr_Z) (x2 : Int32) (y3 : Bool), oq (g_134_34 n Z fi x2 y3 K2) (fun x => Q none x) → zw fm sx (d + 3) 134 34 [some (.ref 136), some (.int fi), some (.int x2), some (.int (bI y3)), none, none, none] [] Z Q := by
  intro n
  induction n with
  | zero => intro Z x2 y3 H; exact absurd H oq_none
  | succ n ih =>
    intro Z x2 y3 H
    unfold g_134_34 at H
    refine zw_run 1 (pc' := 35) (loc' := [some (.ref 136), some (.int fi), some (.int x2), some (.int (bI y3)), none, none, none]) (stk' := [.int (bI y3)]) (fun _ _ _ => rfl) ?_
    refine zw_b0 (b := y3) (t1 := 38) (t2 := 200) (loc' := [some (.ref 136), some (.int fi), some (.int x2), some (.int (bI y3)), none, none, none]) (stk' := []) (fun _ _ _ => rfl) (fun c1 => ?_) (fun c1 => ?_)
    · rw [if_pos c1] at H
      refine zw_run 1 (pc' := 39) (loc' := [some (.ref 136), some (.int fi), some (.int x2), some (.int (bI y3)), none, none, none]) (stk' := [.ref 136]) (fun _ _ _ => rfl) ?_
      refine zw_mget (v := .ref 154) rfl rfl ?_
      refine zw_run 1 (pc' := 43) (loc' := [some (.ref 136), some (.int fi), some (.int x2), some (.int (bI y3)), none, none, none]) (stk' := [.int x2, .ref 154]) (fun _ _ _ => rfl) ?_
      obtain ⟨b2, H⟩ := oq_ob H
      refine zw_iald (j := 154) rfl (by decide) (by decide) rfl b2 ?_
      refine zw_br (c := (zv Z 154 x2) ≤ 0) (t1 := 200) (t2 := 47) (loc' := [some (.ref 136), some (.int fi), some (.int x2), some (.int (bI y3)), none, none, none]) (stk' := []) (fun _ _ _ => rfl) (fun c3 => ?_) (fun c3 => ?_)
      · rw [if_pos c3] at H
        refine zw_run 2 (pc' := 2) (loc' := [some (.ref 136), some (.int fi), some (.int (x2 + 1)), some (.int (bI y3)), none, none, none]) (stk' := []) (fun _ _ _ => rfl) ?_
        refine zw_fgt [true, true, true, false, false, false, false] rfl ?_
        exact HK2 Z (x2 + 1) H
      · rw [if_neg c3] at H
        refine zw_run 3 (pc' := 50) (loc' := [some (.ref 136), some (.int fi), some (.int x2), some (.int (bI y3)), none, none, none]) (stk' := [.int fi, .int x2, .ref 136]) (fun _ _ _ => rfl) ?_
        obtain ⟨u4, hu4, H⟩ := oq_bind H
        refine zw_callf (As := [.ref 136, .int x2, .int fi]) (rest := []) (c_133 hu x2 fi hu4 (d := d + 0)) rfl rfl rfl rfl ?_
        show zw fm sx (d + 3) 134 53 [some (.ref 136), some (.int fi), some (.int x2), some (.int (bI y3)), none, none, none] [.int u4] Z Q
        refine zw_run 3 (pc' := 58) (loc' := [some (.ref 136), some (.int fi), some (.int x2), some (.int (bI y3)), some (.int u4), none, none]) (stk' := [.int (-1), .int u4]) (fun _ _ _ => rfl) ?_
        have J7 : ∀ (v6 : Int32), v6 = (bI (!(decide (u4 = (-1))))) → zw fm sx (d + 3) 134 66 [some (.ref 136), some (.int fi), some (.int x2), some (.int (bI y3)), some (.int u4), none, none] [.int v6] Z Q := by
          intro v6 ev6
          subst ev6
          refine zw_run 1 (pc' := 67) (loc' := [some (.ref 136), some (.int fi), some (.int x2), some (.int (bI (!(decide (u4 = (-1)))))), some (.int u4), none, none]) (stk' := []) (fun _ _ _ => rfl) ?_
          obtain ⟨y8, hy8⟩ : ∃ w : Bool, w = (!(decide (u4 = (-1)))) := ⟨_, rfl⟩
          rw [← hy8]
          have H := oq_let H y8 hy8
          refine zw_run 1 (pc' := 68) (loc' := [some (.ref 136), some (.int fi), some (.int x2), some (.int (bI y8)), some (.int u4), none, none]) (stk' := [.int (bI y8)]) (fun _ _ _ => rfl) ?_
          refine zw_b0 (b := y8) (t1 := 71) (t2 := 197) (loc' := [some (.ref 136), some (.int fi), some (.int x2), some (.int (bI y8)), some (.int u4), none, none]) (stk' := []) (fun _ _ _ => rfl) (fun c9 => ?_) (fun c9 => ?_)
          · rw [if_pos c9] at H
            refine zw_run 1 (pc' := 72) (loc' := [some (.ref 136), some (.int fi), some (.int x2), some (.int (bI y8)), some (.int u4), none, none]) (stk' := [.ref 136]) (fun _ _ _ => rfl) ?_
            refine zw_mget (v := .ref 154) rfl rfl ?_
            refine zw_run 1 (pc' := 77) (loc' := [some (.ref 136), some (.int fi), some (.int x2), some (.int (bI y8)), some (.int u4), none, none]) (stk' := [.int u4, .ref 154]) (fun _ _ _ => rfl) ?_
            obtain ⟨b10, H⟩ := oq_ob H
            refine zw_iald (j := 154) rfl (by decide) (by decide) rfl b10 ?_
            refine zw_run 1 (pc' := 79) (loc' := [some (.ref 136), some (.int fi), some (.int x2), some (.int (bI y8)), some (.int u4), none, none]) (stk' := [.int 1, .int (zv Z 154 u4)]) (fun _ _ _ => rfl) ?_
            obtain ⟨HR, H⟩ := oq_ob H
            have J15 : ∀ (v14 : Int32), v14 = (if (zv Z 154 u4) ≤ 1 then 1 else (if (zv Z 154 x2) ≤ 1 then 1 else 2 : Int32) : Int32) → zw fm sx (d + 3) 134 97 [some (.ref 136), some (.int fi), some (.int x2), some (.int (bI y8)), some (.int u4), none, none] [.int v14] Z Q := by
              intro v14 ev14
              subst ev14
              refine zw_run 1 (pc' := 99) (loc' := [some (.ref 136), some (.int fi), some (.int x2), some (.int (bI y8)), some (.int u4), some (.int (if (zv Z 154 u4) ≤ 1 then 1 else (if (zv Z 154 x2) ≤ 1 then 1 else 2 : Int32) : Int32)), none]) (stk' := []) (fun _ _ _ => rfl) ?_
              obtain ⟨x16, hx16⟩ : ∃ w : Int32, w = (if (zv Z 154 u4) ≤ 1 then 1 else (if (zv Z 154 x2) ≤ 1 then 1 else 2 : Int32) : Int32) := ⟨_, rfl⟩
              rw [← hx16]
              have H := oq_let H x16 hx16
              refine zw_run 1 (pc' := 100) (loc' := [some (.ref 136), some (.int fi), some (.int x2), some (.int (bI y8)), some (.int u4), some (.int x16), none]) (stk' := [.ref 136]) (fun _ _ _ => rfl) ?_
              refine zw_mget (v := .ref 154) rfl rfl ?_
              refine zw_run 2 (pc' := 106) (loc' := [some (.ref 136), some (.int fi), some (.int x2), some (.int (bI y8)), some (.int u4), some (.int x16), none]) (stk' := [.int u4, .ref 154, .int u4, .ref 154]) (fun _ _ _ => rfl) ?_
              obtain ⟨b17, H⟩ := oq_ob H
              refine zw_iald (j := 154) rfl (by decide) (by decide) rfl b17 ?_
              refine zw_run 2 (pc' := 110) (loc' := [some (.ref 136), some (.int fi), some (.int x2), some (.int (bI y8)), some (.int u4), some (.int x16), none]) (stk' := [.int ((zv Z 154 u4) - x16), .int u4, .ref 154]) (fun _ _ _ => rfl) ?_
              obtain ⟨b18, H⟩ := oq_ob H
              refine zw_iast (j := 154) rfl (by decide) (by decide) rfl b18 ?_
              show zw fm sx (d + 3) 134 111 [some (.ref 136), some (.int fi), some (.int x2), some (.int (bI y8)), some (.int u4), some (.int x16), none] [] (zar Z 154 u4 ((zv Z 154 u4) - x16)) Q
              refine zw_run 1 (pc' := 112) (loc' := [some (.ref 136), some (.int fi), some (.int x2), some (.int (bI y8)), some (.int u4), some (.int x16), none]) (stk' := [.ref 136]) (fun _ _ _ => rfl) ?_
              refine zw_mget (v := .ref 154) rfl rfl ?_
              refine zw_run 2 (pc' := 117) (loc' := [some (.ref 136), some (.int fi), some (.int x2), some (.int (bI y8)), some (.int u4), some (.int x16), none]) (stk' := [.int x2, .ref 154, .int x2, .ref 154]) (fun _ _ _ => rfl) ?_
              obtain ⟨b19, H⟩ := oq_ob H
              refine zw_iald (j := 154) rfl (by decide) (by decide) rfl b19 ?_
              refine zw_run 2 (pc' := 121) (loc' := [some (.ref 136), some (.int fi), some (.int x2), some (.int (bI y8)), some (.int u4), some (.int x16), none]) (stk' := [.int ((zv (zar Z 154 u4 ((zv Z 154 u4) - x16)) 154 x2) - x16), .int x2, .ref 154]) (fun _ _ _ => rfl) ?_
              obtain ⟨b20, H⟩ := oq_ob H
              refine zw_iast (j := 154) rfl (by decide) (by decide) rfl b20 ?_
              show zw fm sx (d + 3) 134 122 [some (.ref 136), some (.int fi), some (.int x2), some (.int (bI y8)), some (.int u4), some (.int x16), none] [] (zar (zar Z 154 u4 ((zv Z 154 u4) - x16)) 154 x2 ((zv (zar Z 154 u4 ((zv Z 154 u4) - x16)) 154 x2) - x16)) Q
              refine zw_run 4 (pc' := 127) (loc' := [some (.ref 136), some (.int fi), some (.int x2), some (.int (bI y8)), some (.int u4), some (.int x16), none]) (stk' := [.int 2, .int x16, .ref 136, .ref 136]) (fun _ _ _ => rfl) ?_
              have J23 : ∀ (v22 : Int32), v22 = (if ¬ x16 = 2 then 4 else 5 : Int32) → zw fm sx (d + 3) 134 135 [some (.ref 136), some (.int fi), some (.int x2), some (.int (bI y8)), some (.int u4), some (.int x16), none] [.int v22, .ref 136, .ref 136] (zar (zar Z 154 u4 ((zv Z 154 u4) - x16)) 154 x2 ((zv (zar Z 154 u4 ((zv Z 154 u4) - x16)) 154 x2) - x16)) Q := by
                intro v22 ev22
                subst ev22
                refine zw_run 1 (pc' := 136) (loc' := [some (.ref 136), some (.int fi), some (.int x2), some (.int (bI y8)), some (.int u4), some (.int x16), none]) (stk' := [.int 0, .int (if ¬ x16 = 2 then 4 else 5 : Int32), .ref 136, .ref 136]) (fun _ _ _ => rfl) ?_
                obtain ⟨u24, hu24, H⟩ := oq_bind H
                refine zw_callf (As := [.ref 136, .int (if ¬ x16 = 2 then 4 else 5 : Int32), .int 0]) (rest := [.ref 136]) (c_125 hu (if ¬ x16 = 2 then 4 else 5 : Int32) 0 hu24 (d := d + 2)) rfl rfl rfl rfl ?_
                show zw fm sx (d + 3) 134 139 [some (.ref 136), some (.int fi), some (.int x2), some (.int (bI y8)), some (.int u4), some (.int x16), none] [.int u24.1, .ref 136] u24.2 Q
                refine zw_run 1 (pc' := 140) (loc' := [some (.ref 136), some (.int fi), some (.int x2), some (.int (bI y8)), some (.int u4), some (.int x16), none]) (stk' := [.ref 136, .int u24.1, .ref 136]) (fun _ _ _ => rfl) ?_
                refine zw_mget (v := .ref 152) rfl rfl ?_
                refine zw_run 1 (pc' := 145) (loc' := [some (.ref 136), some (.int fi), some (.int x2), some (.int (bI y8)), some (.int u4), some (.int x16), none]) (stk' := [.int u4, .ref 152, .int u24.1, .ref 136]) (fun _ _ _ => rfl) ?_
                obtain ⟨b25, H⟩ := oq_ob H
                refine zw_iald (j := 152) rfl (by decide) (by decide) rfl b25 ?_
                obtain ⟨u26, hu26, H⟩ := oq_bind H
                refine zw_callf (As := [.ref 136, .int u24.1, .int (zv u24.2 152 u4)]) (rest := []) (c_126 hu u24.1 (zv u24.2 152 u4) hu26 (d := d + 2)) rfl rfl rfl rfl ?_
                show zw fm sx (d + 3) 134 149 [some (.ref 136), some (.int fi), some (.int x2), some (.int (bI y8)), some (.int u4), some (.int x16), none] [] u26 Q
                refine zw_run 4 (pc' := 154) (loc' := [some (.ref 136), some (.int fi), some (.int x2), some (.int (bI y8)), some (.int u4), some (.int x16), none]) (stk' := [.int 0, .int 12, .ref 136, .ref 136]) (fun _ _ _ => rfl) ?_
                obtain ⟨u27, hu27, H⟩ := oq_bind H
                refine zw_callf (As := [.ref 136, .int 12, .int 0]) (rest := [.ref 136]) (c_125 hu 12 0 hu27 (d := d + 2)) rfl rfl rfl rfl ?_
                show zw fm sx (d + 3) 134 157 [some (.ref 136), some (.int fi), some (.int x2), some (.int (bI y8)), some (.int u4), some (.int x16), none] [.int u27.1, .ref 136] u27.2 Q
                refine zw_run 1 (pc' := 158) (loc' := [some (.ref 136), some (.int fi), some (.int x2), some (.int (bI y8)), some (.int u4), some (.int x16), none]) (stk' := [.ref 136, .int u27.1, .ref 136]) (fun _ _ _ => rfl) ?_
                refine zw_mget (v := .ref 151) rfl rfl ?_
                refine zw_run 1 (pc' := 162) (loc' := [some (.ref 136), some (.int fi), some (.int x2), some (.int (bI y8)), some (.int u4), some (.int x16), none]) (stk' := [.ref 136, .ref 151, .int u27.1, .ref 136]) (fun _ _ _ => rfl) ?_
                refine zw_mget (v := .ref 152) rfl rfl ?_
                refine zw_run 1 (pc' := 166) (loc' := [some (.ref 136), some (.int fi), some (.int x2), some (.int (bI y8)), some (.int u4), some (.int x16), none]) (stk' := [.int x2, .ref 152, .ref 151, .int u27.1, .ref 136]) (fun _ _ _ => rfl) ?_
                obtain ⟨b28, H⟩ := oq_ob H
                refine zw_iald (j := 152) rfl (by decide) (by decide) rfl b28 ?_
                obtain ⟨b29, H⟩ := oq_ob H
                refine zw_iald (j := 151) rfl (by decide) (by decide) rfl b29 ?_
                obtain ⟨u30, hu30, H⟩ := oq_bind H
                refine zw_callf (As := [.ref 136, .int u27.1, .int (zv u27.2 151 (zv u27.2 152 x2))]) (rest := []) (c_126 hu u27.1 (zv u27.2 151 (zv u27.2 152 x2)) hu30 (d := d + 2)) rfl rfl rfl rfl ?_
                show zw fm sx (d + 3) 134 171 [some (.ref 136), some (.int fi), some (.int x2), some (.int (bI y8)), some (.int u4), some (.int x16), none] [] u30 Q
                refine zw_run 4 (pc' := 177) (loc' := [some (.ref 136), some (.int fi), some (.int x2), some (.int (bI y8)), some (.int u4), some (.int x16), some (.int (u4 + 1))]) (stk' := []) (fun _ _ _ => rfl) ?_
                refine zw_fgt [true, true, true, true, false, false, true] rfl ?_
                exact l_134_177 hu fi _ (fun Z x2 y3 q => ih Z x2 y3 q) _ u30 x2 y8 (u4 + 1) H
              refine zw_br (c := ¬ x16 = 2) (t1 := 134) (t2 := 130) (loc' := [some (.ref 136), some (.int fi), some (.int x2), some (.int (bI y8)), some (.int u4), some (.int x16), none]) (stk' := [.ref 136, .ref 136]) (fun _ _ _ => rfl) (fun c21 => ?_) (fun c21 => ?_)
              · skip
                refine zw_run 1 (pc' := 135) (loc' := [some (.ref 136), some (.int fi), some (.int x2), some (.int (bI y8)), some (.int u4), some (.int x16), none]) (stk' := [.int 4, .ref 136, .ref 136]) (fun _ _ _ => rfl) ?_
                exact J23 _ (by first | (rw [if_pos c21]; done) | (rw [if_pos c21]; rfl) | (clear H J23; simp_all [bI]; done))
              · skip
                refine zw_run 2 (pc' := 135) (loc' := [some (.ref 136), some (.int fi), some (.int x2), some (.int (bI y8)), some (.int u4), some (.int x16), none]) (stk' := [.int 5, .ref 136, .ref 136]) (fun _ _ _ => rfl) ?_
                exact J23 _ (by first | (rw [if_neg c21]; done) | (rw [if_neg c21]; rfl) | (clear H J23; simp_all [bI]; done))
            clear H
            have H := HR
            refine zw_br (c := (zv Z 154 u4) ≤ 1) (t1 := 96) (t2 := 82) (loc' := [some (.ref 136), some (.int fi), some (.int x2), some (.int (bI y8)), some (.int u4), none, none]) (stk' := []) (fun _ _ _ => rfl) (fun c11 => ?_) (fun c11 => ?_)
            · rw [if_pos c11] at H
              refine zw_run 1 (pc' := 97) (loc' := [some (.ref 136), some (.int fi), some (.int x2), some (.int (bI y8)), some (.int u4), none, none]) (stk' := [.int 1]) (fun _ _ _ => rfl) ?_
              exact J15 _ (by first | (rw [if_pos c11]; done) | (rw [if_pos c11]; rfl) | (clear H J15; simp_all [bI]; done))
            · rw [if_neg c11] at H
              refine zw_run 1 (pc' := 83) (loc' := [some (.ref 136), some (.int fi), some (.int x2), some (.int (bI y8)), some (.int u4), none, none]) (stk' := [.ref 136]) (fun _ _ _ => rfl) ?_
              refine zw_mget (v := .ref 154) rfl rfl ?_
              refine zw_run 1 (pc' := 87) (loc' := [some (.ref 136), some (.int fi), some (.int x2), some (.int (bI y8)), some (.int u4), none, none]) (stk' := [.int x2, .ref 154]) (fun _ _ _ => rfl) ?_
              obtain ⟨b12, H⟩ := H
              refine zw_iald (j := 154) rfl (by decide) (by decide) rfl b12 ?_
              refine zw_run 1 (pc' := 89) (loc' := [some (.ref 136), some (.int fi), some (.int x2), some (.int (bI y8)), some (.int u4), none, none]) (stk' := [.int 1, .int (zv Z 154 x2)]) (fun _ _ _ => rfl) ?_
              refine zw_br (c := (zv Z 154 x2) ≤ 1) (t1 := 96) (t2 := 92) (loc' := [some (.ref 136), some (.int fi), some (.int x2), some (.int (bI y8)), some (.int u4), none, none]) (stk' := []) (fun _ _ _ => rfl) (fun c13 => ?_) (fun c13 => ?_)
              · rw [if_pos c13] at H
                refine zw_run 1 (pc' := 97) (loc' := [some (.ref 136), some (.int fi), some (.int x2), some (.int (bI y8)), some (.int u4), none, none]) (stk' := [.int 1]) (fun _ _ _ => rfl) ?_
                exact J15 _ (by first | (rw [if_neg c11, if_pos c13]; done) | (rw [if_neg c11, if_pos c13]; rfl) | (clear H J15; simp_all [bI]; done))
              · rw [if_neg c13] at H
                refine zw_run 2 (pc' := 97) (loc' := [some (.ref 136), some (.int fi), some (.int x2), some (.int (bI y8)), some (.int u4), none, none]) (stk' := [.int 2]) (fun _ _ _ => rfl) ?_
                exact J15 _ (by first | (rw [if_neg c11, if_neg c13]; done) | (rw [if_neg c11, if_neg c13]; rfl) | (clear H J15; simp_all [bI]; done))
          · rw [if_neg c9] at H
            refine zw_run 1 (pc' := 34) (loc' := [some (.ref 136), some (.int fi), some (.int x2), some (.int (bI y8)), some (.int u4), none, none]) (stk' := []) (fun _ _ _ => rfl) ?_
            refine zw_fgt [true, true, true, true, false, false, false] rfl ?_
            exact ih Z x2 y8 H
        refine zw_br (c := u4 = (-1)) (t1 := 65) (t2 := 61) (loc' := [some (.ref 136), some (.int fi), some (.int x2), some (.int (bI y3)), some (.int u4), none, none]) (stk' := []) (fun _ _ _ => rfl) (fun c5 => ?_) (fun c5 => ?_)
        · skip
          refine zw_run 1 (pc' := 66) (loc' := [some (.ref 136), some (.int fi), some (.int x2), some (.int (bI y3)), some (.int u4), none, none]) (stk' := [.int 0]) (fun _ _ _ => rfl) ?_
          exact J7 _ (by clear H J7; first | (simp [bI, c5]; done) | (simp [bI, *]; done) | (simp_all [bI]; done) | (rw [decide_eq_true (Decidable.not_not.mp c5)]; rfl) | (exfalso; simp_all; done))
        · skip
          refine zw_run 2 (pc' := 66) (loc' := [some (.ref 136), some (.int fi), some (.int x2), some (.int (bI y3)), some (.int u4), none, none]) (stk' := [.int 1]) (fun _ _ _ => rfl) ?_
          exact J7 _ (by clear H J7; first | (simp [bI, c5]; done) | (simp [bI, *]; done) | (simp_all [bI]; done) | (rw [decide_eq_true (Decidable.not_not.mp c5)]; rfl) | (exfalso; simp_all; done))
    · rw [if_neg c1] at H
      refine zw_run 2 (pc' := 2) (loc' := [some (.ref 136), some (.int fi), some (.int (x2 + 1)), some (.int (bI y3)), none, none, none]) (stk' := []) (fun _ _ _ => rfl) ?_
      refine zw_fgt [true, true, true, false, false, false, false] rfl ?_
      exact HK2 Z (x2 + 1) H
/-- MarkInlinesModel.pair, its loop at 2 -/
def g_134_2 : Nat → zr_Z → Int32 → Int32 → Option zr_Z
  | 0, _, _, _ => none
  | n + 1, Z, fi, x2 => (if (zf Z 28) ≤ x2 then g_134_208 oF Z fi fi else (if inq 157 x2 then (if (if ¬ (zv Z 157 x2) = 0 then True else (inq 156 x2 ∧ (if (zv Z 156 x2) = 0 then True else True))) then (olet (((decide ((zv Z 157 x2) = 0)) && (!(decide ((zv Z 156 x2) = 0)))) : Bool) fun y8 => g_134_34 oF Z fi x2 y8 (fun Z x2 => g_134_2 n Z fi x2)) else none) else none))
set_option maxRecDepth 100000 in
set_option maxHeartbeats 4000000 in
theorem l_134_2 {fm : Value} {sx : Nat × (Nat → Int32)} {d : Nat} {Q : Option Value → zr_Z → Prop} (hu : fm = .null ∨ ∃ q, fm = .ref q) (fi : Int32) : ∀ (n : Nat) (Z : zr_Z) (x2 : Int32), oq (g_134_2 n Z fi x2) (fun x => Q none x) → zw fm sx (d + 3) 134 2 [some (.ref 136), some (.int fi), some (.int x2), none, none, none, none] [] Z Q := by
  intro n
  induction n with
  | zero => intro Z x2 H; exact absurd H oq_none
  | succ n ih =>
    intro Z x2 H
    unfold g_134_2 at H
    refine zw_run 2 (pc' := 4) (loc' := [some (.ref 136), some (.int fi), some (.int x2), none, none, none, none]) (stk' := [.ref 136, .int x2]) (fun _ _ _ => rfl) ?_
    refine zw_mget (v := .int (zf Z 28)) rfl rfl ?_
    refine zw_br (c := (zf Z 28) ≤ x2) (t1 := 206) (t2 := 10) (loc' := [some (.ref 136), some (.int fi), some (.int x2), none, none, none, none]) (stk' := []) (fun _ _ _ => rfl) (fun c1 => ?_) (fun c1 => ?_)
    · rw [if_pos c1] at H
      refine zw_run 2 (pc' := 208) (loc' := [some (.ref 136), some (.int fi), some (.int fi), none, none, none, none]) (stk' := []) (fun _ _ _ => rfl) ?_
      refine zw_fgt [true, false, true, false, false, false, false] rfl ?_
      exact l_134_208 hu fi _ Z fi H
    · rw [if_neg c1] at H
      refine zw_run 1 (pc' := 11) (loc' := [some (.ref 136), some (.int fi), some (.int x2), none, none, none, none]) (stk' := [.ref 136]) (fun _ _ _ => rfl) ?_
      refine zw_mget (v := .ref 157) rfl rfl ?_
      refine zw_run 1 (pc' := 15) (loc' := [some (.ref 136), some (.int fi), some (.int x2), none, none, none, none]) (stk' := [.int x2, .ref 157]) (fun _ _ _ => rfl) ?_
      obtain ⟨b2, H⟩ := oq_ob H
      refine zw_bald (j := 157) rfl (by decide) (by decide) rfl b2 ?_
      obtain ⟨HR, H⟩ := oq_ob H
      have J7 : ∀ (v6 : Int32), v6 = (bI ((decide ((zv Z 157 x2) = 0)) && (!(decide ((zv Z 156 x2) = 0))))) → zw fm sx (d + 3) 134 33 [some (.ref 136), some (.int fi), some (.int x2), none, none, none, none] [.int v6] Z Q := by
        intro v6 ev6
        subst ev6
        refine zw_run 1 (pc' := 34) (loc' := [some (.ref 136), some (.int fi), some (.int x2), some (.int (bI ((decide ((zv Z 157 x2) = 0)) && (!(decide ((zv Z 156 x2) = 0)))))), none, none, none]) (stk' := []) (fun _ _ _ => rfl) ?_
        obtain ⟨y8, hy8⟩ : ∃ w : Bool, w = ((decide ((zv Z 157 x2) = 0)) && (!(decide ((zv Z 156 x2) = 0)))) := ⟨_, rfl⟩
        rw [← hy8]
        have H := oq_let H y8 hy8
        exact l_134_34 hu fi _ (fun Z x2 q => ih Z x2 q) _ Z x2 y8 H
      clear H
      have H := HR
      refine zw_br (c := ¬ (zv Z 157 x2) = 0) (t1 := 32) (t2 := 19) (loc' := [some (.ref 136), some (.int fi), some (.int x2), none, none, none, none]) (stk' := []) (fun _ _ _ => rfl) (fun c3 => ?_) (fun c3 => ?_)
      · rw [if_pos c3] at H
        refine zw_run 1 (pc' := 33) (loc' := [some (.ref 136), some (.int fi), some (.int x2), none, none, none, none]) (stk' := [.int 0]) (fun _ _ _ => rfl) ?_
        exact J7 _ (by clear H J7; first | (simp [bI, c3]; done) | (simp [bI, *]; done) | (simp_all [bI]; done) | (rw [decide_eq_true (Decidable.not_not.mp c3)]; rfl) | (exfalso; simp_all; done))
      · rw [if_neg c3] at H
        refine zw_run 1 (pc' := 20) (loc' := [some (.ref 136), some (.int fi), some (.int x2), none, none, none, none]) (stk' := [.ref 136]) (fun _ _ _ => rfl) ?_
        refine zw_mget (v := .ref 156) rfl rfl ?_
        refine zw_run 1 (pc' := 24) (loc' := [some (.ref 136), some (.int fi), some (.int x2), none, none, none, none]) (stk' := [.int x2, .ref 156]) (fun _ _ _ => rfl) ?_
        obtain ⟨b4, H⟩ := H
        refine zw_bald (j := 156) rfl (by decide) (by decide) rfl b4 ?_
        refine zw_br (c := (zv Z 156 x2) = 0) (t1 := 32) (t2 := 28) (loc' := [some (.ref 136), some (.int fi), some (.int x2), none, none, none, none]) (stk' := []) (fun _ _ _ => rfl) (fun c5 => ?_) (fun c5 => ?_)
        · rw [if_pos c5] at H
          refine zw_run 1 (pc' := 33) (loc' := [some (.ref 136), some (.int fi), some (.int x2), none, none, none, none]) (stk' := [.int 0]) (fun _ _ _ => rfl) ?_
          exact J7 _ (by clear H J7; first | (simp [bI, c3, c5]; done) | (simp [bI, *]; done) | (simp_all [bI]; done) | (rw [decide_eq_true (Decidable.not_not.mp c3)]; rfl) | (rw [decide_eq_true (Decidable.not_not.mp c5)]; rfl) | (exfalso; simp_all; done))
        · rw [if_neg c5] at H
          refine zw_run 2 (pc' := 33) (loc' := [some (.ref 136), some (.int fi), some (.int x2), none, none, none, none]) (stk' := [.int 1]) (fun _ _ _ => rfl) ?_
          exact J7 _ (by clear H J7; first | (simp [bI, c3, c5]; done) | (simp [bI, *]; done) | (simp_all [bI]; done) | (rw [decide_eq_true (Decidable.not_not.mp c3)]; rfl) | (rw [decide_eq_true (Decidable.not_not.mp c5)]; rfl) | (exfalso; simp_all; done))
/-- MarkInlinesModel.pair -/
def o_134 (Z : zr_Z) (fi : Int32) : Option zr_Z := g_134_2 oF Z fi fi
set_option maxRecDepth 100000 in
set_option maxHeartbeats 4000000 in
theorem t_134 {fm : Value} {sx : Nat × (Nat → Int32)} {d : Nat} {Z : zr_Z} {Q : Option Value → zr_Z → Prop} (hu : fm = .null ∨ ∃ q, fm = .ref q) (fi : Int32) (H : oq (o_134 Z fi) (fun x => Q none x)) : zw fm sx (d + 3) 134 0 [some (.ref 136), some (.int fi), none, none, none, none, none] [] Z Q := by
  unfold o_134 at H
  refine zw_run 2 (pc' := 2) (loc' := [some (.ref 136), some (.int fi), some (.int fi), none, none, none, none]) (stk' := []) (fun _ _ _ => rfl) ?_
  exact l_134_2 hu fi _ Z fi H
theorem c_134 {fm : Value} {sx : Nat × (Nat → Int32)} {d : Nat} {Z : zr_Z} (hu : fm = .null ∨ ∃ q, fm = .ref q) (fi : Int32) {x : zr_Z} (hx : o_134 Z fi = some x) : zl fm sx (d + 4) 134 [.ref 136, .int fi] Z (fun r Z' => r = none ∧ Z' = x) :=
  zl_of (nL := 7) (loc0 := [some (.ref 136), some (.int fi), none, none, none, none, none]) rfl rfl rfl (t_134 hu fi ⟨x, hx, rfl, rfl⟩)
/-- MarkInlinesModel.run, its loop at 8 -/
def g_137_8 : Nat → zr_Z → Int32 → Int32 → Int32 → Option (Int32 × zr_Z)
  | 0, _, _, _, _ => none
  | n + 1, Z, k, x2, x3 => (if sok Z then (if ¬ (ra Z x3) = x2 then (olet ((k_135 (ra Z (k - 1))) : Bool) fun y2 => (olet ((k_181 (ra Z (k - 1))) : Bool) fun y3 => (olet ((k_136 (k_135 (ra Z x3)) (k_181 (ra Z x3)) y2 y3) : Bool) fun y4 => (olet ((k_136 y2 y3 (k_135 (ra Z x3)) (k_181 (ra Z x3))) : Bool) fun y5 => (Option.bind (o_127 Z 10 x2) fun u6 => (if sok u6.2 then (if inq 152 (zf Z 28) then (if inq 153 (zf u6.2 28) then (if inq 154 (zf u6.2 28) then (if inq 155 (zf u6.2 28) then (if inq 156 (zf u6.2 28) then (if inq 157 (zf u6.2 28) then (olet (zar (zar (zar (zar (zar (zar u6.2 152 (zf Z 28) u6.1) 153 (zf u6.2 28) (x3 - k)) 154 (zf u6.2 28) (x3 - k)) 155 (zf u6.2 28) (bI (bif !(decide (x2 = 42)) then y4 && ((!y5) || y3) else y4))) 156 (zf u6.2 28) (bI (bif !(decide (x2 = 42)) then y5 && ((!y4) || (k_181 (ra Z x3))) else y5))) 157 (zf u6.2 28) 0 : zr_Z) fun Z25 => some (x3, zmf Z25 28 ((zf Z25 28) + 1))) else none) else none) else none) else none) else none) else none) else none)))))) else g_137_8 n Z k x2 (x3 + 1)) else none)
set_option maxRecDepth 100000 in
set_option maxHeartbeats 4000000 in
theorem l_137_8 {fm : Value} {sx : Nat × (Nat → Int32)} {d : Nat} {Q : Option Value → zr_Z → Prop} (hu : fm = .null ∨ ∃ q, fm = .ref q) (k : Int32) : ∀ (n : Nat) (Z : zr_Z) (x2 : Int32) (x3 : Int32), oq (g_137_8 n Z k x2 x3) (fun x => Q (some (.int x.1)) x.2) → zw fm sx (d + 2) 137 8 [some (.ref 136), some (.int k), some (.int x2), some (.int x3), none, none, none, none, none, none] [] Z Q := by
  intro n
  induction n with
  | zero => intro Z x2 x3 H; exact absurd H oq_none
  | succ n ih =>
    intro Z x2 x3 H
    unfold g_137_8 at H
    obtain ⟨hS, H⟩ := oq_ob H
    refine zw_run 2 (pc' := 10) (loc' := [some (.ref 136), some (.int k), some (.int x2), some (.int x3), none, none, none, none, none, none]) (stk' := [.int x3, .ref 136]) (fun _ _ _ => rfl) ?_
    refine zw_callf (As := [.ref 136, .int x3]) (rest := []) (c_183 (Z := Z) hS x3 (d := d + 1)) rfl rfl rfl rfl ?_
    show zw fm sx (d + 2) 137 13 [some (.ref 136), some (.int k), some (.int x2), some (.int x3), none, none, none, none, none, none] [.int (ra Z x3)] Z Q
    refine zw_run 1 (pc' := 14) (loc' := [some (.ref 136), some (.int k), some (.int x2), some (.int x3), none, none, none, none, none, none]) (stk' := [.int x2, .int (ra Z x3)]) (fun _ _ _ => rfl) ?_
    refine zw_br (c := ¬ (ra Z x3) = x2) (t1 := 23) (t2 := 17) (loc' := [some (.ref 136), some (.int k), some (.int x2), some (.int x3), none, none, none, none, none, none]) (stk' := []) (fun _ _ _ => rfl) (fun c1 => ?_) (fun c1 => ?_)
    · rw [if_pos c1] at H
      refine zw_run 5 (pc' := 28) (loc' := [some (.ref 136), some (.int k), some (.int x2), some (.int x3), none, none, none, none, none, none]) (stk' := [.int (k - 1), .ref 136, .ref 136]) (fun _ _ _ => rfl) ?_
      refine zw_callf (As := [.ref 136, .int (k - 1)]) (rest := [.ref 136]) (c_183 (Z := Z) hS (k - 1) (d := d + 1)) rfl rfl rfl rfl ?_
      show zw fm sx (d + 2) 137 31 [some (.ref 136), some (.int k), some (.int x2), some (.int x3), none, none, none, none, none, none] [.int (ra Z (k - 1)), .ref 136] Z Q
      refine zw_callf (As := [.ref 136, .int (ra Z (k - 1))]) (rest := []) (c_135 (ra Z (k - 1)) (d := d + 0)) rfl rfl rfl rfl ?_
      show zw fm sx (d + 2) 137 34 [some (.ref 136), some (.int k), some (.int x2), some (.int x3), none, none, none, none, none, none] [.int (bI (k_135 (ra Z (k - 1))))] Z Q
      refine zw_run 1 (pc' := 36) (loc' := [some (.ref 136), some (.int k), some (.int x2), some (.int x3), some (.int (bI (k_135 (ra Z (k - 1))))), none, none, none, none, none]) (stk' := []) (fun _ _ _ => rfl) ?_
      obtain ⟨y2, hy2⟩ : ∃ w : Bool, w = (k_135 (ra Z (k - 1))) := ⟨_, rfl⟩
      rw [← hy2]
      have H := oq_let H y2 hy2
      refine zw_run 3 (pc' := 39) (loc' := [some (.ref 136), some (.int k), some (.int x2), some (.int x3), some (.int (bI y2)), none, none, none, none, none]) (stk' := [.int x3, .ref 136, .ref 136]) (fun _ _ _ => rfl) ?_
      refine zw_callf (As := [.ref 136, .int x3]) (rest := [.ref 136]) (c_183 (Z := Z) hS x3 (d := d + 1)) rfl rfl rfl rfl ?_
      show zw fm sx (d + 2) 137 42 [some (.ref 136), some (.int k), some (.int x2), some (.int x3), some (.int (bI y2)), none, none, none, none, none] [.int (ra Z x3), .ref 136] Z Q
      refine zw_callf (As := [.ref 136, .int (ra Z x3)]) (rest := []) (c_135 (ra Z x3) (d := d + 0)) rfl rfl rfl rfl ?_
      show zw fm sx (d + 2) 137 45 [some (.ref 136), some (.int k), some (.int x2), some (.int x3), some (.int (bI y2)), none, none, none, none, none] [.int (bI (k_135 (ra Z x3)))] Z Q
      refine zw_run 5 (pc' := 51) (loc' := [some (.ref 136), some (.int k), some (.int x2), some (.int x3), some (.int (bI y2)), some (.int (bI (k_135 (ra Z x3)))), none, none, none, none]) (stk' := [.int (k - 1), .ref 136]) (fun _ _ _ => rfl) ?_
      refine zw_callf (As := [.ref 136, .int (k - 1)]) (rest := []) (c_183 (Z := Z) hS (k - 1) (d := d + 1)) rfl rfl rfl rfl ?_
      show zw fm sx (d + 2) 137 54 [some (.ref 136), some (.int k), some (.int x2), some (.int x3), some (.int (bI y2)), some (.int (bI (k_135 (ra Z x3)))), none, none, none, none] [.int (ra Z (k - 1))] Z Q
      refine zw_callf (As := [.int (ra Z (k - 1))]) (rest := []) (c_181 (ra Z (k - 1)) (d := d + 0)) rfl rfl rfl rfl ?_
      show zw fm sx (d + 2) 137 57 [some (.ref 136), some (.int k), some (.int x2), some (.int x3), some (.int (bI y2)), some (.int (bI (k_135 (ra Z x3)))), none, none, none, none] [.int (bI (k_181 (ra Z (k - 1))))] Z Q
      refine zw_run 1 (pc' := 59) (loc' := [some (.ref 136), some (.int k), some (.int x2), some (.int x3), some (.int (bI y2)), some (.int (bI (k_135 (ra Z x3)))), some (.int (bI (k_181 (ra Z (k - 1))))), none, none, none]) (stk' := []) (fun _ _ _ => rfl) ?_
      obtain ⟨y3, hy3⟩ : ∃ w : Bool, w = (k_181 (ra Z (k - 1))) := ⟨_, rfl⟩
      rw [← hy3]
      have H := oq_let H y3 hy3
      refine zw_run 2 (pc' := 61) (loc' := [some (.ref 136), some (.int k), some (.int x2), some (.int x3), some (.int (bI y2)), some (.int (bI (k_135 (ra Z x3)))), some (.int (bI y3)), none, none, none]) (stk' := [.int x3, .ref 136]) (fun _ _ _ => rfl) ?_
      refine zw_callf (As := [.ref 136, .int x3]) (rest := []) (c_183 (Z := Z) hS x3 (d := d + 1)) rfl rfl rfl rfl ?_
      show zw fm sx (d + 2) 137 64 [some (.ref 136), some (.int k), some (.int x2), some (.int x3), some (.int (bI y2)), some (.int (bI (k_135 (ra Z x3)))), some (.int (bI y3)), none, none, none] [.int (ra Z x3)] Z Q
      refine zw_callf (As := [.int (ra Z x3)]) (rest := []) (c_181 (ra Z x3) (d := d + 0)) rfl rfl rfl rfl ?_
      show zw fm sx (d + 2) 137 67 [some (.ref 136), some (.int k), some (.int x2), some (.int x3), some (.int (bI y2)), some (.int (bI (k_135 (ra Z x3)))), some (.int (bI y3)), none, none, none] [.int (bI (k_181 (ra Z x3)))] Z Q
      refine zw_run 5 (pc' := 77) (loc' := [some (.ref 136), some (.int k), some (.int x2), some (.int x3), some (.int (bI y2)), some (.int (bI (k_135 (ra Z x3)))), some (.int (bI y3)), some (.int (bI (k_181 (ra Z x3)))), none, none]) (stk' := [.int (bI y3), .int (bI y2), .int (bI (k_181 (ra Z x3))), .int (bI (k_135 (ra Z x3)))]) (fun _ _ _ => rfl) ?_
      refine zw_callf (As := [.int (bI (k_135 (ra Z x3))), .int (bI (k_181 (ra Z x3))), .int (bI y2), .int (bI y3)]) (rest := []) (c_136 (k_135 (ra Z x3)) (k_181 (ra Z x3)) y2 y3 (d := d + 1)) rfl rfl rfl rfl ?_
      show zw fm sx (d + 2) 137 80 [some (.ref 136), some (.int k), some (.int x2), some (.int x3), some (.int (bI y2)), some (.int (bI (k_135 (ra Z x3)))), some (.int (bI y3)), some (.int (bI (k_181 (ra Z x3)))), none, none] [.int (bI (k_136 (k_135 (ra Z x3)) (k_181 (ra Z x3)) y2 y3))] Z Q
      refine zw_run 1 (pc' := 82) (loc' := [some (.ref 136), some (.int k), some (.int x2), some (.int x3), some (.int (bI y2)), some (.int (bI (k_135 (ra Z x3)))), some (.int (bI y3)), some (.int (bI (k_181 (ra Z x3)))), some (.int (bI (k_136 (k_135 (ra Z x3)) (k_181 (ra Z x3)) y2 y3))), none]) (stk' := []) (fun _ _ _ => rfl) ?_
      obtain ⟨y4, hy4⟩ : ∃ w : Bool, w = (k_136 (k_135 (ra Z x3)) (k_181 (ra Z x3)) y2 y3) := ⟨_, rfl⟩
      rw [← hy4]
      have H := oq_let H y4 hy4
      refine zw_run 4 (pc' := 90) (loc' := [some (.ref 136), some (.int k), some (.int x2), some (.int x3), some (.int (bI y2)), some (.int (bI (k_135 (ra Z x3)))), some (.int (bI y3)), some (.int (bI (k_181 (ra Z x3)))), some (.int (bI y4)), none]) (stk' := [.int (bI (k_181 (ra Z x3))), .int (bI (k_135 (ra Z x3))), .int (bI y3), .int (bI y2)]) (fun _ _ _ => rfl) ?_
      refine zw_callf (As := [.int (bI y2), .int (bI y3), .int (bI (k_135 (ra Z x3))), .int (bI (k_181 (ra Z x3)))]) (rest := []) (c_136 y2 y3 (k_135 (ra Z x3)) (k_181 (ra Z x3)) (d := d + 1)) rfl rfl rfl rfl ?_
      show zw fm sx (d + 2) 137 93 [some (.ref 136), some (.int k), some (.int x2), some (.int x3), some (.int (bI y2)), some (.int (bI (k_135 (ra Z x3)))), some (.int (bI y3)), some (.int (bI (k_181 (ra Z x3)))), some (.int (bI y4)), none] [.int (bI (k_136 y2 y3 (k_135 (ra Z x3)) (k_181 (ra Z x3))))] Z Q
      refine zw_run 1 (pc' := 95) (loc' := [some (.ref 136), some (.int k), some (.int x2), some (.int x3), some (.int (bI y2)), some (.int (bI (k_135 (ra Z x3)))), some (.int (bI y3)), some (.int (bI (k_181 (ra Z x3)))), some (.int (bI y4)), some (.int (bI (k_136 y2 y3 (k_135 (ra Z x3)) (k_181 (ra Z x3)))))]) (stk' := []) (fun _ _ _ => rfl) ?_
      obtain ⟨y5, hy5⟩ : ∃ w : Bool, w = (k_136 y2 y3 (k_135 (ra Z x3)) (k_181 (ra Z x3))) := ⟨_, rfl⟩
      rw [← hy5]
      have H := oq_let H y5 hy5
      refine zw_run 1 (pc' := 96) (loc' := [some (.ref 136), some (.int k), some (.int x2), some (.int x3), some (.int (bI y2)), some (.int (bI (k_135 (ra Z x3)))), some (.int (bI y3)), some (.int (bI (k_181 (ra Z x3)))), some (.int (bI y4)), some (.int (bI y5))]) (stk' := [.ref 136]) (fun _ _ _ => rfl) ?_
      refine zw_mget (v := .ref 152) rfl rfl ?_
      refine zw_run 1 (pc' := 100) (loc' := [some (.ref 136), some (.int k), some (.int x2), some (.int x3), some (.int (bI y2)), some (.int (bI (k_135 (ra Z x3)))), some (.int (bI y3)), some (.int (bI (k_181 (ra Z x3)))), some (.int (bI y4)), some (.int (bI y5))]) (stk' := [.ref 136, .ref 152]) (fun _ _ _ => rfl) ?_
      refine zw_mget (v := .int (zf Z 28)) rfl rfl ?_
      refine zw_run 3 (pc' := 107) (loc' := [some (.ref 136), some (.int k), some (.int x2), some (.int x3), some (.int (bI y2)), some (.int (bI (k_135 (ra Z x3)))), some (.int (bI y3)), some (.int (bI (k_181 (ra Z x3)))), some (.int (bI y4)), some (.int (bI y5))]) (stk' := [.int x2, .int 10, .ref 136, .int (zf Z 28), .ref 152]) (fun _ _ _ => rfl) ?_
      obtain ⟨u6, hu6, H⟩ := oq_bind H
      refine zw_callf (As := [.ref 136, .int 10, .int x2]) (rest := [.int (zf Z 28), .ref 152]) (c_127 hu 10 x2 hu6 (d := d + 0)) rfl rfl rfl rfl ?_
      show zw fm sx (d + 2) 137 110 [some (.ref 136), some (.int k), some (.int x2), some (.int x3), some (.int (bI y2)), some (.int (bI (k_135 (ra Z x3)))), some (.int (bI y3)), some (.int (bI (k_181 (ra Z x3)))), some (.int (bI y4)), some (.int (bI y5))] [.int u6.1, .int (zf Z 28), .ref 152] u6.2 Q
      obtain ⟨hS, H⟩ := oq_ob H
      obtain ⟨b7, H⟩ := oq_ob H
      refine zw_iast (j := 152) rfl (by decide) (by decide) rfl b7 ?_
      show zw fm sx (d + 2) 137 111 [some (.ref 136), some (.int k), some (.int x2), some (.int x3), some (.int (bI y2)), some (.int (bI (k_135 (ra Z x3)))), some (.int (bI y3)), some (.int (bI (k_181 (ra Z x3)))), some (.int (bI y4)), some (.int (bI y5))] [] (zar u6.2 152 (zf Z 28) u6.1) Q
      refine zw_run 1 (pc' := 112) (loc' := [some (.ref 136), some (.int k), some (.int x2), some (.int x3), some (.int (bI y2)), some (.int (bI (k_135 (ra Z x3)))), some (.int (bI y3)), some (.int (bI (k_181 (ra Z x3)))), some (.int (bI y4)), some (.int (bI y5))]) (stk' := [.ref 136]) (fun _ _ _ => rfl) ?_
      refine zw_mget (v := .ref 153) rfl rfl ?_
      refine zw_run 1 (pc' := 116) (loc' := [some (.ref 136), some (.int k), some (.int x2), some (.int x3), some (.int (bI y2)), some (.int (bI (k_135 (ra Z x3)))), some (.int (bI y3)), some (.int (bI (k_181 (ra Z x3)))), some (.int (bI y4)), some (.int (bI y5))]) (stk' := [.ref 136, .ref 153]) (fun _ _ _ => rfl) ?_
      refine zw_mget (v := .int (zf u6.2 28)) rfl rfl ?_
      refine zw_run 3 (pc' := 122) (loc' := [some (.ref 136), some (.int k), some (.int x2), some (.int x3), some (.int (bI y2)), some (.int (bI (k_135 (ra Z x3)))), some (.int (bI y3)), some (.int (bI (k_181 (ra Z x3)))), some (.int (bI y4)), some (.int (bI y5))]) (stk' := [.int (x3 - k), .int (zf u6.2 28), .ref 153]) (fun _ _ _ => rfl) ?_
      obtain ⟨b8, H⟩ := oq_ob H
      refine zw_iast (j := 153) rfl (by decide) (by decide) rfl b8 ?_
      show zw fm sx (d + 2) 137 123 [some (.ref 136), some (.int k), some (.int x2), some (.int x3), some (.int (bI y2)), some (.int (bI (k_135 (ra Z x3)))), some (.int (bI y3)), some (.int (bI (k_181 (ra Z x3)))), some (.int (bI y4)), some (.int (bI y5))] [] (zar (zar u6.2 152 (zf Z 28) u6.1) 153 (zf u6.2 28) (x3 - k)) Q
      refine zw_run 1 (pc' := 124) (loc' := [some (.ref 136), some (.int k), some (.int x2), some (.int x3), some (.int (bI y2)), some (.int (bI (k_135 (ra Z x3)))), some (.int (bI y3)), some (.int (bI (k_181 (ra Z x3)))), some (.int (bI y4)), some (.int (bI y5))]) (stk' := [.ref 136]) (fun _ _ _ => rfl) ?_
      refine zw_mget (v := .ref 154) rfl rfl ?_
      refine zw_run 1 (pc' := 128) (loc' := [some (.ref 136), some (.int k), some (.int x2), some (.int x3), some (.int (bI y2)), some (.int (bI (k_135 (ra Z x3)))), some (.int (bI y3)), some (.int (bI (k_181 (ra Z x3)))), some (.int (bI y4)), some (.int (bI y5))]) (stk' := [.ref 136, .ref 154]) (fun _ _ _ => rfl) ?_
      refine zw_mget (v := .int (zf u6.2 28)) rfl rfl ?_
      refine zw_run 3 (pc' := 134) (loc' := [some (.ref 136), some (.int k), some (.int x2), some (.int x3), some (.int (bI y2)), some (.int (bI (k_135 (ra Z x3)))), some (.int (bI y3)), some (.int (bI (k_181 (ra Z x3)))), some (.int (bI y4)), some (.int (bI y5))]) (stk' := [.int (x3 - k), .int (zf u6.2 28), .ref 154]) (fun _ _ _ => rfl) ?_
      obtain ⟨b9, H⟩ := oq_ob H
      refine zw_iast (j := 154) rfl (by decide) (by decide) rfl b9 ?_
      show zw fm sx (d + 2) 137 135 [some (.ref 136), some (.int k), some (.int x2), some (.int x3), some (.int (bI y2)), some (.int (bI (k_135 (ra Z x3)))), some (.int (bI y3)), some (.int (bI (k_181 (ra Z x3)))), some (.int (bI y4)), some (.int (bI y5))] [] (zar (zar (zar u6.2 152 (zf Z 28) u6.1) 153 (zf u6.2 28) (x3 - k)) 154 (zf u6.2 28) (x3 - k)) Q
      refine zw_run 1 (pc' := 136) (loc' := [some (.ref 136), some (.int k), some (.int x2), some (.int x3), some (.int (bI y2)), some (.int (bI (k_135 (ra Z x3)))), some (.int (bI y3)), some (.int (bI (k_181 (ra Z x3)))), some (.int (bI y4)), some (.int (bI y5))]) (stk' := [.ref 136]) (fun _ _ _ => rfl) ?_
      refine zw_mget (v := .ref 155) rfl rfl ?_
      refine zw_run 1 (pc' := 140) (loc' := [some (.ref 136), some (.int k), some (.int x2), some (.int x3), some (.int (bI y2)), some (.int (bI (k_135 (ra Z x3)))), some (.int (bI y3)), some (.int (bI (k_181 (ra Z x3)))), some (.int (bI y4)), some (.int (bI y5))]) (stk' := [.ref 136, .ref 155]) (fun _ _ _ => rfl) ?_
      refine zw_mget (v := .int (zf u6.2 28)) rfl rfl ?_
      refine zw_run 2 (pc' := 146) (loc' := [some (.ref 136), some (.int k), some (.int x2), some (.int x3), some (.int (bI y2)), some (.int (bI (k_135 (ra Z x3)))), some (.int (bI y3)), some (.int (bI (k_181 (ra Z x3)))), some (.int (bI y4)), some (.int (bI y5))]) (stk' := [.int 42, .int x2, .int (zf u6.2 28), .ref 155]) (fun _ _ _ => rfl) ?_
      have J15 : ∀ (v14 : Int32), v14 = (bI (bif !(decide (x2 = 42)) then y4 && ((!y5) || y3) else y4)) → zw fm sx (d + 2) 137 174 [some (.ref 136), some (.int k), some (.int x2), some (.int x3), some (.int (bI y2)), some (.int (bI (k_135 (ra Z x3)))), some (.int (bI y3)), some (.int (bI (k_181 (ra Z x3)))), some (.int (bI y4)), some (.int (bI y5))] [.int v14, .int (zf u6.2 28), .ref 155] (zar (zar (zar u6.2 152 (zf Z 28) u6.1) 153 (zf u6.2 28) (x3 - k)) 154 (zf u6.2 28) (x3 - k)) Q := by
        intro v14 ev14
        subst ev14
        obtain ⟨b16, H⟩ := oq_ob H
        refine zw_bast (j := 155) rfl (by decide) (by decide) rfl (bI_01 _) b16 ?_
        show zw fm sx (d + 2) 137 175 [some (.ref 136), some (.int k), some (.int x2), some (.int x3), some (.int (bI y2)), some (.int (bI (k_135 (ra Z x3)))), some (.int (bI y3)), some (.int (bI (k_181 (ra Z x3)))), some (.int (bI y4)), some (.int (bI y5))] [] (zar (zar (zar (zar u6.2 152 (zf Z 28) u6.1) 153 (zf u6.2 28) (x3 - k)) 154 (zf u6.2 28) (x3 - k)) 155 (zf u6.2 28) (bI (bif !(decide (x2 = 42)) then y4 && ((!y5) || y3) else y4))) Q
        refine zw_run 1 (pc' := 176) (loc' := [some (.ref 136), some (.int k), some (.int x2), some (.int x3), some (.int (bI y2)), some (.int (bI (k_135 (ra Z x3)))), some (.int (bI y3)), some (.int (bI (k_181 (ra Z x3)))), some (.int (bI y4)), some (.int (bI y5))]) (stk' := [.ref 136]) (fun _ _ _ => rfl) ?_
        refine zw_mget (v := .ref 156) rfl rfl ?_
        refine zw_run 1 (pc' := 180) (loc' := [some (.ref 136), some (.int k), some (.int x2), some (.int x3), some (.int (bI y2)), some (.int (bI (k_135 (ra Z x3)))), some (.int (bI y3)), some (.int (bI (k_181 (ra Z x3)))), some (.int (bI y4)), some (.int (bI y5))]) (stk' := [.ref 136, .ref 156]) (fun _ _ _ => rfl) ?_
        refine zw_mget (v := .int (zf u6.2 28)) rfl rfl ?_
        refine zw_run 2 (pc' := 186) (loc' := [some (.ref 136), some (.int k), some (.int x2), some (.int x3), some (.int (bI y2)), some (.int (bI (k_135 (ra Z x3)))), some (.int (bI y3)), some (.int (bI (k_181 (ra Z x3)))), some (.int (bI y4)), some (.int (bI y5))]) (stk' := [.int 42, .int x2, .int (zf u6.2 28), .ref 156]) (fun _ _ _ => rfl) ?_
        have J22 : ∀ (v21 : Int32), v21 = (bI (bif !(decide (x2 = 42)) then y5 && ((!y4) || (k_181 (ra Z x3))) else y5)) → zw fm sx (d + 2) 137 214 [some (.ref 136), some (.int k), some (.int x2), some (.int x3), some (.int (bI y2)), some (.int (bI (k_135 (ra Z x3)))), some (.int (bI y3)), some (.int (bI (k_181 (ra Z x3)))), some (.int (bI y4)), some (.int (bI y5))] [.int v21, .int (zf u6.2 28), .ref 156] (zar (zar (zar (zar u6.2 152 (zf Z 28) u6.1) 153 (zf u6.2 28) (x3 - k)) 154 (zf u6.2 28) (x3 - k)) 155 (zf u6.2 28) (bI (bif !(decide (x2 = 42)) then y4 && ((!y5) || y3) else y4))) Q := by
          intro v21 ev21
          subst ev21
          obtain ⟨b23, H⟩ := oq_ob H
          refine zw_bast (j := 156) rfl (by decide) (by decide) rfl (bI_01 _) b23 ?_
          show zw fm sx (d + 2) 137 215 [some (.ref 136), some (.int k), some (.int x2), some (.int x3), some (.int (bI y2)), some (.int (bI (k_135 (ra Z x3)))), some (.int (bI y3)), some (.int (bI (k_181 (ra Z x3)))), some (.int (bI y4)), some (.int (bI y5))] [] (zar (zar (zar (zar (zar u6.2 152 (zf Z 28) u6.1) 153 (zf u6.2 28) (x3 - k)) 154 (zf u6.2 28) (x3 - k)) 155 (zf u6.2 28) (bI (bif !(decide (x2 = 42)) then y4 && ((!y5) || y3) else y4))) 156 (zf u6.2 28) (bI (bif !(decide (x2 = 42)) then y5 && ((!y4) || (k_181 (ra Z x3))) else y5))) Q
          refine zw_run 1 (pc' := 216) (loc' := [some (.ref 136), some (.int k), some (.int x2), some (.int x3), some (.int (bI y2)), some (.int (bI (k_135 (ra Z x3)))), some (.int (bI y3)), some (.int (bI (k_181 (ra Z x3)))), some (.int (bI y4)), some (.int (bI y5))]) (stk' := [.ref 136]) (fun _ _ _ => rfl) ?_
          refine zw_mget (v := .ref 157) rfl rfl ?_
          refine zw_run 1 (pc' := 220) (loc' := [some (.ref 136), some (.int k), some (.int x2), some (.int x3), some (.int (bI y2)), some (.int (bI (k_135 (ra Z x3)))), some (.int (bI y3)), some (.int (bI (k_181 (ra Z x3)))), some (.int (bI y4)), some (.int (bI y5))]) (stk' := [.ref 136, .ref 157]) (fun _ _ _ => rfl) ?_
          refine zw_mget (v := .int (zf u6.2 28)) rfl rfl ?_
          refine zw_run 1 (pc' := 224) (loc' := [some (.ref 136), some (.int k), some (.int x2), some (.int x3), some (.int (bI y2)), some (.int (bI (k_135 (ra Z x3)))), some (.int (bI y3)), some (.int (bI (k_181 (ra Z x3)))), some (.int (bI y4)), some (.int (bI y5))]) (stk' := [.int 0, .int (zf u6.2 28), .ref 157]) (fun _ _ _ => rfl) ?_
          obtain ⟨b24, H⟩ := oq_ob H
          refine zw_bast (j := 157) rfl (by decide) (by decide) rfl (Or.inl rfl) b24 ?_
          show zw fm sx (d + 2) 137 225 [some (.ref 136), some (.int k), some (.int x2), some (.int x3), some (.int (bI y2)), some (.int (bI (k_135 (ra Z x3)))), some (.int (bI y3)), some (.int (bI (k_181 (ra Z x3)))), some (.int (bI y4)), some (.int (bI y5))] [] (zar (zar (zar (zar (zar (zar u6.2 152 (zf Z 28) u6.1) 153 (zf u6.2 28) (x3 - k)) 154 (zf u6.2 28) (x3 - k)) 155 (zf u6.2 28) (bI (bif !(decide (x2 = 42)) then y4 && ((!y5) || y3) else y4))) 156 (zf u6.2 28) (bI (bif !(decide (x2 = 42)) then y5 && ((!y4) || (k_181 (ra Z x3))) else y5))) 157 (zf u6.2 28) 0) Q
          obtain ⟨Z25, hZ25⟩ : ∃ w : zr_Z, w = zar (zar (zar (zar (zar (zar u6.2 152 (zf Z 28) u6.1) 153 (zf u6.2 28) (x3 - k)) 154 (zf u6.2 28) (x3 - k)) 155 (zf u6.2 28) (bI (bif !(decide (x2 = 42)) then y4 && ((!y5) || y3) else y4))) 156 (zf u6.2 28) (bI (bif !(decide (x2 = 42)) then y5 && ((!y4) || (k_181 (ra Z x3))) else y5))) 157 (zf u6.2 28) 0 := ⟨_, rfl⟩
          rw [← hZ25]
          have H := oq_let H Z25 hZ25
          have hS : sok Z25 := by rw [hZ25]; exact hS
          refine zw_run 2 (pc' := 227) (loc' := [some (.ref 136), some (.int k), some (.int x2), some (.int x3), some (.int (bI y2)), some (.int (bI (k_135 (ra Z x3)))), some (.int (bI y3)), some (.int (bI (k_181 (ra Z x3)))), some (.int (bI y4)), some (.int (bI y5))]) (stk' := [.ref 136, .ref 136]) (fun _ _ _ => rfl) ?_
          refine zw_mget (v := .int (zf Z25 28)) rfl rfl ?_
          refine zw_run 2 (pc' := 232) (loc' := [some (.ref 136), some (.int k), some (.int x2), some (.int x3), some (.int (bI y2)), some (.int (bI (k_135 (ra Z x3)))), some (.int (bI y3)), some (.int (bI (k_181 (ra Z x3)))), some (.int (bI y4)), some (.int (bI y5))]) (stk' := [.int ((zf Z25 28) + 1), .ref 136]) (fun _ _ _ => rfl) ?_
          refine zw_mput rfl rfl rfl rfl ?_
          show zw fm sx (d + 2) 137 235 [some (.ref 136), some (.int k), some (.int x2), some (.int x3), some (.int (bI y2)), some (.int (bI (k_135 (ra Z x3)))), some (.int (bI y3)), some (.int (bI (k_181 (ra Z x3)))), some (.int (bI y4)), some (.int (bI y5))] [] (zmf Z25 28 ((zf Z25 28) + 1)) Q
          refine zw_run 1 (pc' := 236) (loc' := [some (.ref 136), some (.int k), some (.int x2), some (.int x3), some (.int (bI y2)), some (.int (bI (k_135 (ra Z x3)))), some (.int (bI y3)), some (.int (bI (k_181 (ra Z x3)))), some (.int (bI y4)), some (.int (bI y5))]) (stk' := [.int x3]) (fun _ _ _ => rfl) ?_
          refine zw_reti (i := .nop) rfl rfl ?_
          have H := oq_some H
          exact H
        refine zw_br (c := ¬ x2 = 42) (t1 := 194) (t2 := 189) (loc' := [some (.ref 136), some (.int k), some (.int x2), some (.int x3), some (.int (bI y2)), some (.int (bI (k_135 (ra Z x3)))), some (.int (bI y3)), some (.int (bI (k_181 (ra Z x3)))), some (.int (bI y4)), some (.int (bI y5))]) (stk' := [.int (zf u6.2 28), .ref 156]) (fun _ _ _ => rfl) (fun c17 => ?_) (fun c17 => ?_)
        · skip
          refine zw_run 1 (pc' := 196) (loc' := [some (.ref 136), some (.int k), some (.int x2), some (.int x3), some (.int (bI y2)), some (.int (bI (k_135 (ra Z x3)))), some (.int (bI y3)), some (.int (bI (k_181 (ra Z x3)))), some (.int (bI y4)), some (.int (bI y5))]) (stk' := [.int (bI y5), .int (zf u6.2 28), .ref 156]) (fun _ _ _ => rfl) ?_
          refine zw_b0 (b := y5) (t1 := 199) (t2 := 213) (loc' := [some (.ref 136), some (.int k), some (.int x2), some (.int x3), some (.int (bI y2)), some (.int (bI (k_135 (ra Z x3)))), some (.int (bI y3)), some (.int (bI (k_181 (ra Z x3)))), some (.int (bI y4)), some (.int (bI y5))]) (stk' := [.int (zf u6.2 28), .ref 156]) (fun _ _ _ => rfl) (fun c18 => ?_) (fun c18 => ?_)
          · skip
            refine zw_run 1 (pc' := 201) (loc' := [some (.ref 136), some (.int k), some (.int x2), some (.int x3), some (.int (bI y2)), some (.int (bI (k_135 (ra Z x3)))), some (.int (bI y3)), some (.int (bI (k_181 (ra Z x3)))), some (.int (bI y4)), some (.int (bI y5))]) (stk' := [.int (bI y4), .int (zf u6.2 28), .ref 156]) (fun _ _ _ => rfl) ?_
            refine zw_b0 (b := y4) (t1 := 204) (t2 := 209) (loc' := [some (.ref 136), some (.int k), some (.int x2), some (.int x3), some (.int (bI y2)), some (.int (bI (k_135 (ra Z x3)))), some (.int (bI y3)), some (.int (bI (k_181 (ra Z x3)))), some (.int (bI y4)), some (.int (bI y5))]) (stk' := [.int (zf u6.2 28), .ref 156]) (fun _ _ _ => rfl) (fun c19 => ?_) (fun c19 => ?_)
            · skip
              refine zw_run 1 (pc' := 206) (loc' := [some (.ref 136), some (.int k), some (.int x2), some (.int x3), some (.int (bI y2)), some (.int (bI (k_135 (ra Z x3)))), some (.int (bI y3)), some (.int (bI (k_181 (ra Z x3)))), some (.int (bI y4)), some (.int (bI y5))]) (stk' := [.int (bI (k_181 (ra Z x3))), .int (zf u6.2 28), .ref 156]) (fun _ _ _ => rfl) ?_
              refine zw_b0 (b := (k_181 (ra Z x3))) (t1 := 209) (t2 := 213) (loc' := [some (.ref 136), some (.int k), some (.int x2), some (.int x3), some (.int (bI y2)), some (.int (bI (k_135 (ra Z x3)))), some (.int (bI y3)), some (.int (bI (k_181 (ra Z x3)))), some (.int (bI y4)), some (.int (bI y5))]) (stk' := [.int (zf u6.2 28), .ref 156]) (fun _ _ _ => rfl) (fun c20 => ?_) (fun c20 => ?_)
              · skip
                refine zw_run 2 (pc' := 214) (loc' := [some (.ref 136), some (.int k), some (.int x2), some (.int x3), some (.int (bI y2)), some (.int (bI (k_135 (ra Z x3)))), some (.int (bI y3)), some (.int (bI (k_181 (ra Z x3)))), some (.int (bI y4)), some (.int (bI y5))]) (stk' := [.int 1, .int (zf u6.2 28), .ref 156]) (fun _ _ _ => rfl) ?_
                exact J22 _ (by clear H J22; first | (simp [bI, c17, c18, c19, c20]; done) | (simp [bI, *]; done) | (simp_all [bI]; done) | (rw [decide_eq_true (Decidable.not_not.mp c17)]; rfl) | (rw [decide_eq_true (Decidable.not_not.mp c18)]; rfl) | (rw [decide_eq_true (Decidable.not_not.mp c19)]; rfl) | (rw [decide_eq_true (Decidable.not_not.mp c20)]; rfl) | (exfalso; simp_all; done))
              · skip
                refine zw_run 1 (pc' := 214) (loc' := [some (.ref 136), some (.int k), some (.int x2), some (.int x3), some (.int (bI y2)), some (.int (bI (k_135 (ra Z x3)))), some (.int (bI y3)), some (.int (bI (k_181 (ra Z x3)))), some (.int (bI y4)), some (.int (bI y5))]) (stk' := [.int 0, .int (zf u6.2 28), .ref 156]) (fun _ _ _ => rfl) ?_
                exact J22 _ (by clear H J22; first | (simp [bI, c17, c18, c19, c20]; done) | (simp [bI, *]; done) | (simp_all [bI]; done) | (rw [decide_eq_true (Decidable.not_not.mp c17)]; rfl) | (rw [decide_eq_true (Decidable.not_not.mp c18)]; rfl) | (rw [decide_eq_true (Decidable.not_not.mp c19)]; rfl) | (rw [decide_eq_true (Decidable.not_not.mp c20)]; rfl) | (exfalso; simp_all; done))
            · skip
              refine zw_run 2 (pc' := 214) (loc' := [some (.ref 136), some (.int k), some (.int x2), some (.int x3), some (.int (bI y2)), some (.int (bI (k_135 (ra Z x3)))), some (.int (bI y3)), some (.int (bI (k_181 (ra Z x3)))), some (.int (bI y4)), some (.int (bI y5))]) (stk' := [.int 1, .int (zf u6.2 28), .ref 156]) (fun _ _ _ => rfl) ?_
              exact J22 _ (by clear H J22; first | (simp [bI, c17, c18, c19]; done) | (simp [bI, *]; done) | (simp_all [bI]; done) | (rw [decide_eq_true (Decidable.not_not.mp c17)]; rfl) | (rw [decide_eq_true (Decidable.not_not.mp c18)]; rfl) | (rw [decide_eq_true (Decidable.not_not.mp c19)]; rfl) | (exfalso; simp_all; done))
          · skip
            refine zw_run 1 (pc' := 214) (loc' := [some (.ref 136), some (.int k), some (.int x2), some (.int x3), some (.int (bI y2)), some (.int (bI (k_135 (ra Z x3)))), some (.int (bI y3)), some (.int (bI (k_181 (ra Z x3)))), some (.int (bI y4)), some (.int (bI y5))]) (stk' := [.int 0, .int (zf u6.2 28), .ref 156]) (fun _ _ _ => rfl) ?_
            exact J22 _ (by clear H J22; first | (simp [bI, c17, c18]; done) | (simp [bI, *]; done) | (simp_all [bI]; done) | (rw [decide_eq_true (Decidable.not_not.mp c17)]; rfl) | (rw [decide_eq_true (Decidable.not_not.mp c18)]; rfl) | (exfalso; simp_all; done))
        · skip
          refine zw_run 2 (pc' := 214) (loc' := [some (.ref 136), some (.int k), some (.int x2), some (.int x3), some (.int (bI y2)), some (.int (bI (k_135 (ra Z x3)))), some (.int (bI y3)), some (.int (bI (k_181 (ra Z x3)))), some (.int (bI y4)), some (.int (bI y5))]) (stk' := [.int (bI y5), .int (zf u6.2 28), .ref 156]) (fun _ _ _ => rfl) ?_
          exact J22 _ (by clear H J22; first | (simp [bI, c17]; done) | (simp [bI, *]; done) | (simp_all [bI]; done) | (rw [decide_eq_true (Decidable.not_not.mp c17)]; rfl) | (exfalso; simp_all; done))
      refine zw_br (c := ¬ x2 = 42) (t1 := 154) (t2 := 149) (loc' := [some (.ref 136), some (.int k), some (.int x2), some (.int x3), some (.int (bI y2)), some (.int (bI (k_135 (ra Z x3)))), some (.int (bI y3)), some (.int (bI (k_181 (ra Z x3)))), some (.int (bI y4)), some (.int (bI y5))]) (stk' := [.int (zf u6.2 28), .ref 155]) (fun _ _ _ => rfl) (fun c10 => ?_) (fun c10 => ?_)
      · skip
        refine zw_run 1 (pc' := 156) (loc' := [some (.ref 136), some (.int k), some (.int x2), some (.int x3), some (.int (bI y2)), some (.int (bI (k_135 (ra Z x3)))), some (.int (bI y3)), some (.int (bI (k_181 (ra Z x3)))), some (.int (bI y4)), some (.int (bI y5))]) (stk' := [.int (bI y4), .int (zf u6.2 28), .ref 155]) (fun _ _ _ => rfl) ?_
        refine zw_b0 (b := y4) (t1 := 159) (t2 := 173) (loc' := [some (.ref 136), some (.int k), some (.int x2), some (.int x3), some (.int (bI y2)), some (.int (bI (k_135 (ra Z x3)))), some (.int (bI y3)), some (.int (bI (k_181 (ra Z x3)))), some (.int (bI y4)), some (.int (bI y5))]) (stk' := [.int (zf u6.2 28), .ref 155]) (fun _ _ _ => rfl) (fun c11 => ?_) (fun c11 => ?_)
        · skip
          refine zw_run 1 (pc' := 161) (loc' := [some (.ref 136), some (.int k), some (.int x2), some (.int x3), some (.int (bI y2)), some (.int (bI (k_135 (ra Z x3)))), some (.int (bI y3)), some (.int (bI (k_181 (ra Z x3)))), some (.int (bI y4)), some (.int (bI y5))]) (stk' := [.int (bI y5), .int (zf u6.2 28), .ref 155]) (fun _ _ _ => rfl) ?_
          refine zw_b0 (b := y5) (t1 := 164) (t2 := 169) (loc' := [some (.ref 136), some (.int k), some (.int x2), some (.int x3), some (.int (bI y2)), some (.int (bI (k_135 (ra Z x3)))), some (.int (bI y3)), some (.int (bI (k_181 (ra Z x3)))), some (.int (bI y4)), some (.int (bI y5))]) (stk' := [.int (zf u6.2 28), .ref 155]) (fun _ _ _ => rfl) (fun c12 => ?_) (fun c12 => ?_)
          · skip
            refine zw_run 1 (pc' := 166) (loc' := [some (.ref 136), some (.int k), some (.int x2), some (.int x3), some (.int (bI y2)), some (.int (bI (k_135 (ra Z x3)))), some (.int (bI y3)), some (.int (bI (k_181 (ra Z x3)))), some (.int (bI y4)), some (.int (bI y5))]) (stk' := [.int (bI y3), .int (zf u6.2 28), .ref 155]) (fun _ _ _ => rfl) ?_
            refine zw_b0 (b := y3) (t1 := 169) (t2 := 173) (loc' := [some (.ref 136), some (.int k), some (.int x2), some (.int x3), some (.int (bI y2)), some (.int (bI (k_135 (ra Z x3)))), some (.int (bI y3)), some (.int (bI (k_181 (ra Z x3)))), some (.int (bI y4)), some (.int (bI y5))]) (stk' := [.int (zf u6.2 28), .ref 155]) (fun _ _ _ => rfl) (fun c13 => ?_) (fun c13 => ?_)
            · skip
              refine zw_run 2 (pc' := 174) (loc' := [some (.ref 136), some (.int k), some (.int x2), some (.int x3), some (.int (bI y2)), some (.int (bI (k_135 (ra Z x3)))), some (.int (bI y3)), some (.int (bI (k_181 (ra Z x3)))), some (.int (bI y4)), some (.int (bI y5))]) (stk' := [.int 1, .int (zf u6.2 28), .ref 155]) (fun _ _ _ => rfl) ?_
              exact J15 _ (by clear H J15; first | (simp [bI, c10, c11, c12, c13]; done) | (simp [bI, *]; done) | (simp_all [bI]; done) | (rw [decide_eq_true (Decidable.not_not.mp c10)]; rfl) | (rw [decide_eq_true (Decidable.not_not.mp c11)]; rfl) | (rw [decide_eq_true (Decidable.not_not.mp c12)]; rfl) | (rw [decide_eq_true (Decidable.not_not.mp c13)]; rfl) | (exfalso; simp_all; done))
            · skip
              refine zw_run 1 (pc' := 174) (loc' := [some (.ref 136), some (.int k), some (.int x2), some (.int x3), some (.int (bI y2)), some (.int (bI (k_135 (ra Z x3)))), some (.int (bI y3)), some (.int (bI (k_181 (ra Z x3)))), some (.int (bI y4)), some (.int (bI y5))]) (stk' := [.int 0, .int (zf u6.2 28), .ref 155]) (fun _ _ _ => rfl) ?_
              exact J15 _ (by clear H J15; first | (simp [bI, c10, c11, c12, c13]; done) | (simp [bI, *]; done) | (simp_all [bI]; done) | (rw [decide_eq_true (Decidable.not_not.mp c10)]; rfl) | (rw [decide_eq_true (Decidable.not_not.mp c11)]; rfl) | (rw [decide_eq_true (Decidable.not_not.mp c12)]; rfl) | (rw [decide_eq_true (Decidable.not_not.mp c13)]; rfl) | (exfalso; simp_all; done))
          · skip
            refine zw_run 2 (pc' := 174) (loc' := [some (.ref 136), some (.int k), some (.int x2), some (.int x3), some (.int (bI y2)), some (.int (bI (k_135 (ra Z x3)))), some (.int (bI y3)), some (.int (bI (k_181 (ra Z x3)))), some (.int (bI y4)), some (.int (bI y5))]) (stk' := [.int 1, .int (zf u6.2 28), .ref 155]) (fun _ _ _ => rfl) ?_
            exact J15 _ (by clear H J15; first | (simp [bI, c10, c11, c12]; done) | (simp [bI, *]; done) | (simp_all [bI]; done) | (rw [decide_eq_true (Decidable.not_not.mp c10)]; rfl) | (rw [decide_eq_true (Decidable.not_not.mp c11)]; rfl) | (rw [decide_eq_true (Decidable.not_not.mp c12)]; rfl) | (exfalso; simp_all; done))
        · skip
          refine zw_run 1 (pc' := 174) (loc' := [some (.ref 136), some (.int k), some (.int x2), some (.int x3), some (.int (bI y2)), some (.int (bI (k_135 (ra Z x3)))), some (.int (bI y3)), some (.int (bI (k_181 (ra Z x3)))), some (.int (bI y4)), some (.int (bI y5))]) (stk' := [.int 0, .int (zf u6.2 28), .ref 155]) (fun _ _ _ => rfl) ?_
          exact J15 _ (by clear H J15; first | (simp [bI, c10, c11]; done) | (simp [bI, *]; done) | (simp_all [bI]; done) | (rw [decide_eq_true (Decidable.not_not.mp c10)]; rfl) | (rw [decide_eq_true (Decidable.not_not.mp c11)]; rfl) | (exfalso; simp_all; done))
      · skip
        refine zw_run 2 (pc' := 174) (loc' := [some (.ref 136), some (.int k), some (.int x2), some (.int x3), some (.int (bI y2)), some (.int (bI (k_135 (ra Z x3)))), some (.int (bI y3)), some (.int (bI (k_181 (ra Z x3)))), some (.int (bI y4)), some (.int (bI y5))]) (stk' := [.int (bI y4), .int (zf u6.2 28), .ref 155]) (fun _ _ _ => rfl) ?_
        exact J15 _ (by clear H J15; first | (simp [bI, c10]; done) | (simp [bI, *]; done) | (simp_all [bI]; done) | (rw [decide_eq_true (Decidable.not_not.mp c10)]; rfl) | (exfalso; simp_all; done))
    · rw [if_neg c1] at H
      refine zw_run 2 (pc' := 8) (loc' := [some (.ref 136), some (.int k), some (.int x2), some (.int (x3 + 1)), none, none, none, none, none, none]) (stk' := []) (fun _ _ _ => rfl) ?_
      exact ih Z x2 (x3 + 1) H
/-- MarkInlinesModel.run -/
def o_137 (Z : zr_Z) (k : Int32) : Option (Int32 × zr_Z) := (if sok Z then g_137_8 oF Z k (ra Z k) k else none)
set_option maxRecDepth 100000 in
set_option maxHeartbeats 4000000 in
theorem t_137 {fm : Value} {sx : Nat × (Nat → Int32)} {d : Nat} {Z : zr_Z} {Q : Option Value → zr_Z → Prop} (hu : fm = .null ∨ ∃ q, fm = .ref q) (k : Int32) (H : oq (o_137 Z k) (fun x => Q (some (.int x.1)) x.2)) : zw fm sx (d + 2) 137 0 [some (.ref 136), some (.int k), none, none, none, none, none, none, none, none] [] Z Q := by
  unfold o_137 at H
  obtain ⟨hS, H⟩ := oq_ob H
  refine zw_run 2 (pc' := 2) (loc' := [some (.ref 136), some (.int k), none, none, none, none, none, none, none, none]) (stk' := [.int k, .ref 136]) (fun _ _ _ => rfl) ?_
  refine zw_callf (As := [.ref 136, .int k]) (rest := []) (c_183 (Z := Z) hS k (d := d + 1)) rfl rfl rfl rfl ?_
  show zw fm sx (d + 2) 137 5 [some (.ref 136), some (.int k), none, none, none, none, none, none, none, none] [.int (ra Z k)] Z Q
  refine zw_run 3 (pc' := 8) (loc' := [some (.ref 136), some (.int k), some (.int (ra Z k)), some (.int k), none, none, none, none, none, none]) (stk' := []) (fun _ _ _ => rfl) ?_
  exact l_137_8 hu k _ Z (ra Z k) k H
theorem c_137 {fm : Value} {sx : Nat × (Nat → Int32)} {d : Nat} {Z : zr_Z} (hu : fm = .null ∨ ∃ q, fm = .ref q) (k : Int32) {x : Int32 × zr_Z} (hx : o_137 Z k = some x) : zl fm sx (d + 3) 137 [.ref 136, .int k] Z (fun r Z' => r = some (.int x.1) ∧ Z' = x.2) :=
  zl_of (nL := 10) (loc0 := [some (.ref 136), some (.int k), none, none, none, none, none, none, none, none]) rfl rfl rfl (t_137 hu k ⟨x, hx, rfl, rfl⟩)
/-- MarkInlinesModel.kill, its loop at 2 -/
def g_138_2 : Nat → zr_Z → Int32 → Option zr_Z
  | 0, _, _ => none
  | n + 1, Z, x1 => (if (zf Z 35) ≤ x1 then some Z else (if inq 163 x1 then (if (if ¬ (zv Z 163 x1) = 0 then True else (inq 162 x1 ∧ (if ¬ (zv Z 162 x1) = 0 then True else True))) then (if inq 163 x1 then g_138_2 n (zar Z 163 x1 (bI ((!(decide ((zv Z 163 x1) = 0))) || (decide ((zv Z 162 x1) = 0))))) (x1 + 1) else none) else none) else none))
set_option maxRecDepth 100000 in
set_option maxHeartbeats 4000000 in
theorem l_138_2 {fm : Value} {sx : Nat × (Nat → Int32)} {d : Nat} {Q : Option Value → zr_Z → Prop} (hu : fm = .null ∨ ∃ q, fm = .ref q)  : ∀ (n : Nat) (Z : zr_Z) (x1 : Int32), oq (g_138_2 n Z x1) (fun x => Q none x) → zw fm sx (d + 0) 138 2 [some (.ref 136), some (.int x1)] [] Z Q := by
  intro n
  induction n with
  | zero => intro Z x1 H; exact absurd H oq_none
  | succ n ih =>
    intro Z x1 H
    unfold g_138_2 at H
    refine zw_run 2 (pc' := 4) (loc' := [some (.ref 136), some (.int x1)]) (stk' := [.ref 136, .int x1]) (fun _ _ _ => rfl) ?_
    refine zw_mget (v := .int (zf Z 35)) rfl rfl ?_
    refine zw_br (c := (zf Z 35) ≤ x1) (t1 := 45) (t2 := 10) (loc' := [some (.ref 136), some (.int x1)]) (stk' := []) (fun _ _ _ => rfl) (fun c1 => ?_) (fun c1 => ?_)
    · rw [if_pos c1] at H
      refine zw_retv rfl rfl ?_
      have H := oq_some H
      exact H
    · rw [if_neg c1] at H
      refine zw_run 1 (pc' := 11) (loc' := [some (.ref 136), some (.int x1)]) (stk' := [.ref 136]) (fun _ _ _ => rfl) ?_
      refine zw_mget (v := .ref 163) rfl rfl ?_
      refine zw_run 2 (pc' := 16) (loc' := [some (.ref 136), some (.int x1)]) (stk' := [.ref 136, .int x1, .ref 163]) (fun _ _ _ => rfl) ?_
      refine zw_mget (v := .ref 163) rfl rfl ?_
      refine zw_run 1 (pc' := 20) (loc' := [some (.ref 136), some (.int x1)]) (stk' := [.int x1, .ref 163, .int x1, .ref 163]) (fun _ _ _ => rfl) ?_
      obtain ⟨b2, H⟩ := oq_ob H
      refine zw_bald (j := 163) rfl (by decide) (by decide) rfl b2 ?_
      obtain ⟨HR, H⟩ := oq_ob H
      have J7 : ∀ (v6 : Int32), v6 = (bI ((!(decide ((zv Z 163 x1) = 0))) || (decide ((zv Z 162 x1) = 0)))) → zw fm sx (d + 0) 138 38 [some (.ref 136), some (.int x1)] [.int v6, .int x1, .ref 163] Z Q := by
        intro v6 ev6
        subst ev6
        obtain ⟨b8, H⟩ := oq_ob H
        refine zw_bast (j := 163) rfl (by decide) (by decide) rfl (bI_01 _) b8 ?_
        show zw fm sx (d + 0) 138 39 [some (.ref 136), some (.int x1)] [] (zar Z 163 x1 (bI ((!(decide ((zv Z 163 x1) = 0))) || (decide ((zv Z 162 x1) = 0))))) Q
        refine zw_run 2 (pc' := 2) (loc' := [some (.ref 136), some (.int (x1 + 1))]) (stk' := []) (fun _ _ _ => rfl) ?_
        exact ih (zar Z 163 x1 (bI ((!(decide ((zv Z 163 x1) = 0))) || (decide ((zv Z 162 x1) = 0))))) (x1 + 1) H
      clear H
      have H := HR
      refine zw_br (c := ¬ (zv Z 163 x1) = 0) (t1 := 33) (t2 := 24) (loc' := [some (.ref 136), some (.int x1)]) (stk' := [.int x1, .ref 163]) (fun _ _ _ => rfl) (fun c3 => ?_) (fun c3 => ?_)
      · rw [if_pos c3] at H
        refine zw_run 2 (pc' := 38) (loc' := [some (.ref 136), some (.int x1)]) (stk' := [.int 1, .int x1, .ref 163]) (fun _ _ _ => rfl) ?_
        exact J7 _ (by clear H J7; first | (simp [bI, c3]; done) | (simp [bI, *]; done) | (simp_all [bI]; done) | (rw [decide_eq_true (Decidable.not_not.mp c3)]; rfl) | (exfalso; simp_all; done))
      · rw [if_neg c3] at H
        refine zw_run 1 (pc' := 25) (loc' := [some (.ref 136), some (.int x1)]) (stk' := [.ref 136, .int x1, .ref 163]) (fun _ _ _ => rfl) ?_
        refine zw_mget (v := .ref 162) rfl rfl ?_
        refine zw_run 1 (pc' := 29) (loc' := [some (.ref 136), some (.int x1)]) (stk' := [.int x1, .ref 162, .int x1, .ref 163]) (fun _ _ _ => rfl) ?_
        obtain ⟨b4, H⟩ := H
        refine zw_bald (j := 162) rfl (by decide) (by decide) rfl b4 ?_
        refine zw_br (c := ¬ (zv Z 162 x1) = 0) (t1 := 37) (t2 := 33) (loc' := [some (.ref 136), some (.int x1)]) (stk' := [.int x1, .ref 163]) (fun _ _ _ => rfl) (fun c5 => ?_) (fun c5 => ?_)
        · rw [if_pos c5] at H
          refine zw_run 1 (pc' := 38) (loc' := [some (.ref 136), some (.int x1)]) (stk' := [.int 0, .int x1, .ref 163]) (fun _ _ _ => rfl) ?_
          exact J7 _ (by clear H J7; first | (simp [bI, c3, c5]; done) | (simp [bI, *]; done) | (simp_all [bI]; done) | (rw [decide_eq_true (Decidable.not_not.mp c3)]; rfl) | (rw [decide_eq_true (Decidable.not_not.mp c5)]; rfl) | (exfalso; simp_all; done))
        · rw [if_neg c5] at H
          refine zw_run 2 (pc' := 38) (loc' := [some (.ref 136), some (.int x1)]) (stk' := [.int 1, .int x1, .ref 163]) (fun _ _ _ => rfl) ?_
          exact J7 _ (by clear H J7; first | (simp [bI, c3, c5]; done) | (simp [bI, *]; done) | (simp_all [bI]; done) | (rw [decide_eq_true (Decidable.not_not.mp c3)]; rfl) | (rw [decide_eq_true (Decidable.not_not.mp c5)]; rfl) | (exfalso; simp_all; done))
/-- MarkInlinesModel.kill -/
def o_138 (Z : zr_Z)  : Option zr_Z := g_138_2 oF Z 0
set_option maxRecDepth 100000 in
set_option maxHeartbeats 4000000 in
theorem t_138 {fm : Value} {sx : Nat × (Nat → Int32)} {d : Nat} {Z : zr_Z} {Q : Option Value → zr_Z → Prop} (hu : fm = .null ∨ ∃ q, fm = .ref q)  (H : oq (o_138 Z) (fun x => Q none x)) : zw fm sx (d + 0) 138 0 [some (.ref 136), none] [] Z Q := by
  unfold o_138 at H
  refine zw_run 2 (pc' := 2) (loc' := [some (.ref 136), some (.int 0)]) (stk' := []) (fun _ _ _ => rfl) ?_
  exact l_138_2 hu _ Z 0 H
theorem c_138 {fm : Value} {sx : Nat × (Nat → Int32)} {d : Nat} {Z : zr_Z} (hu : fm = .null ∨ ∃ q, fm = .ref q)  {x : zr_Z} (hx : o_138 Z = some x) : zl fm sx (d + 1) 138 [.ref 136] Z (fun r Z' => r = none ∧ Z' = x) :=
  zl_of (nL := 2) (loc0 := [some (.ref 136), none]) rfl rfl rfl (t_138 hu ⟨x, hx, rfl, rfl⟩)
/-- MarkInlinesModel.bracket -/
def o_139 (Z : zr_Z) (k : Int32) (im : Bool) : Option (Int32 × zr_Z) := (Option.bind (o_127 Z 11 (bI (im))) fun u4 => (if inq 158 (zf Z 35) then (if inq 159 (zf u4.2 35) then (if inq 160 (zf u4.2 35) then (if inq 162 (zf u4.2 35) then (if inq 163 (zf u4.2 35) then (olet (zmf (zar (zar (zar (zar (zar u4.2 158 (zf Z 35) u4.1) 159 (zf u4.2 35) (if im = true then (k + 2) else (k + 1) : Int32)) 160 (zf u4.2 35) (zf u4.2 28)) 162 (zf u4.2 35) (bI im)) 163 (zf u4.2 35) 0) 36 ((zf u4.2 36) + 1) : zr_Z) fun Z13 => (if inq 161 (zf Z13 35) then (if inq 159 (((zf Z13 35) + 1) - 1) then some (zv Z13 159 (((zf Z13 35) + 1) - 1), zmf (zar Z13 161 (zf Z13 35) (zf Z13 36)) 35 ((zf Z13 35) + 1)) else none) else none)) else none) else none) else none) else none) else none))
set_option maxRecDepth 100000 in
set_option maxHeartbeats 4000000 in
theorem t_139 {fm : Value} {sx : Nat × (Nat → Int32)} {d : Nat} {Z : zr_Z} {Q : Option Value → zr_Z → Prop} (hu : fm = .null ∨ ∃ q, fm = .ref q) (k : Int32) (im : Bool) (H : oq (o_139 Z k im) (fun x => Q (some (.int x.1)) x.2)) : zw fm sx (d + 2) 139 0 [some (.ref 136), some (.int k), some (.int (bI im))] [] Z Q := by
  unfold o_139 at H
  refine zw_run 1 (pc' := 1) (loc' := [some (.ref 136), some (.int k), some (.int (bI im))]) (stk' := [.ref 136]) (fun _ _ _ => rfl) ?_
  refine zw_mget (v := .ref 158) rfl rfl ?_
  refine zw_run 1 (pc' := 5) (loc' := [some (.ref 136), some (.int k), some (.int (bI im))]) (stk' := [.ref 136, .ref 158]) (fun _ _ _ => rfl) ?_
  refine zw_mget (v := .int (zf Z 35)) rfl rfl ?_
  refine zw_run 3 (pc' := 12) (loc' := [some (.ref 136), some (.int k), some (.int (bI im))]) (stk' := [.int (bI im), .int 11, .ref 136, .int (zf Z 35), .ref 158]) (fun _ _ _ => rfl) ?_
  have J3 : ∀ (v2 : Int32), v2 = (bI (im)) → zw fm sx (d + 2) 139 20 [some (.ref 136), some (.int k), some (.int (bI im))] [.int v2, .int 11, .ref 136, .int (zf Z 35), .ref 158] Z Q := by
    intro v2 ev2
    subst ev2
    obtain ⟨u4, hu4, H⟩ := oq_bind H
    refine zw_callf (As := [.ref 136, .int 11, .int (bI (im))]) (rest := [.int (zf Z 35), .ref 158]) (c_127 hu 11 (bI (im)) hu4 (d := d + 0)) rfl rfl rfl rfl ?_
    show zw fm sx (d + 2) 139 23 [some (.ref 136), some (.int k), some (.int (bI im))] [.int u4.1, .int (zf Z 35), .ref 158] u4.2 Q
    obtain ⟨b5, H⟩ := oq_ob H
    refine zw_iast (j := 158) rfl (by decide) (by decide) rfl b5 ?_
    show zw fm sx (d + 2) 139 24 [some (.ref 136), some (.int k), some (.int (bI im))] [] (zar u4.2 158 (zf Z 35) u4.1) Q
    refine zw_run 1 (pc' := 25) (loc' := [some (.ref 136), some (.int k), some (.int (bI im))]) (stk' := [.ref 136]) (fun _ _ _ => rfl) ?_
    refine zw_mget (v := .ref 159) rfl rfl ?_
    refine zw_run 1 (pc' := 29) (loc' := [some (.ref 136), some (.int k), some (.int (bI im))]) (stk' := [.ref 136, .ref 159]) (fun _ _ _ => rfl) ?_
    refine zw_mget (v := .int (zf u4.2 35)) rfl rfl ?_
    refine zw_run 1 (pc' := 33) (loc' := [some (.ref 136), some (.int k), some (.int (bI im))]) (stk' := [.int (bI im), .int (zf u4.2 35), .ref 159]) (fun _ _ _ => rfl) ?_
    have J8 : ∀ (v7 : Int32), v7 = (if im = true then (k + 2) else (k + 1) : Int32) → zw fm sx (d + 2) 139 45 [some (.ref 136), some (.int k), some (.int (bI im))] [.int v7, .int (zf u4.2 35), .ref 159] (zar u4.2 158 (zf Z 35) u4.1) Q := by
      intro v7 ev7
      subst ev7
      obtain ⟨b9, H⟩ := oq_ob H
      refine zw_iast (j := 159) rfl (by decide) (by decide) rfl b9 ?_
      show zw fm sx (d + 2) 139 46 [some (.ref 136), some (.int k), some (.int (bI im))] [] (zar (zar u4.2 158 (zf Z 35) u4.1) 159 (zf u4.2 35) (if im = true then (k + 2) else (k + 1) : Int32)) Q
      refine zw_run 1 (pc' := 47) (loc' := [some (.ref 136), some (.int k), some (.int (bI im))]) (stk' := [.ref 136]) (fun _ _ _ => rfl) ?_
      refine zw_mget (v := .ref 160) rfl rfl ?_
      refine zw_run 1 (pc' := 51) (loc' := [some (.ref 136), some (.int k), some (.int (bI im))]) (stk' := [.ref 136, .ref 160]) (fun _ _ _ => rfl) ?_
      refine zw_mget (v := .int (zf u4.2 35)) rfl rfl ?_
      refine zw_run 1 (pc' := 55) (loc' := [some (.ref 136), some (.int k), some (.int (bI im))]) (stk' := [.ref 136, .int (zf u4.2 35), .ref 160]) (fun _ _ _ => rfl) ?_
      refine zw_mget (v := .int (zf u4.2 28)) rfl rfl ?_
      obtain ⟨b10, H⟩ := oq_ob H
      refine zw_iast (j := 160) rfl (by decide) (by decide) rfl b10 ?_
      show zw fm sx (d + 2) 139 59 [some (.ref 136), some (.int k), some (.int (bI im))] [] (zar (zar (zar u4.2 158 (zf Z 35) u4.1) 159 (zf u4.2 35) (if im = true then (k + 2) else (k + 1) : Int32)) 160 (zf u4.2 35) (zf u4.2 28)) Q
      refine zw_run 1 (pc' := 60) (loc' := [some (.ref 136), some (.int k), some (.int (bI im))]) (stk' := [.ref 136]) (fun _ _ _ => rfl) ?_
      refine zw_mget (v := .ref 162) rfl rfl ?_
      refine zw_run 1 (pc' := 64) (loc' := [some (.ref 136), some (.int k), some (.int (bI im))]) (stk' := [.ref 136, .ref 162]) (fun _ _ _ => rfl) ?_
      refine zw_mget (v := .int (zf u4.2 35)) rfl rfl ?_
      refine zw_run 1 (pc' := 68) (loc' := [some (.ref 136), some (.int k), some (.int (bI im))]) (stk' := [.int (bI im), .int (zf u4.2 35), .ref 162]) (fun _ _ _ => rfl) ?_
      obtain ⟨b11, H⟩ := oq_ob H
      refine zw_bast (j := 162) rfl (by decide) (by decide) rfl (bI_01 _) b11 ?_
      show zw fm sx (d + 2) 139 69 [some (.ref 136), some (.int k), some (.int (bI im))] [] (zar (zar (zar (zar u4.2 158 (zf Z 35) u4.1) 159 (zf u4.2 35) (if im = true then (k + 2) else (k + 1) : Int32)) 160 (zf u4.2 35) (zf u4.2 28)) 162 (zf u4.2 35) (bI im)) Q
      refine zw_run 1 (pc' := 70) (loc' := [some (.ref 136), some (.int k), some (.int (bI im))]) (stk' := [.ref 136]) (fun _ _ _ => rfl) ?_
      refine zw_mget (v := .ref 163) rfl rfl ?_
      refine zw_run 1 (pc' := 74) (loc' := [some (.ref 136), some (.int k), some (.int (bI im))]) (stk' := [.ref 136, .ref 163]) (fun _ _ _ => rfl) ?_
      refine zw_mget (v := .int (zf u4.2 35)) rfl rfl ?_
      refine zw_run 1 (pc' := 78) (loc' := [some (.ref 136), some (.int k), some (.int (bI im))]) (stk' := [.int 0, .int (zf u4.2 35), .ref 163]) (fun _ _ _ => rfl) ?_
      obtain ⟨b12, H⟩ := oq_ob H
      refine zw_bast (j := 163) rfl (by decide) (by decide) rfl (Or.inl rfl) b12 ?_
      show zw fm sx (d + 2) 139 79 [some (.ref 136), some (.int k), some (.int (bI im))] [] (zar (zar (zar (zar (zar u4.2 158 (zf Z 35) u4.1) 159 (zf u4.2 35) (if im = true then (k + 2) else (k + 1) : Int32)) 160 (zf u4.2 35) (zf u4.2 28)) 162 (zf u4.2 35) (bI im)) 163 (zf u4.2 35) 0) Q
      refine zw_run 2 (pc' := 81) (loc' := [some (.ref 136), some (.int k), some (.int (bI im))]) (stk' := [.ref 136, .ref 136]) (fun _ _ _ => rfl) ?_
      refine zw_mget (v := .int (zf u4.2 36)) rfl rfl ?_
      refine zw_run 2 (pc' := 86) (loc' := [some (.ref 136), some (.int k), some (.int (bI im))]) (stk' := [.int ((zf u4.2 36) + 1), .ref 136]) (fun _ _ _ => rfl) ?_
      refine zw_mput rfl rfl rfl rfl ?_
      show zw fm sx (d + 2) 139 89 [some (.ref 136), some (.int k), some (.int (bI im))] [] (zmf (zar (zar (zar (zar (zar u4.2 158 (zf Z 35) u4.1) 159 (zf u4.2 35) (if im = true then (k + 2) else (k + 1) : Int32)) 160 (zf u4.2 35) (zf u4.2 28)) 162 (zf u4.2 35) (bI im)) 163 (zf u4.2 35) 0) 36 ((zf u4.2 36) + 1)) Q
      obtain ⟨Z13, hZ13⟩ : ∃ w : zr_Z, w = zmf (zar (zar (zar (zar (zar u4.2 158 (zf Z 35) u4.1) 159 (zf u4.2 35) (if im = true then (k + 2) else (k + 1) : Int32)) 160 (zf u4.2 35) (zf u4.2 28)) 162 (zf u4.2 35) (bI im)) 163 (zf u4.2 35) 0) 36 ((zf u4.2 36) + 1) := ⟨_, rfl⟩
      rw [← hZ13]
      have H := oq_let H Z13 hZ13
      refine zw_run 1 (pc' := 90) (loc' := [some (.ref 136), some (.int k), some (.int (bI im))]) (stk' := [.ref 136]) (fun _ _ _ => rfl) ?_
      refine zw_mget (v := .ref 161) rfl rfl ?_
      refine zw_run 1 (pc' := 94) (loc' := [some (.ref 136), some (.int k), some (.int (bI im))]) (stk' := [.ref 136, .ref 161]) (fun _ _ _ => rfl) ?_
      refine zw_mget (v := .int (zf Z13 35)) rfl rfl ?_
      refine zw_run 1 (pc' := 98) (loc' := [some (.ref 136), some (.int k), some (.int (bI im))]) (stk' := [.ref 136, .int (zf Z13 35), .ref 161]) (fun _ _ _ => rfl) ?_
      refine zw_mget (v := .int (zf Z13 36)) rfl rfl ?_
      obtain ⟨b14, H⟩ := oq_ob H
      refine zw_iast (j := 161) rfl (by decide) (by decide) rfl b14 ?_
      show zw fm sx (d + 2) 139 102 [some (.ref 136), some (.int k), some (.int (bI im))] [] (zar Z13 161 (zf Z13 35) (zf Z13 36)) Q
      refine zw_run 2 (pc' := 104) (loc' := [some (.ref 136), some (.int k), some (.int (bI im))]) (stk' := [.ref 136, .ref 136]) (fun _ _ _ => rfl) ?_
      refine zw_mget (v := .int (zf Z13 35)) rfl rfl ?_
      refine zw_run 2 (pc' := 109) (loc' := [some (.ref 136), some (.int k), some (.int (bI im))]) (stk' := [.int ((zf Z13 35) + 1), .ref 136]) (fun _ _ _ => rfl) ?_
      refine zw_mput rfl rfl rfl rfl ?_
      show zw fm sx (d + 2) 139 112 [some (.ref 136), some (.int k), some (.int (bI im))] [] (zmf (zar Z13 161 (zf Z13 35) (zf Z13 36)) 35 ((zf Z13 35) + 1)) Q
      refine zw_run 1 (pc' := 113) (loc' := [some (.ref 136), some (.int k), some (.int (bI im))]) (stk' := [.ref 136]) (fun _ _ _ => rfl) ?_
      refine zw_mget (v := .ref 159) rfl rfl ?_
      refine zw_run 1 (pc' := 117) (loc' := [some (.ref 136), some (.int k), some (.int (bI im))]) (stk' := [.ref 136, .ref 159]) (fun _ _ _ => rfl) ?_
      refine zw_mget (v := .int ((zf Z13 35) + 1)) rfl rfl ?_
      refine zw_run 2 (pc' := 122) (loc' := [some (.ref 136), some (.int k), some (.int (bI im))]) (stk' := [.int (((zf Z13 35) + 1) - 1), .ref 159]) (fun _ _ _ => rfl) ?_
      obtain ⟨b15, H⟩ := oq_ob H
      refine zw_iald (j := 159) rfl (by decide) (by decide) rfl b15 ?_
      refine zw_reti (i := .nop) rfl rfl ?_
      have H := oq_some H
      exact H
    refine zw_b0 (b := im) (t1 := 36) (t2 := 42) (loc' := [some (.ref 136), some (.int k), some (.int (bI im))]) (stk' := [.int (zf u4.2 35), .ref 159]) (fun _ _ _ => rfl) (fun c6 => ?_) (fun c6 => ?_)
    · skip
      refine zw_run 4 (pc' := 45) (loc' := [some (.ref 136), some (.int k), some (.int (bI im))]) (stk' := [.int (k + 2), .int (zf u4.2 35), .ref 159]) (fun _ _ _ => rfl) ?_
      exact J8 _ (by first | (rw [if_pos c6]; done) | (rw [if_pos c6]; rfl) | (clear H J8; simp_all [bI]; done))
    · skip
      refine zw_run 3 (pc' := 45) (loc' := [some (.ref 136), some (.int k), some (.int (bI im))]) (stk' := [.int (k + 1), .int (zf u4.2 35), .ref 159]) (fun _ _ _ => rfl) ?_
      exact J8 _ (by first | (rw [if_neg c6]; done) | (rw [if_neg c6]; rfl) | (clear H J8; simp_all [bI]; done))
  refine zw_b0 (b := im) (t1 := 15) (t2 := 19) (loc' := [some (.ref 136), some (.int k), some (.int (bI im))]) (stk' := [.int 11, .ref 136, .int (zf Z 35), .ref 158]) (fun _ _ _ => rfl) (fun c1 => ?_) (fun c1 => ?_)
  · skip
    refine zw_run 2 (pc' := 20) (loc' := [some (.ref 136), some (.int k), some (.int (bI im))]) (stk' := [.int 1, .int 11, .ref 136, .int (zf Z 35), .ref 158]) (fun _ _ _ => rfl) ?_
    exact J3 _ (by clear H J3; first | (simp [bI, c1]; done) | (simp [bI, *]; done) | (simp_all [bI]; done) | (rw [decide_eq_true (Decidable.not_not.mp c1)]; rfl) | (exfalso; simp_all; done))
  · skip
    refine zw_run 1 (pc' := 20) (loc' := [some (.ref 136), some (.int k), some (.int (bI im))]) (stk' := [.int 0, .int 11, .ref 136, .int (zf Z 35), .ref 158]) (fun _ _ _ => rfl) ?_
    exact J3 _ (by clear H J3; first | (simp [bI, c1]; done) | (simp [bI, *]; done) | (simp_all [bI]; done) | (rw [decide_eq_true (Decidable.not_not.mp c1)]; rfl) | (exfalso; simp_all; done))
theorem c_139 {fm : Value} {sx : Nat × (Nat → Int32)} {d : Nat} {Z : zr_Z} (hu : fm = .null ∨ ∃ q, fm = .ref q) (k : Int32) (im : Bool) {x : Int32 × zr_Z} (hx : o_139 Z k im = some x) : zl fm sx (d + 3) 139 [.ref 136, .int k, .int (bI im)] Z (fun r Z' => r = some (.int x.1) ∧ Z' = x.2) :=
  zl_of (nL := 3) (loc0 := [some (.ref 136), some (.int k), some (.int (bI im))]) rfl rfl rfl (t_139 hu k im ⟨x, hx, rfl, rfl⟩)
