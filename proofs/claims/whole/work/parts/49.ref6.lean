/-! walks into Option; written by wip/whole/gen_opt.py -/
/-- MarkInlinesModel.send -/
def o_164 (Z : zr_Z) (c : Int32) : Option zr_Z := (if inq 172 (zf Z 49) then some (zmf (zar Z 172 (zf Z 49) c) 49 ((zf Z 49) + 1)) else none)
set_option maxRecDepth 100000 in
set_option maxHeartbeats 4000000 in
theorem t_164 {fm : Value} {sx : Nat × (Nat → Int32)} {d : Nat} {Z : zr_Z} {Q : Option Value → zr_Z → Prop} (hu : fm = .null ∨ ∃ q, fm = .ref q) (c : Int32) (H : oq (o_164 Z c) (fun x => Q none x)) : zw fm sx (d + 0) 164 0 [some (.ref 136), some (.int c)] [] Z Q := by
  unfold o_164 at H
  refine zw_run 1 (pc' := 1) (loc' := [some (.ref 136), some (.int c)]) (stk' := [.ref 136]) (fun _ _ _ => rfl) ?_
  refine zw_mget (v := .ref 172) rfl rfl ?_
  refine zw_run 1 (pc' := 5) (loc' := [some (.ref 136), some (.int c)]) (stk' := [.ref 136, .ref 172]) (fun _ _ _ => rfl) ?_
  refine zw_mget (v := .int (zf Z 49)) rfl rfl ?_
  refine zw_run 1 (pc' := 9) (loc' := [some (.ref 136), some (.int c)]) (stk' := [.int c, .int (zf Z 49), .ref 172]) (fun _ _ _ => rfl) ?_
  obtain ⟨b1, H⟩ := oq_ob H
  refine zw_iast (j := 172) rfl (by decide) (by decide) rfl b1 ?_
  show zw fm sx (d + 0) 164 10 [some (.ref 136), some (.int c)] [] (zar Z 172 (zf Z 49) c) Q
  refine zw_run 2 (pc' := 12) (loc' := [some (.ref 136), some (.int c)]) (stk' := [.ref 136, .ref 136]) (fun _ _ _ => rfl) ?_
  refine zw_mget (v := .int (zf Z 49)) rfl rfl ?_
  refine zw_run 2 (pc' := 17) (loc' := [some (.ref 136), some (.int c)]) (stk' := [.int ((zf Z 49) + 1), .ref 136]) (fun _ _ _ => rfl) ?_
  refine zw_mput rfl rfl rfl rfl ?_
  show zw fm sx (d + 0) 164 20 [some (.ref 136), some (.int c)] [] (zmf (zar Z 172 (zf Z 49) c) 49 ((zf Z 49) + 1)) Q
  refine zw_retv rfl rfl ?_
  have H := oq_some H
  exact H
theorem c_164 {fm : Value} {sx : Nat × (Nat → Int32)} {d : Nat} {Z : zr_Z} (hu : fm = .null ∨ ∃ q, fm = .ref q) (c : Int32) {x : zr_Z} (hx : o_164 Z c = some x) : zl fm sx (d + 1) 164 [.ref 136, .int c] Z (fun r Z' => r = none ∧ Z' = x) :=
  zl_of (nL := 2) (loc0 := [some (.ref 136), some (.int c)]) rfl rfl rfl (t_164 hu c ⟨x, hx, rfl, rfl⟩)
/-- MarkInlinesModel.tell -/
def o_166 (Z : zr_Z) (c : Int32) (sa : Bool) : Option zr_Z := (if sa = true then (if c = 38 then (Option.bind (o_164 Z 38) fun u3 => (if c = 38 then (Option.bind (o_164 u3 97) fun u5 => (Option.bind (o_164 u5 109) fun u6 => (Option.bind (o_164 u6 112) fun u7 => (Option.bind (o_164 u7 59) fun u8 => some u8)))) else (if c = 60 then (Option.bind (o_164 u3 108) fun u10 => (Option.bind (o_164 u10 116) fun u11 => (Option.bind (o_164 u11 59) fun u12 => some u12))) else (if c = 62 then (Option.bind (o_164 u3 103) fun u14 => (Option.bind (o_164 u14 116) fun u15 => (Option.bind (o_164 u15 59) fun u16 => some u16))) else (Option.bind (o_164 u3 113) fun u17 => (Option.bind (o_164 u17 117) fun u18 => (Option.bind (o_164 u18 111) fun u19 => (Option.bind (o_164 u19 116) fun u20 => (Option.bind (o_164 u20 59) fun u21 => some u21))))))))) else (if c = 60 then (Option.bind (o_164 Z 38) fun u23 => (if c = 38 then (Option.bind (o_164 u23 97) fun u25 => (Option.bind (o_164 u25 109) fun u26 => (Option.bind (o_164 u26 112) fun u27 => (Option.bind (o_164 u27 59) fun u28 => some u28)))) else (if c = 60 then (Option.bind (o_164 u23 108) fun u30 => (Option.bind (o_164 u30 116) fun u31 => (Option.bind (o_164 u31 59) fun u32 => some u32))) else (if c = 62 then (Option.bind (o_164 u23 103) fun u34 => (Option.bind (o_164 u34 116) fun u35 => (Option.bind (o_164 u35 59) fun u36 => some u36))) else (Option.bind (o_164 u23 113) fun u37 => (Option.bind (o_164 u37 117) fun u38 => (Option.bind (o_164 u38 111) fun u39 => (Option.bind (o_164 u39 116) fun u40 => (Option.bind (o_164 u40 59) fun u41 => some u41))))))))) else (if c = 62 then (Option.bind (o_164 Z 38) fun u43 => (if c = 38 then (Option.bind (o_164 u43 97) fun u45 => (Option.bind (o_164 u45 109) fun u46 => (Option.bind (o_164 u46 112) fun u47 => (Option.bind (o_164 u47 59) fun u48 => some u48)))) else (if c = 60 then (Option.bind (o_164 u43 108) fun u50 => (Option.bind (o_164 u50 116) fun u51 => (Option.bind (o_164 u51 59) fun u52 => some u52))) else (if c = 62 then (Option.bind (o_164 u43 103) fun u54 => (Option.bind (o_164 u54 116) fun u55 => (Option.bind (o_164 u55 59) fun u56 => some u56))) else (Option.bind (o_164 u43 113) fun u57 => (Option.bind (o_164 u57 117) fun u58 => (Option.bind (o_164 u58 111) fun u59 => (Option.bind (o_164 u59 116) fun u60 => (Option.bind (o_164 u60 59) fun u61 => some u61))))))))) else (if c = 34 then (Option.bind (o_164 Z 38) fun u63 => (if c = 38 then (Option.bind (o_164 u63 97) fun u65 => (Option.bind (o_164 u65 109) fun u66 => (Option.bind (o_164 u66 112) fun u67 => (Option.bind (o_164 u67 59) fun u68 => some u68)))) else (if c = 60 then (Option.bind (o_164 u63 108) fun u70 => (Option.bind (o_164 u70 116) fun u71 => (Option.bind (o_164 u71 59) fun u72 => some u72))) else (if c = 62 then (Option.bind (o_164 u63 103) fun u74 => (Option.bind (o_164 u74 116) fun u75 => (Option.bind (o_164 u75 59) fun u76 => some u76))) else (Option.bind (o_164 u63 113) fun u77 => (Option.bind (o_164 u77 117) fun u78 => (Option.bind (o_164 u78 111) fun u79 => (Option.bind (o_164 u79 116) fun u80 => (Option.bind (o_164 u80 59) fun u81 => some u81))))))))) else (Option.bind (o_164 Z c) fun u82 => some u82))))) else (Option.bind (o_164 Z c) fun u83 => some u83))
set_option maxRecDepth 100000 in
set_option maxHeartbeats 4000000 in
theorem t_166 {fm : Value} {sx : Nat × (Nat → Int32)} {d : Nat} {Z : zr_Z} {Q : Option Value → zr_Z → Prop} (hu : fm = .null ∨ ∃ q, fm = .ref q) (c : Int32) (sa : Bool) (H : oq (o_166 Z c sa) (fun x => Q none x)) : zw fm sx (d + 1) 166 0 [some (.ref 136), some (.int c), some (.int (bI sa))] [] Z Q := by
  unfold o_166 at H
  refine zw_run 1 (pc' := 1) (loc' := [some (.ref 136), some (.int c), some (.int (bI sa))]) (stk' := [.int (bI sa)]) (fun _ _ _ => rfl) ?_
  refine zw_b0 (b := sa) (t1 := 4) (t2 := 28) (loc' := [some (.ref 136), some (.int c), some (.int (bI sa))]) (stk' := []) (fun _ _ _ => rfl) (fun c1 => ?_) (fun c1 => ?_)
  · rw [if_pos c1] at H
    refine zw_run 2 (pc' := 7) (loc' := [some (.ref 136), some (.int c), some (.int (bI sa))]) (stk' := [.int 38, .int c]) (fun _ _ _ => rfl) ?_
    refine zw_br (c := c = 38) (t1 := 34) (t2 := 10) (loc' := [some (.ref 136), some (.int c), some (.int (bI sa))]) (stk' := []) (fun _ _ _ => rfl) (fun c2 => ?_) (fun c2 => ?_)
    · rw [if_pos c2] at H
      refine zw_run 2 (pc' := 37) (loc' := [some (.ref 136), some (.int c), some (.int (bI sa))]) (stk' := [.int 38, .ref 136]) (fun _ _ _ => rfl) ?_
      obtain ⟨u3, hu3, H⟩ := oq_bind H
      refine zw_callf (As := [.ref 136, .int 38]) (rest := []) (c_164 hu 38 hu3 (d := d + 0)) rfl rfl rfl rfl ?_
      show zw fm sx (d + 1) 166 40 [some (.ref 136), some (.int c), some (.int (bI sa))] [] u3 Q
      refine zw_run 1 (pc' := 41) (loc' := [some (.ref 136), some (.int c), some (.int (bI sa))]) (stk' := [.int c]) (fun _ _ _ => rfl) ?_
      by_cases c4 : c = 38
      · rw [if_pos c4] at H
        refine zw_run 1 (pc' := 76) (loc' := [some (.ref 136), some (.int c), some (.int (bI sa))]) (stk' := []) (fun _ _ _ => by first | (rw [c4]; rfl) | (unfold zv at c4; rw [c4]; rfl)) ?_
        refine zw_run 2 (pc' := 79) (loc' := [some (.ref 136), some (.int c), some (.int (bI sa))]) (stk' := [.int 97, .ref 136]) (fun _ _ _ => rfl) ?_
        obtain ⟨u5, hu5, H⟩ := oq_bind H
        refine zw_callf (As := [.ref 136, .int 97]) (rest := []) (c_164 hu 97 hu5 (d := d + 0)) rfl rfl rfl rfl ?_
        show zw fm sx (d + 1) 166 82 [some (.ref 136), some (.int c), some (.int (bI sa))] [] u5 Q
        refine zw_run 2 (pc' := 85) (loc' := [some (.ref 136), some (.int c), some (.int (bI sa))]) (stk' := [.int 109, .ref 136]) (fun _ _ _ => rfl) ?_
        obtain ⟨u6, hu6, H⟩ := oq_bind H
        refine zw_callf (As := [.ref 136, .int 109]) (rest := []) (c_164 hu 109 hu6 (d := d + 0)) rfl rfl rfl rfl ?_
        show zw fm sx (d + 1) 166 88 [some (.ref 136), some (.int c), some (.int (bI sa))] [] u6 Q
        refine zw_run 2 (pc' := 91) (loc' := [some (.ref 136), some (.int c), some (.int (bI sa))]) (stk' := [.int 112, .ref 136]) (fun _ _ _ => rfl) ?_
        obtain ⟨u7, hu7, H⟩ := oq_bind H
        refine zw_callf (As := [.ref 136, .int 112]) (rest := []) (c_164 hu 112 hu7 (d := d + 0)) rfl rfl rfl rfl ?_
        show zw fm sx (d + 1) 166 94 [some (.ref 136), some (.int c), some (.int (bI sa))] [] u7 Q
        refine zw_run 3 (pc' := 154) (loc' := [some (.ref 136), some (.int c), some (.int (bI sa))]) (stk' := [.int 59, .ref 136]) (fun _ _ _ => rfl) ?_
        obtain ⟨u8, hu8, H⟩ := oq_bind H
        refine zw_callf (As := [.ref 136, .int 59]) (rest := []) (c_164 hu 59 hu8 (d := d + 0)) rfl rfl rfl rfl ?_
        show zw fm sx (d + 1) 166 157 [some (.ref 136), some (.int c), some (.int (bI sa))] [] u8 Q
        refine zw_retv rfl rfl ?_
        have H := oq_some H
        exact H
      rw [if_neg c4] at H
      by_cases c9 : c = 60
      · rw [if_pos c9] at H
        refine zw_run 1 (pc' := 97) (loc' := [some (.ref 136), some (.int c), some (.int (bI sa))]) (stk' := []) (fun _ _ _ => by first | (rw [c9]; rfl) | (unfold zv at c9; rw [c9]; rfl)) ?_
        refine zw_run 2 (pc' := 100) (loc' := [some (.ref 136), some (.int c), some (.int (bI sa))]) (stk' := [.int 108, .ref 136]) (fun _ _ _ => rfl) ?_
        obtain ⟨u10, hu10, H⟩ := oq_bind H
        refine zw_callf (As := [.ref 136, .int 108]) (rest := []) (c_164 hu 108 hu10 (d := d + 0)) rfl rfl rfl rfl ?_
        show zw fm sx (d + 1) 166 103 [some (.ref 136), some (.int c), some (.int (bI sa))] [] u10 Q
        refine zw_run 2 (pc' := 106) (loc' := [some (.ref 136), some (.int c), some (.int (bI sa))]) (stk' := [.int 116, .ref 136]) (fun _ _ _ => rfl) ?_
        obtain ⟨u11, hu11, H⟩ := oq_bind H
        refine zw_callf (As := [.ref 136, .int 116]) (rest := []) (c_164 hu 116 hu11 (d := d + 0)) rfl rfl rfl rfl ?_
        show zw fm sx (d + 1) 166 109 [some (.ref 136), some (.int c), some (.int (bI sa))] [] u11 Q
        refine zw_run 3 (pc' := 154) (loc' := [some (.ref 136), some (.int c), some (.int (bI sa))]) (stk' := [.int 59, .ref 136]) (fun _ _ _ => rfl) ?_
        obtain ⟨u12, hu12, H⟩ := oq_bind H
        refine zw_callf (As := [.ref 136, .int 59]) (rest := []) (c_164 hu 59 hu12 (d := d + 0)) rfl rfl rfl rfl ?_
        show zw fm sx (d + 1) 166 157 [some (.ref 136), some (.int c), some (.int (bI sa))] [] u12 Q
        refine zw_retv rfl rfl ?_
        have H := oq_some H
        exact H
      rw [if_neg c9] at H
      by_cases c13 : c = 62
      · rw [if_pos c13] at H
        refine zw_run 1 (pc' := 112) (loc' := [some (.ref 136), some (.int c), some (.int (bI sa))]) (stk' := []) (fun _ _ _ => by first | (rw [c13]; rfl) | (unfold zv at c13; rw [c13]; rfl)) ?_
        refine zw_run 2 (pc' := 115) (loc' := [some (.ref 136), some (.int c), some (.int (bI sa))]) (stk' := [.int 103, .ref 136]) (fun _ _ _ => rfl) ?_
        obtain ⟨u14, hu14, H⟩ := oq_bind H
        refine zw_callf (As := [.ref 136, .int 103]) (rest := []) (c_164 hu 103 hu14 (d := d + 0)) rfl rfl rfl rfl ?_
        show zw fm sx (d + 1) 166 118 [some (.ref 136), some (.int c), some (.int (bI sa))] [] u14 Q
        refine zw_run 2 (pc' := 121) (loc' := [some (.ref 136), some (.int c), some (.int (bI sa))]) (stk' := [.int 116, .ref 136]) (fun _ _ _ => rfl) ?_
        obtain ⟨u15, hu15, H⟩ := oq_bind H
        refine zw_callf (As := [.ref 136, .int 116]) (rest := []) (c_164 hu 116 hu15 (d := d + 0)) rfl rfl rfl rfl ?_
        show zw fm sx (d + 1) 166 124 [some (.ref 136), some (.int c), some (.int (bI sa))] [] u15 Q
        refine zw_run 3 (pc' := 154) (loc' := [some (.ref 136), some (.int c), some (.int (bI sa))]) (stk' := [.int 59, .ref 136]) (fun _ _ _ => rfl) ?_
        obtain ⟨u16, hu16, H⟩ := oq_bind H
        refine zw_callf (As := [.ref 136, .int 59]) (rest := []) (c_164 hu 59 hu16 (d := d + 0)) rfl rfl rfl rfl ?_
        show zw fm sx (d + 1) 166 157 [some (.ref 136), some (.int c), some (.int (bI sa))] [] u16 Q
        refine zw_retv rfl rfl ?_
        have H := oq_some H
        exact H
      rw [if_neg c13] at H
      refine zw_lk (pc' := 127) (loc' := [some (.ref 136), some (.int c), some (.int (bI sa))]) (stk' := []) rfl (am_lkd (fun q hq => ?_)) rfl ?_
      · simp only [List.mem_cons, List.not_mem_nil, or_false] at hq
        rcases hq with rfl | rfl | rfl
        · exact fun q => c4 (Int32.toInt_inj.mp q.symm)
        · exact fun q => c9 (Int32.toInt_inj.mp q.symm)
        · exact fun q => c13 (Int32.toInt_inj.mp q.symm)
      refine zw_run 2 (pc' := 130) (loc' := [some (.ref 136), some (.int c), some (.int (bI sa))]) (stk' := [.int 113, .ref 136]) (fun _ _ _ => rfl) ?_
      obtain ⟨u17, hu17, H⟩ := oq_bind H
      refine zw_callf (As := [.ref 136, .int 113]) (rest := []) (c_164 hu 113 hu17 (d := d + 0)) rfl rfl rfl rfl ?_
      show zw fm sx (d + 1) 166 133 [some (.ref 136), some (.int c), some (.int (bI sa))] [] u17 Q
      refine zw_run 2 (pc' := 136) (loc' := [some (.ref 136), some (.int c), some (.int (bI sa))]) (stk' := [.int 117, .ref 136]) (fun _ _ _ => rfl) ?_
      obtain ⟨u18, hu18, H⟩ := oq_bind H
      refine zw_callf (As := [.ref 136, .int 117]) (rest := []) (c_164 hu 117 hu18 (d := d + 0)) rfl rfl rfl rfl ?_
      show zw fm sx (d + 1) 166 139 [some (.ref 136), some (.int c), some (.int (bI sa))] [] u18 Q
      refine zw_run 2 (pc' := 142) (loc' := [some (.ref 136), some (.int c), some (.int (bI sa))]) (stk' := [.int 111, .ref 136]) (fun _ _ _ => rfl) ?_
      obtain ⟨u19, hu19, H⟩ := oq_bind H
      refine zw_callf (As := [.ref 136, .int 111]) (rest := []) (c_164 hu 111 hu19 (d := d + 0)) rfl rfl rfl rfl ?_
      show zw fm sx (d + 1) 166 145 [some (.ref 136), some (.int c), some (.int (bI sa))] [] u19 Q
      refine zw_run 2 (pc' := 148) (loc' := [some (.ref 136), some (.int c), some (.int (bI sa))]) (stk' := [.int 116, .ref 136]) (fun _ _ _ => rfl) ?_
      obtain ⟨u20, hu20, H⟩ := oq_bind H
      refine zw_callf (As := [.ref 136, .int 116]) (rest := []) (c_164 hu 116 hu20 (d := d + 0)) rfl rfl rfl rfl ?_
      show zw fm sx (d + 1) 166 151 [some (.ref 136), some (.int c), some (.int (bI sa))] [] u20 Q
      refine zw_run 2 (pc' := 154) (loc' := [some (.ref 136), some (.int c), some (.int (bI sa))]) (stk' := [.int 59, .ref 136]) (fun _ _ _ => rfl) ?_
      obtain ⟨u21, hu21, H⟩ := oq_bind H
      refine zw_callf (As := [.ref 136, .int 59]) (rest := []) (c_164 hu 59 hu21 (d := d + 0)) rfl rfl rfl rfl ?_
      show zw fm sx (d + 1) 166 157 [some (.ref 136), some (.int c), some (.int (bI sa))] [] u21 Q
      refine zw_retv rfl rfl ?_
      have H := oq_some H
      exact H
    · rw [if_neg c2] at H
      refine zw_run 2 (pc' := 13) (loc' := [some (.ref 136), some (.int c), some (.int (bI sa))]) (stk' := [.int 60, .int c]) (fun _ _ _ => rfl) ?_
      refine zw_br (c := c = 60) (t1 := 34) (t2 := 16) (loc' := [some (.ref 136), some (.int c), some (.int (bI sa))]) (stk' := []) (fun _ _ _ => rfl) (fun c22 => ?_) (fun c22 => ?_)
      · rw [if_pos c22] at H
        refine zw_run 2 (pc' := 37) (loc' := [some (.ref 136), some (.int c), some (.int (bI sa))]) (stk' := [.int 38, .ref 136]) (fun _ _ _ => rfl) ?_
        obtain ⟨u23, hu23, H⟩ := oq_bind H
        refine zw_callf (As := [.ref 136, .int 38]) (rest := []) (c_164 hu 38 hu23 (d := d + 0)) rfl rfl rfl rfl ?_
        show zw fm sx (d + 1) 166 40 [some (.ref 136), some (.int c), some (.int (bI sa))] [] u23 Q
        refine zw_run 1 (pc' := 41) (loc' := [some (.ref 136), some (.int c), some (.int (bI sa))]) (stk' := [.int c]) (fun _ _ _ => rfl) ?_
        by_cases c24 : c = 38
        · rw [if_pos c24] at H
          refine zw_run 1 (pc' := 76) (loc' := [some (.ref 136), some (.int c), some (.int (bI sa))]) (stk' := []) (fun _ _ _ => by first | (rw [c24]; rfl) | (unfold zv at c24; rw [c24]; rfl)) ?_
          refine zw_run 2 (pc' := 79) (loc' := [some (.ref 136), some (.int c), some (.int (bI sa))]) (stk' := [.int 97, .ref 136]) (fun _ _ _ => rfl) ?_
          obtain ⟨u25, hu25, H⟩ := oq_bind H
          refine zw_callf (As := [.ref 136, .int 97]) (rest := []) (c_164 hu 97 hu25 (d := d + 0)) rfl rfl rfl rfl ?_
          show zw fm sx (d + 1) 166 82 [some (.ref 136), some (.int c), some (.int (bI sa))] [] u25 Q
          refine zw_run 2 (pc' := 85) (loc' := [some (.ref 136), some (.int c), some (.int (bI sa))]) (stk' := [.int 109, .ref 136]) (fun _ _ _ => rfl) ?_
          obtain ⟨u26, hu26, H⟩ := oq_bind H
          refine zw_callf (As := [.ref 136, .int 109]) (rest := []) (c_164 hu 109 hu26 (d := d + 0)) rfl rfl rfl rfl ?_
          show zw fm sx (d + 1) 166 88 [some (.ref 136), some (.int c), some (.int (bI sa))] [] u26 Q
          refine zw_run 2 (pc' := 91) (loc' := [some (.ref 136), some (.int c), some (.int (bI sa))]) (stk' := [.int 112, .ref 136]) (fun _ _ _ => rfl) ?_
          obtain ⟨u27, hu27, H⟩ := oq_bind H
          refine zw_callf (As := [.ref 136, .int 112]) (rest := []) (c_164 hu 112 hu27 (d := d + 0)) rfl rfl rfl rfl ?_
          show zw fm sx (d + 1) 166 94 [some (.ref 136), some (.int c), some (.int (bI sa))] [] u27 Q
          refine zw_run 3 (pc' := 154) (loc' := [some (.ref 136), some (.int c), some (.int (bI sa))]) (stk' := [.int 59, .ref 136]) (fun _ _ _ => rfl) ?_
          obtain ⟨u28, hu28, H⟩ := oq_bind H
          refine zw_callf (As := [.ref 136, .int 59]) (rest := []) (c_164 hu 59 hu28 (d := d + 0)) rfl rfl rfl rfl ?_
          show zw fm sx (d + 1) 166 157 [some (.ref 136), some (.int c), some (.int (bI sa))] [] u28 Q
          refine zw_retv rfl rfl ?_
          have H := oq_some H
          exact H
        rw [if_neg c24] at H
        by_cases c29 : c = 60
        · rw [if_pos c29] at H
          refine zw_run 1 (pc' := 97) (loc' := [some (.ref 136), some (.int c), some (.int (bI sa))]) (stk' := []) (fun _ _ _ => by first | (rw [c29]; rfl) | (unfold zv at c29; rw [c29]; rfl)) ?_
          refine zw_run 2 (pc' := 100) (loc' := [some (.ref 136), some (.int c), some (.int (bI sa))]) (stk' := [.int 108, .ref 136]) (fun _ _ _ => rfl) ?_
          obtain ⟨u30, hu30, H⟩ := oq_bind H
          refine zw_callf (As := [.ref 136, .int 108]) (rest := []) (c_164 hu 108 hu30 (d := d + 0)) rfl rfl rfl rfl ?_
          show zw fm sx (d + 1) 166 103 [some (.ref 136), some (.int c), some (.int (bI sa))] [] u30 Q
          refine zw_run 2 (pc' := 106) (loc' := [some (.ref 136), some (.int c), some (.int (bI sa))]) (stk' := [.int 116, .ref 136]) (fun _ _ _ => rfl) ?_
          obtain ⟨u31, hu31, H⟩ := oq_bind H
          refine zw_callf (As := [.ref 136, .int 116]) (rest := []) (c_164 hu 116 hu31 (d := d + 0)) rfl rfl rfl rfl ?_
          show zw fm sx (d + 1) 166 109 [some (.ref 136), some (.int c), some (.int (bI sa))] [] u31 Q
          refine zw_run 3 (pc' := 154) (loc' := [some (.ref 136), some (.int c), some (.int (bI sa))]) (stk' := [.int 59, .ref 136]) (fun _ _ _ => rfl) ?_
          obtain ⟨u32, hu32, H⟩ := oq_bind H
          refine zw_callf (As := [.ref 136, .int 59]) (rest := []) (c_164 hu 59 hu32 (d := d + 0)) rfl rfl rfl rfl ?_
          show zw fm sx (d + 1) 166 157 [some (.ref 136), some (.int c), some (.int (bI sa))] [] u32 Q
          refine zw_retv rfl rfl ?_
          have H := oq_some H
          exact H
        rw [if_neg c29] at H
        by_cases c33 : c = 62
        · rw [if_pos c33] at H
          refine zw_run 1 (pc' := 112) (loc' := [some (.ref 136), some (.int c), some (.int (bI sa))]) (stk' := []) (fun _ _ _ => by first | (rw [c33]; rfl) | (unfold zv at c33; rw [c33]; rfl)) ?_
          refine zw_run 2 (pc' := 115) (loc' := [some (.ref 136), some (.int c), some (.int (bI sa))]) (stk' := [.int 103, .ref 136]) (fun _ _ _ => rfl) ?_
          obtain ⟨u34, hu34, H⟩ := oq_bind H
          refine zw_callf (As := [.ref 136, .int 103]) (rest := []) (c_164 hu 103 hu34 (d := d + 0)) rfl rfl rfl rfl ?_
          show zw fm sx (d + 1) 166 118 [some (.ref 136), some (.int c), some (.int (bI sa))] [] u34 Q
          refine zw_run 2 (pc' := 121) (loc' := [some (.ref 136), some (.int c), some (.int (bI sa))]) (stk' := [.int 116, .ref 136]) (fun _ _ _ => rfl) ?_
          obtain ⟨u35, hu35, H⟩ := oq_bind H
          refine zw_callf (As := [.ref 136, .int 116]) (rest := []) (c_164 hu 116 hu35 (d := d + 0)) rfl rfl rfl rfl ?_
          show zw fm sx (d + 1) 166 124 [some (.ref 136), some (.int c), some (.int (bI sa))] [] u35 Q
          refine zw_run 3 (pc' := 154) (loc' := [some (.ref 136), some (.int c), some (.int (bI sa))]) (stk' := [.int 59, .ref 136]) (fun _ _ _ => rfl) ?_
          obtain ⟨u36, hu36, H⟩ := oq_bind H
          refine zw_callf (As := [.ref 136, .int 59]) (rest := []) (c_164 hu 59 hu36 (d := d + 0)) rfl rfl rfl rfl ?_
          show zw fm sx (d + 1) 166 157 [some (.ref 136), some (.int c), some (.int (bI sa))] [] u36 Q
          refine zw_retv rfl rfl ?_
          have H := oq_some H
          exact H
        rw [if_neg c33] at H
        refine zw_lk (pc' := 127) (loc' := [some (.ref 136), some (.int c), some (.int (bI sa))]) (stk' := []) rfl (am_lkd (fun q hq => ?_)) rfl ?_
        · simp only [List.mem_cons, List.not_mem_nil, or_false] at hq
          rcases hq with rfl | rfl | rfl
          · exact fun q => c24 (Int32.toInt_inj.mp q.symm)
          · exact fun q => c29 (Int32.toInt_inj.mp q.symm)
          · exact fun q => c33 (Int32.toInt_inj.mp q.symm)
        refine zw_run 2 (pc' := 130) (loc' := [some (.ref 136), some (.int c), some (.int (bI sa))]) (stk' := [.int 113, .ref 136]) (fun _ _ _ => rfl) ?_
        obtain ⟨u37, hu37, H⟩ := oq_bind H
        refine zw_callf (As := [.ref 136, .int 113]) (rest := []) (c_164 hu 113 hu37 (d := d + 0)) rfl rfl rfl rfl ?_
        show zw fm sx (d + 1) 166 133 [some (.ref 136), some (.int c), some (.int (bI sa))] [] u37 Q
        refine zw_run 2 (pc' := 136) (loc' := [some (.ref 136), some (.int c), some (.int (bI sa))]) (stk' := [.int 117, .ref 136]) (fun _ _ _ => rfl) ?_
        obtain ⟨u38, hu38, H⟩ := oq_bind H
        refine zw_callf (As := [.ref 136, .int 117]) (rest := []) (c_164 hu 117 hu38 (d := d + 0)) rfl rfl rfl rfl ?_
        show zw fm sx (d + 1) 166 139 [some (.ref 136), some (.int c), some (.int (bI sa))] [] u38 Q
        refine zw_run 2 (pc' := 142) (loc' := [some (.ref 136), some (.int c), some (.int (bI sa))]) (stk' := [.int 111, .ref 136]) (fun _ _ _ => rfl) ?_
        obtain ⟨u39, hu39, H⟩ := oq_bind H
        refine zw_callf (As := [.ref 136, .int 111]) (rest := []) (c_164 hu 111 hu39 (d := d + 0)) rfl rfl rfl rfl ?_
        show zw fm sx (d + 1) 166 145 [some (.ref 136), some (.int c), some (.int (bI sa))] [] u39 Q
        refine zw_run 2 (pc' := 148) (loc' := [some (.ref 136), some (.int c), some (.int (bI sa))]) (stk' := [.int 116, .ref 136]) (fun _ _ _ => rfl) ?_
        obtain ⟨u40, hu40, H⟩ := oq_bind H
        refine zw_callf (As := [.ref 136, .int 116]) (rest := []) (c_164 hu 116 hu40 (d := d + 0)) rfl rfl rfl rfl ?_
        show zw fm sx (d + 1) 166 151 [some (.ref 136), some (.int c), some (.int (bI sa))] [] u40 Q
        refine zw_run 2 (pc' := 154) (loc' := [some (.ref 136), some (.int c), some (.int (bI sa))]) (stk' := [.int 59, .ref 136]) (fun _ _ _ => rfl) ?_
        obtain ⟨u41, hu41, H⟩ := oq_bind H
        refine zw_callf (As := [.ref 136, .int 59]) (rest := []) (c_164 hu 59 hu41 (d := d + 0)) rfl rfl rfl rfl ?_
        show zw fm sx (d + 1) 166 157 [some (.ref 136), some (.int c), some (.int (bI sa))] [] u41 Q
        refine zw_retv rfl rfl ?_
        have H := oq_some H
        exact H
      · rw [if_neg c22] at H
        refine zw_run 2 (pc' := 19) (loc' := [some (.ref 136), some (.int c), some (.int (bI sa))]) (stk' := [.int 62, .int c]) (fun _ _ _ => rfl) ?_
        refine zw_br (c := c = 62) (t1 := 34) (t2 := 22) (loc' := [some (.ref 136), some (.int c), some (.int (bI sa))]) (stk' := []) (fun _ _ _ => rfl) (fun c42 => ?_) (fun c42 => ?_)
        · rw [if_pos c42] at H
          refine zw_run 2 (pc' := 37) (loc' := [some (.ref 136), some (.int c), some (.int (bI sa))]) (stk' := [.int 38, .ref 136]) (fun _ _ _ => rfl) ?_
          obtain ⟨u43, hu43, H⟩ := oq_bind H
          refine zw_callf (As := [.ref 136, .int 38]) (rest := []) (c_164 hu 38 hu43 (d := d + 0)) rfl rfl rfl rfl ?_
          show zw fm sx (d + 1) 166 40 [some (.ref 136), some (.int c), some (.int (bI sa))] [] u43 Q
          refine zw_run 1 (pc' := 41) (loc' := [some (.ref 136), some (.int c), some (.int (bI sa))]) (stk' := [.int c]) (fun _ _ _ => rfl) ?_
          by_cases c44 : c = 38
          · rw [if_pos c44] at H
            refine zw_run 1 (pc' := 76) (loc' := [some (.ref 136), some (.int c), some (.int (bI sa))]) (stk' := []) (fun _ _ _ => by first | (rw [c44]; rfl) | (unfold zv at c44; rw [c44]; rfl)) ?_
            refine zw_run 2 (pc' := 79) (loc' := [some (.ref 136), some (.int c), some (.int (bI sa))]) (stk' := [.int 97, .ref 136]) (fun _ _ _ => rfl) ?_
            obtain ⟨u45, hu45, H⟩ := oq_bind H
            refine zw_callf (As := [.ref 136, .int 97]) (rest := []) (c_164 hu 97 hu45 (d := d + 0)) rfl rfl rfl rfl ?_
            show zw fm sx (d + 1) 166 82 [some (.ref 136), some (.int c), some (.int (bI sa))] [] u45 Q
            refine zw_run 2 (pc' := 85) (loc' := [some (.ref 136), some (.int c), some (.int (bI sa))]) (stk' := [.int 109, .ref 136]) (fun _ _ _ => rfl) ?_
            obtain ⟨u46, hu46, H⟩ := oq_bind H
            refine zw_callf (As := [.ref 136, .int 109]) (rest := []) (c_164 hu 109 hu46 (d := d + 0)) rfl rfl rfl rfl ?_
            show zw fm sx (d + 1) 166 88 [some (.ref 136), some (.int c), some (.int (bI sa))] [] u46 Q
            refine zw_run 2 (pc' := 91) (loc' := [some (.ref 136), some (.int c), some (.int (bI sa))]) (stk' := [.int 112, .ref 136]) (fun _ _ _ => rfl) ?_
            obtain ⟨u47, hu47, H⟩ := oq_bind H
            refine zw_callf (As := [.ref 136, .int 112]) (rest := []) (c_164 hu 112 hu47 (d := d + 0)) rfl rfl rfl rfl ?_
            show zw fm sx (d + 1) 166 94 [some (.ref 136), some (.int c), some (.int (bI sa))] [] u47 Q
            refine zw_run 3 (pc' := 154) (loc' := [some (.ref 136), some (.int c), some (.int (bI sa))]) (stk' := [.int 59, .ref 136]) (fun _ _ _ => rfl) ?_
            obtain ⟨u48, hu48, H⟩ := oq_bind H
            refine zw_callf (As := [.ref 136, .int 59]) (rest := []) (c_164 hu 59 hu48 (d := d + 0)) rfl rfl rfl rfl ?_
            show zw fm sx (d + 1) 166 157 [some (.ref 136), some (.int c), some (.int (bI sa))] [] u48 Q
            refine zw_retv rfl rfl ?_
            have H := oq_some H
            exact H
          rw [if_neg c44] at H
          by_cases c49 : c = 60
          · rw [if_pos c49] at H
            refine zw_run 1 (pc' := 97) (loc' := [some (.ref 136), some (.int c), some (.int (bI sa))]) (stk' := []) (fun _ _ _ => by first | (rw [c49]; rfl) | (unfold zv at c49; rw [c49]; rfl)) ?_
            refine zw_run 2 (pc' := 100) (loc' := [some (.ref 136), some (.int c), some (.int (bI sa))]) (stk' := [.int 108, .ref 136]) (fun _ _ _ => rfl) ?_
            obtain ⟨u50, hu50, H⟩ := oq_bind H
            refine zw_callf (As := [.ref 136, .int 108]) (rest := []) (c_164 hu 108 hu50 (d := d + 0)) rfl rfl rfl rfl ?_
            show zw fm sx (d + 1) 166 103 [some (.ref 136), some (.int c), some (.int (bI sa))] [] u50 Q
            refine zw_run 2 (pc' := 106) (loc' := [some (.ref 136), some (.int c), some (.int (bI sa))]) (stk' := [.int 116, .ref 136]) (fun _ _ _ => rfl) ?_
            obtain ⟨u51, hu51, H⟩ := oq_bind H
            refine zw_callf (As := [.ref 136, .int 116]) (rest := []) (c_164 hu 116 hu51 (d := d + 0)) rfl rfl rfl rfl ?_
            show zw fm sx (d + 1) 166 109 [some (.ref 136), some (.int c), some (.int (bI sa))] [] u51 Q
            refine zw_run 3 (pc' := 154) (loc' := [some (.ref 136), some (.int c), some (.int (bI sa))]) (stk' := [.int 59, .ref 136]) (fun _ _ _ => rfl) ?_
            obtain ⟨u52, hu52, H⟩ := oq_bind H
            refine zw_callf (As := [.ref 136, .int 59]) (rest := []) (c_164 hu 59 hu52 (d := d + 0)) rfl rfl rfl rfl ?_
            show zw fm sx (d + 1) 166 157 [some (.ref 136), some (.int c), some (.int (bI sa))] [] u52 Q
            refine zw_retv rfl rfl ?_
            have H := oq_some H
            exact H
          rw [if_neg c49] at H
          by_cases c53 : c = 62
          · rw [if_pos c53] at H
            refine zw_run 1 (pc' := 112) (loc' := [some (.ref 136), some (.int c), some (.int (bI sa))]) (stk' := []) (fun _ _ _ => by first | (rw [c53]; rfl) | (unfold zv at c53; rw [c53]; rfl)) ?_
            refine zw_run 2 (pc' := 115) (loc' := [some (.ref 136), some (.int c), some (.int (bI sa))]) (stk' := [.int 103, .ref 136]) (fun _ _ _ => rfl) ?_
            obtain ⟨u54, hu54, H⟩ := oq_bind H
            refine zw_callf (As := [.ref 136, .int 103]) (rest := []) (c_164 hu 103 hu54 (d := d + 0)) rfl rfl rfl rfl ?_
            show zw fm sx (d + 1) 166 118 [some (.ref 136), some (.int c), some (.int (bI sa))] [] u54 Q
            refine zw_run 2 (pc' := 121) (loc' := [some (.ref 136), some (.int c), some (.int (bI sa))]) (stk' := [.int 116, .ref 136]) (fun _ _ _ => rfl) ?_
            obtain ⟨u55, hu55, H⟩ := oq_bind H
            refine zw_callf (As := [.ref 136, .int 116]) (rest := []) (c_164 hu 116 hu55 (d := d + 0)) rfl rfl rfl rfl ?_
            show zw fm sx (d + 1) 166 124 [some (.ref 136), some (.int c), some (.int (bI sa))] [] u55 Q
            refine zw_run 3 (pc' := 154) (loc' := [some (.ref 136), some (.int c), some (.int (bI sa))]) (stk' := [.int 59, .ref 136]) (fun _ _ _ => rfl) ?_
            obtain ⟨u56, hu56, H⟩ := oq_bind H
            refine zw_callf (As := [.ref 136, .int 59]) (rest := []) (c_164 hu 59 hu56 (d := d + 0)) rfl rfl rfl rfl ?_
            show zw fm sx (d + 1) 166 157 [some (.ref 136), some (.int c), some (.int (bI sa))] [] u56 Q
            refine zw_retv rfl rfl ?_
            have H := oq_some H
            exact H
          rw [if_neg c53] at H
          refine zw_lk (pc' := 127) (loc' := [some (.ref 136), some (.int c), some (.int (bI sa))]) (stk' := []) rfl (am_lkd (fun q hq => ?_)) rfl ?_
          · simp only [List.mem_cons, List.not_mem_nil, or_false] at hq
            rcases hq with rfl | rfl | rfl
            · exact fun q => c44 (Int32.toInt_inj.mp q.symm)
            · exact fun q => c49 (Int32.toInt_inj.mp q.symm)
            · exact fun q => c53 (Int32.toInt_inj.mp q.symm)
          refine zw_run 2 (pc' := 130) (loc' := [some (.ref 136), some (.int c), some (.int (bI sa))]) (stk' := [.int 113, .ref 136]) (fun _ _ _ => rfl) ?_
          obtain ⟨u57, hu57, H⟩ := oq_bind H
          refine zw_callf (As := [.ref 136, .int 113]) (rest := []) (c_164 hu 113 hu57 (d := d + 0)) rfl rfl rfl rfl ?_
          show zw fm sx (d + 1) 166 133 [some (.ref 136), some (.int c), some (.int (bI sa))] [] u57 Q
          refine zw_run 2 (pc' := 136) (loc' := [some (.ref 136), some (.int c), some (.int (bI sa))]) (stk' := [.int 117, .ref 136]) (fun _ _ _ => rfl) ?_
          obtain ⟨u58, hu58, H⟩ := oq_bind H
          refine zw_callf (As := [.ref 136, .int 117]) (rest := []) (c_164 hu 117 hu58 (d := d + 0)) rfl rfl rfl rfl ?_
          show zw fm sx (d + 1) 166 139 [some (.ref 136), some (.int c), some (.int (bI sa))] [] u58 Q
          refine zw_run 2 (pc' := 142) (loc' := [some (.ref 136), some (.int c), some (.int (bI sa))]) (stk' := [.int 111, .ref 136]) (fun _ _ _ => rfl) ?_
          obtain ⟨u59, hu59, H⟩ := oq_bind H
          refine zw_callf (As := [.ref 136, .int 111]) (rest := []) (c_164 hu 111 hu59 (d := d + 0)) rfl rfl rfl rfl ?_
          show zw fm sx (d + 1) 166 145 [some (.ref 136), some (.int c), some (.int (bI sa))] [] u59 Q
          refine zw_run 2 (pc' := 148) (loc' := [some (.ref 136), some (.int c), some (.int (bI sa))]) (stk' := [.int 116, .ref 136]) (fun _ _ _ => rfl) ?_
          obtain ⟨u60, hu60, H⟩ := oq_bind H
          refine zw_callf (As := [.ref 136, .int 116]) (rest := []) (c_164 hu 116 hu60 (d := d + 0)) rfl rfl rfl rfl ?_
          show zw fm sx (d + 1) 166 151 [some (.ref 136), some (.int c), some (.int (bI sa))] [] u60 Q
          refine zw_run 2 (pc' := 154) (loc' := [some (.ref 136), some (.int c), some (.int (bI sa))]) (stk' := [.int 59, .ref 136]) (fun _ _ _ => rfl) ?_
          obtain ⟨u61, hu61, H⟩ := oq_bind H
          refine zw_callf (As := [.ref 136, .int 59]) (rest := []) (c_164 hu 59 hu61 (d := d + 0)) rfl rfl rfl rfl ?_
          show zw fm sx (d + 1) 166 157 [some (.ref 136), some (.int c), some (.int (bI sa))] [] u61 Q
          refine zw_retv rfl rfl ?_
          have H := oq_some H
          exact H
        · rw [if_neg c42] at H
          refine zw_run 2 (pc' := 25) (loc' := [some (.ref 136), some (.int c), some (.int (bI sa))]) (stk' := [.int 34, .int c]) (fun _ _ _ => rfl) ?_
          refine zw_br (c := c = 34) (t1 := 34) (t2 := 28) (loc' := [some (.ref 136), some (.int c), some (.int (bI sa))]) (stk' := []) (fun _ _ _ => rfl) (fun c62 => ?_) (fun c62 => ?_)
          · rw [if_pos c62] at H
            refine zw_run 2 (pc' := 37) (loc' := [some (.ref 136), some (.int c), some (.int (bI sa))]) (stk' := [.int 38, .ref 136]) (fun _ _ _ => rfl) ?_
            obtain ⟨u63, hu63, H⟩ := oq_bind H
            refine zw_callf (As := [.ref 136, .int 38]) (rest := []) (c_164 hu 38 hu63 (d := d + 0)) rfl rfl rfl rfl ?_
            show zw fm sx (d + 1) 166 40 [some (.ref 136), some (.int c), some (.int (bI sa))] [] u63 Q
            refine zw_run 1 (pc' := 41) (loc' := [some (.ref 136), some (.int c), some (.int (bI sa))]) (stk' := [.int c]) (fun _ _ _ => rfl) ?_
            by_cases c64 : c = 38
            · rw [if_pos c64] at H
              refine zw_run 1 (pc' := 76) (loc' := [some (.ref 136), some (.int c), some (.int (bI sa))]) (stk' := []) (fun _ _ _ => by first | (rw [c64]; rfl) | (unfold zv at c64; rw [c64]; rfl)) ?_
              refine zw_run 2 (pc' := 79) (loc' := [some (.ref 136), some (.int c), some (.int (bI sa))]) (stk' := [.int 97, .ref 136]) (fun _ _ _ => rfl) ?_
              obtain ⟨u65, hu65, H⟩ := oq_bind H
              refine zw_callf (As := [.ref 136, .int 97]) (rest := []) (c_164 hu 97 hu65 (d := d + 0)) rfl rfl rfl rfl ?_
              show zw fm sx (d + 1) 166 82 [some (.ref 136), some (.int c), some (.int (bI sa))] [] u65 Q
              refine zw_run 2 (pc' := 85) (loc' := [some (.ref 136), some (.int c), some (.int (bI sa))]) (stk' := [.int 109, .ref 136]) (fun _ _ _ => rfl) ?_
              obtain ⟨u66, hu66, H⟩ := oq_bind H
              refine zw_callf (As := [.ref 136, .int 109]) (rest := []) (c_164 hu 109 hu66 (d := d + 0)) rfl rfl rfl rfl ?_
              show zw fm sx (d + 1) 166 88 [some (.ref 136), some (.int c), some (.int (bI sa))] [] u66 Q
              refine zw_run 2 (pc' := 91) (loc' := [some (.ref 136), some (.int c), some (.int (bI sa))]) (stk' := [.int 112, .ref 136]) (fun _ _ _ => rfl) ?_
              obtain ⟨u67, hu67, H⟩ := oq_bind H
              refine zw_callf (As := [.ref 136, .int 112]) (rest := []) (c_164 hu 112 hu67 (d := d + 0)) rfl rfl rfl rfl ?_
              show zw fm sx (d + 1) 166 94 [some (.ref 136), some (.int c), some (.int (bI sa))] [] u67 Q
              refine zw_run 3 (pc' := 154) (loc' := [some (.ref 136), some (.int c), some (.int (bI sa))]) (stk' := [.int 59, .ref 136]) (fun _ _ _ => rfl) ?_
              obtain ⟨u68, hu68, H⟩ := oq_bind H
              refine zw_callf (As := [.ref 136, .int 59]) (rest := []) (c_164 hu 59 hu68 (d := d + 0)) rfl rfl rfl rfl ?_
              show zw fm sx (d + 1) 166 157 [some (.ref 136), some (.int c), some (.int (bI sa))] [] u68 Q
              refine zw_retv rfl rfl ?_
              have H := oq_some H
              exact H
            rw [if_neg c64] at H
            by_cases c69 : c = 60
            · rw [if_pos c69] at H
              refine zw_run 1 (pc' := 97) (loc' := [some (.ref 136), some (.int c), some (.int (bI sa))]) (stk' := []) (fun _ _ _ => by first | (rw [c69]; rfl) | (unfold zv at c69; rw [c69]; rfl)) ?_
              refine zw_run 2 (pc' := 100) (loc' := [some (.ref 136), some (.int c), some (.int (bI sa))]) (stk' := [.int 108, .ref 136]) (fun _ _ _ => rfl) ?_
              obtain ⟨u70, hu70, H⟩ := oq_bind H
              refine zw_callf (As := [.ref 136, .int 108]) (rest := []) (c_164 hu 108 hu70 (d := d + 0)) rfl rfl rfl rfl ?_
              show zw fm sx (d + 1) 166 103 [some (.ref 136), some (.int c), some (.int (bI sa))] [] u70 Q
              refine zw_run 2 (pc' := 106) (loc' := [some (.ref 136), some (.int c), some (.int (bI sa))]) (stk' := [.int 116, .ref 136]) (fun _ _ _ => rfl) ?_
              obtain ⟨u71, hu71, H⟩ := oq_bind H
              refine zw_callf (As := [.ref 136, .int 116]) (rest := []) (c_164 hu 116 hu71 (d := d + 0)) rfl rfl rfl rfl ?_
              show zw fm sx (d + 1) 166 109 [some (.ref 136), some (.int c), some (.int (bI sa))] [] u71 Q
              refine zw_run 3 (pc' := 154) (loc' := [some (.ref 136), some (.int c), some (.int (bI sa))]) (stk' := [.int 59, .ref 136]) (fun _ _ _ => rfl) ?_
              obtain ⟨u72, hu72, H⟩ := oq_bind H
              refine zw_callf (As := [.ref 136, .int 59]) (rest := []) (c_164 hu 59 hu72 (d := d + 0)) rfl rfl rfl rfl ?_
              show zw fm sx (d + 1) 166 157 [some (.ref 136), some (.int c), some (.int (bI sa))] [] u72 Q
              refine zw_retv rfl rfl ?_
              have H := oq_some H
              exact H
            rw [if_neg c69] at H
            by_cases c73 : c = 62
            · rw [if_pos c73] at H
              refine zw_run 1 (pc' := 112) (loc' := [some (.ref 136), some (.int c), some (.int (bI sa))]) (stk' := []) (fun _ _ _ => by first | (rw [c73]; rfl) | (unfold zv at c73; rw [c73]; rfl)) ?_
              refine zw_run 2 (pc' := 115) (loc' := [some (.ref 136), some (.int c), some (.int (bI sa))]) (stk' := [.int 103, .ref 136]) (fun _ _ _ => rfl) ?_
              obtain ⟨u74, hu74, H⟩ := oq_bind H
              refine zw_callf (As := [.ref 136, .int 103]) (rest := []) (c_164 hu 103 hu74 (d := d + 0)) rfl rfl rfl rfl ?_
              show zw fm sx (d + 1) 166 118 [some (.ref 136), some (.int c), some (.int (bI sa))] [] u74 Q
              refine zw_run 2 (pc' := 121) (loc' := [some (.ref 136), some (.int c), some (.int (bI sa))]) (stk' := [.int 116, .ref 136]) (fun _ _ _ => rfl) ?_
              obtain ⟨u75, hu75, H⟩ := oq_bind H
              refine zw_callf (As := [.ref 136, .int 116]) (rest := []) (c_164 hu 116 hu75 (d := d + 0)) rfl rfl rfl rfl ?_
              show zw fm sx (d + 1) 166 124 [some (.ref 136), some (.int c), some (.int (bI sa))] [] u75 Q
              refine zw_run 3 (pc' := 154) (loc' := [some (.ref 136), some (.int c), some (.int (bI sa))]) (stk' := [.int 59, .ref 136]) (fun _ _ _ => rfl) ?_
              obtain ⟨u76, hu76, H⟩ := oq_bind H
              refine zw_callf (As := [.ref 136, .int 59]) (rest := []) (c_164 hu 59 hu76 (d := d + 0)) rfl rfl rfl rfl ?_
              show zw fm sx (d + 1) 166 157 [some (.ref 136), some (.int c), some (.int (bI sa))] [] u76 Q
              refine zw_retv rfl rfl ?_
              have H := oq_some H
              exact H
            rw [if_neg c73] at H
            refine zw_lk (pc' := 127) (loc' := [some (.ref 136), some (.int c), some (.int (bI sa))]) (stk' := []) rfl (am_lkd (fun q hq => ?_)) rfl ?_
            · simp only [List.mem_cons, List.not_mem_nil, or_false] at hq
              rcases hq with rfl | rfl | rfl
              · exact fun q => c64 (Int32.toInt_inj.mp q.symm)
              · exact fun q => c69 (Int32.toInt_inj.mp q.symm)
              · exact fun q => c73 (Int32.toInt_inj.mp q.symm)
            refine zw_run 2 (pc' := 130) (loc' := [some (.ref 136), some (.int c), some (.int (bI sa))]) (stk' := [.int 113, .ref 136]) (fun _ _ _ => rfl) ?_
            obtain ⟨u77, hu77, H⟩ := oq_bind H
            refine zw_callf (As := [.ref 136, .int 113]) (rest := []) (c_164 hu 113 hu77 (d := d + 0)) rfl rfl rfl rfl ?_
            show zw fm sx (d + 1) 166 133 [some (.ref 136), some (.int c), some (.int (bI sa))] [] u77 Q
            refine zw_run 2 (pc' := 136) (loc' := [some (.ref 136), some (.int c), some (.int (bI sa))]) (stk' := [.int 117, .ref 136]) (fun _ _ _ => rfl) ?_
            obtain ⟨u78, hu78, H⟩ := oq_bind H
            refine zw_callf (As := [.ref 136, .int 117]) (rest := []) (c_164 hu 117 hu78 (d := d + 0)) rfl rfl rfl rfl ?_
            show zw fm sx (d + 1) 166 139 [some (.ref 136), some (.int c), some (.int (bI sa))] [] u78 Q
            refine zw_run 2 (pc' := 142) (loc' := [some (.ref 136), some (.int c), some (.int (bI sa))]) (stk' := [.int 111, .ref 136]) (fun _ _ _ => rfl) ?_
            obtain ⟨u79, hu79, H⟩ := oq_bind H
            refine zw_callf (As := [.ref 136, .int 111]) (rest := []) (c_164 hu 111 hu79 (d := d + 0)) rfl rfl rfl rfl ?_
            show zw fm sx (d + 1) 166 145 [some (.ref 136), some (.int c), some (.int (bI sa))] [] u79 Q
            refine zw_run 2 (pc' := 148) (loc' := [some (.ref 136), some (.int c), some (.int (bI sa))]) (stk' := [.int 116, .ref 136]) (fun _ _ _ => rfl) ?_
            obtain ⟨u80, hu80, H⟩ := oq_bind H
            refine zw_callf (As := [.ref 136, .int 116]) (rest := []) (c_164 hu 116 hu80 (d := d + 0)) rfl rfl rfl rfl ?_
            show zw fm sx (d + 1) 166 151 [some (.ref 136), some (.int c), some (.int (bI sa))] [] u80 Q
            refine zw_run 2 (pc' := 154) (loc' := [some (.ref 136), some (.int c), some (.int (bI sa))]) (stk' := [.int 59, .ref 136]) (fun _ _ _ => rfl) ?_
            obtain ⟨u81, hu81, H⟩ := oq_bind H
            refine zw_callf (As := [.ref 136, .int 59]) (rest := []) (c_164 hu 59 hu81 (d := d + 0)) rfl rfl rfl rfl ?_
            show zw fm sx (d + 1) 166 157 [some (.ref 136), some (.int c), some (.int (bI sa))] [] u81 Q
            refine zw_retv rfl rfl ?_
            have H := oq_some H
            exact H
          · rw [if_neg c62] at H
            refine zw_run 2 (pc' := 30) (loc' := [some (.ref 136), some (.int c), some (.int (bI sa))]) (stk' := [.int c, .ref 136]) (fun _ _ _ => rfl) ?_
            obtain ⟨u82, hu82, H⟩ := oq_bind H
            refine zw_callf (As := [.ref 136, .int c]) (rest := []) (c_164 hu c hu82 (d := d + 0)) rfl rfl rfl rfl ?_
            show zw fm sx (d + 1) 166 33 [some (.ref 136), some (.int c), some (.int (bI sa))] [] u82 Q
            refine zw_retv rfl rfl ?_
            have H := oq_some H
            exact H
  · rw [if_neg c1] at H
    refine zw_run 2 (pc' := 30) (loc' := [some (.ref 136), some (.int c), some (.int (bI sa))]) (stk' := [.int c, .ref 136]) (fun _ _ _ => rfl) ?_
    obtain ⟨u83, hu83, H⟩ := oq_bind H
    refine zw_callf (As := [.ref 136, .int c]) (rest := []) (c_164 hu c hu83 (d := d + 0)) rfl rfl rfl rfl ?_
    show zw fm sx (d + 1) 166 33 [some (.ref 136), some (.int c), some (.int (bI sa))] [] u83 Q
    refine zw_retv rfl rfl ?_
    have H := oq_some H
    exact H
theorem c_166 {fm : Value} {sx : Nat × (Nat → Int32)} {d : Nat} {Z : zr_Z} (hu : fm = .null ∨ ∃ q, fm = .ref q) (c : Int32) (sa : Bool) {x : zr_Z} (hx : o_166 Z c sa = some x) : zl fm sx (d + 2) 166 [.ref 136, .int c, .int (bI sa)] Z (fun r Z' => r = none ∧ Z' = x) :=
  zl_of (nL := 3) (loc0 := [some (.ref 136), some (.int c), some (.int (bI sa))]) rfl rfl rfl (t_166 hu c sa ⟨x, hx, rfl, rfl⟩)
/-- MarkInlinesModel.tellRow, its loop at 2 -/
def g_167_2 : Nat → zr_Z → Int32 → Int32 → Int32 → Option zr_Z
  | 0, _, _, _, _ => none
  | n + 1, Z, a, m, x3 => (if m ≤ x3 then some Z else (if inq 142 (a + x3) then (Option.bind (o_166 Z (zv Z 142 (a + x3)) true) fun u3 => g_167_2 n u3 a m (x3 + 1)) else none))
set_option maxRecDepth 100000 in
set_option maxHeartbeats 4000000 in
theorem l_167_2 {fm : Value} {sx : Nat × (Nat → Int32)} {d : Nat} {Q : Option Value → zr_Z → Prop} (hu : fm = .null ∨ ∃ q, fm = .ref q) (a : Int32) (m : Int32) : ∀ (n : Nat) (Z : zr_Z) (x3 : Int32), oq (g_167_2 n Z a m x3) (fun x => Q none x) → zw fm sx (d + 2) 167 2 [some (.ref 136), some (.int a), some (.int m), some (.int x3)] [] Z Q := by
  intro n
  induction n with
  | zero => intro Z x3 H; exact absurd H oq_none
  | succ n ih =>
    intro Z x3 H
    unfold g_167_2 at H
    refine zw_run 2 (pc' := 4) (loc' := [some (.ref 136), some (.int a), some (.int m), some (.int x3)]) (stk' := [.int m, .int x3]) (fun _ _ _ => rfl) ?_
    refine zw_br (c := m ≤ x3) (t1 := 26) (t2 := 7) (loc' := [some (.ref 136), some (.int a), some (.int m), some (.int x3)]) (stk' := []) (fun _ _ _ => rfl) (fun c1 => ?_) (fun c1 => ?_)
    · rw [if_pos c1] at H
      refine zw_retv rfl rfl ?_
      have H := oq_some H
      exact H
    · rw [if_neg c1] at H
      refine zw_run 2 (pc' := 9) (loc' := [some (.ref 136), some (.int a), some (.int m), some (.int x3)]) (stk' := [.ref 136, .ref 136]) (fun _ _ _ => rfl) ?_
      refine zw_mget (v := .ref 142) rfl rfl ?_
      refine zw_run 3 (pc' := 15) (loc' := [some (.ref 136), some (.int a), some (.int m), some (.int x3)]) (stk' := [.int (a + x3), .ref 142, .ref 136]) (fun _ _ _ => rfl) ?_
      obtain ⟨b2, H⟩ := oq_ob H
      refine zw_iald (j := 142) rfl (by decide) (by decide) rfl b2 ?_
      refine zw_run 1 (pc' := 17) (loc' := [some (.ref 136), some (.int a), some (.int m), some (.int x3)]) (stk' := [.int 1, .int (zv Z 142 (a + x3)), .ref 136]) (fun _ _ _ => rfl) ?_
      obtain ⟨u3, hu3, H⟩ := oq_bind H
      refine zw_callf (As := [.ref 136, .int (zv Z 142 (a + x3)), .int 1]) (rest := []) (c_166 hu (zv Z 142 (a + x3)) true hu3 (d := d + 0)) rfl rfl rfl rfl ?_
      show zw fm sx (d + 2) 167 20 [some (.ref 136), some (.int a), some (.int m), some (.int x3)] [] u3 Q
      refine zw_run 2 (pc' := 2) (loc' := [some (.ref 136), some (.int a), some (.int m), some (.int (x3 + 1))]) (stk' := []) (fun _ _ _ => rfl) ?_
      exact ih u3 (x3 + 1) H
/-- MarkInlinesModel.tellRow -/
def o_167 (Z : zr_Z) (a : Int32) (m : Int32) : Option zr_Z := g_167_2 oF Z a m 0
set_option maxRecDepth 100000 in
set_option maxHeartbeats 4000000 in
theorem t_167 {fm : Value} {sx : Nat × (Nat → Int32)} {d : Nat} {Z : zr_Z} {Q : Option Value → zr_Z → Prop} (hu : fm = .null ∨ ∃ q, fm = .ref q) (a : Int32) (m : Int32) (H : oq (o_167 Z a m) (fun x => Q none x)) : zw fm sx (d + 2) 167 0 [some (.ref 136), some (.int a), some (.int m), none] [] Z Q := by
  unfold o_167 at H
  refine zw_run 2 (pc' := 2) (loc' := [some (.ref 136), some (.int a), some (.int m), some (.int 0)]) (stk' := []) (fun _ _ _ => rfl) ?_
  exact l_167_2 hu a m _ Z 0 H
theorem c_167 {fm : Value} {sx : Nat × (Nat → Int32)} {d : Nat} {Z : zr_Z} (hu : fm = .null ∨ ∃ q, fm = .ref q) (a : Int32) (m : Int32) {x : zr_Z} (hx : o_167 Z a m = some x) : zl fm sx (d + 3) 167 [.ref 136, .int a, .int m] Z (fun r Z' => r = none ∧ Z' = x) :=
  zl_of (nL := 4) (loc0 := [some (.ref 136), some (.int a), some (.int m), none]) rfl rfl rfl (t_167 hu a m ⟨x, hx, rfl, rfl⟩)
/-- MarkInlinesModel.beyond, its loop at 4 -/
def g_168_4 : Nat → zr_Z → Int32 → Int32 → Option Int32
  | 0, _, _, _ => none
  | n + 1, Z, k, x2 => (if (zf Z 45) ≤ x2 then some x2 else (if inq 171 x2 then (if inq 171 k then (if (zv Z 171 x2) ≤ (zv Z 171 k) then some x2 else g_168_4 n Z k (x2 + 1)) else none) else none))
set_option maxRecDepth 100000 in
set_option maxHeartbeats 4000000 in
theorem l_168_4 {fm : Value} {sx : Nat × (Nat → Int32)} {d : Nat} {Q : Option Value → zr_Z → Prop} (hu : fm = .null ∨ ∃ q, fm = .ref q) (k : Int32) : ∀ (n : Nat) (Z : zr_Z) (x2 : Int32), oq (g_168_4 n Z k x2) (fun x => Q (some (.int x)) Z) → zw fm sx (d + 0) 168 4 [some (.ref 136), some (.int k), some (.int x2)] [] Z Q := by
  intro n
  induction n with
  | zero => intro Z x2 H; exact absurd H oq_none
  | succ n ih =>
    intro Z x2 H
    unfold g_168_4 at H
    refine zw_run 2 (pc' := 6) (loc' := [some (.ref 136), some (.int k), some (.int x2)]) (stk' := [.ref 136, .int x2]) (fun _ _ _ => rfl) ?_
    refine zw_mget (v := .int (zf Z 45)) rfl rfl ?_
    refine zw_br (c := (zf Z 45) ≤ x2) (t1 := 33) (t2 := 12) (loc' := [some (.ref 136), some (.int k), some (.int x2)]) (stk' := []) (fun _ _ _ => rfl) (fun c1 => ?_) (fun c1 => ?_)
    · rw [if_pos c1] at H
      refine zw_run 1 (pc' := 34) (loc' := [some (.ref 136), some (.int k), some (.int x2)]) (stk' := [.int x2]) (fun _ _ _ => rfl) ?_
      refine zw_reti (i := .nop) rfl rfl ?_
      have H := oq_some H
      exact H
    · rw [if_neg c1] at H
      refine zw_run 1 (pc' := 13) (loc' := [some (.ref 136), some (.int k), some (.int x2)]) (stk' := [.ref 136]) (fun _ _ _ => rfl) ?_
      refine zw_mget (v := .ref 171) rfl rfl ?_
      refine zw_run 1 (pc' := 17) (loc' := [some (.ref 136), some (.int k), some (.int x2)]) (stk' := [.int x2, .ref 171]) (fun _ _ _ => rfl) ?_
      obtain ⟨b2, H⟩ := oq_ob H
      refine zw_iald (j := 171) rfl (by decide) (by decide) rfl b2 ?_
      refine zw_run 1 (pc' := 19) (loc' := [some (.ref 136), some (.int k), some (.int x2)]) (stk' := [.ref 136, .int (zv Z 171 x2)]) (fun _ _ _ => rfl) ?_
      refine zw_mget (v := .ref 171) rfl rfl ?_
      refine zw_run 1 (pc' := 23) (loc' := [some (.ref 136), some (.int k), some (.int x2)]) (stk' := [.int k, .ref 171, .int (zv Z 171 x2)]) (fun _ _ _ => rfl) ?_
      obtain ⟨b3, H⟩ := oq_ob H
      refine zw_iald (j := 171) rfl (by decide) (by decide) rfl b3 ?_
      refine zw_br (c := (zv Z 171 x2) ≤ (zv Z 171 k)) (t1 := 33) (t2 := 27) (loc' := [some (.ref 136), some (.int k), some (.int x2)]) (stk' := []) (fun _ _ _ => rfl) (fun c4 => ?_) (fun c4 => ?_)
      · rw [if_pos c4] at H
        refine zw_run 1 (pc' := 34) (loc' := [some (.ref 136), some (.int k), some (.int x2)]) (stk' := [.int x2]) (fun _ _ _ => rfl) ?_
        refine zw_reti (i := .nop) rfl rfl ?_
        have H := oq_some H
        exact H
      · rw [if_neg c4] at H
        refine zw_run 2 (pc' := 4) (loc' := [some (.ref 136), some (.int k), some (.int (x2 + 1))]) (stk' := []) (fun _ _ _ => rfl) ?_
        exact ih Z (x2 + 1) H
/-- MarkInlinesModel.beyond -/
def o_168 (Z : zr_Z) (k : Int32) : Option Int32 := g_168_4 oF Z k (k + 1)
set_option maxRecDepth 100000 in
set_option maxHeartbeats 4000000 in
theorem t_168 {fm : Value} {sx : Nat × (Nat → Int32)} {d : Nat} {Z : zr_Z} {Q : Option Value → zr_Z → Prop} (hu : fm = .null ∨ ∃ q, fm = .ref q) (k : Int32) (H : oq (o_168 Z k) (fun x => Q (some (.int x)) Z)) : zw fm sx (d + 0) 168 0 [some (.ref 136), some (.int k), none] [] Z Q := by
  unfold o_168 at H
  refine zw_run 4 (pc' := 4) (loc' := [some (.ref 136), some (.int k), some (.int (k + 1))]) (stk' := []) (fun _ _ _ => rfl) ?_
  exact l_168_4 hu k _ Z (k + 1) H
theorem c_168 {fm : Value} {sx : Nat × (Nat → Int32)} {d : Nat} {Z : zr_Z} (hu : fm = .null ∨ ∃ q, fm = .ref q) (k : Int32) {x : Int32} (hx : o_168 Z k = some x) : zl fm sx (d + 1) 168 [.ref 136, .int k] Z (fun r Z' => r = some (.int x) ∧ Z' = Z) :=
  zl_of (nL := 3) (loc0 := [some (.ref 136), some (.int k), none]) rfl rfl rfl (t_168 hu k ⟨x, hx, rfl, rfl⟩)
/-- MarkInlinesModel.tellPlain, its loop at 40 -/
def g_169_40 : Nat → zr_Z → Int32 → Int32 → Bool → Int32 → Int32 → (zr_Z → Int32 → Option zr_Z) → Option zr_Z
  | 0, _, _, _, _, _, _, _ => none
  | n + 1, Z, a, b, sa, x4, x5, K3 => (if inq 167 x4 then (if (zv Z 167 x4) ≤ x5 then K3 Z (x4 + 1) else (if inq 164 x4 then (if (zv Z 164 x4) = 0 then (if inq 166 x4 then (if inq 142 ((zv Z 166 x4) + x5) then (Option.bind (o_166 Z (zv Z 142 ((zv Z 166 x4) + x5)) sa) fun u7 => g_169_40 n u7 a b sa x4 (x5 + 1) K3) else none) else none) else (if inq 164 x4 then (if ¬ (zv Z 164 x4) = 3 then K3 Z (x4 + 1) else (if inq 166 x4 then (if inq 142 ((zv Z 166 x4) + x5) then (Option.bind (o_166 Z (zv Z 142 ((zv Z 166 x4) + x5)) sa) fun u12 => g_169_40 n u12 a b sa x4 (x5 + 1) K3) else none) else none)) else none)) else none)) else none)
set_option maxRecDepth 100000 in
set_option maxHeartbeats 4000000 in
theorem l_169_40 {fm : Value} {sx : Nat × (Nat → Int32)} {d : Nat} {Q : Option Value → zr_Z → Prop} (hu : fm = .null ∨ ∃ q, fm = .ref q) (a : Int32) (b : Int32) (sa : Bool) (K3 : zr_Z → Int32 → Option zr_Z) (HK3 : ∀ (Z : zr_Z) (x4 : Int32), oq (K3 Z x4) (fun x => Q none x) → zw fm sx (d + 2) 169 3 [some (.ref 136), none, some (.int b), some (.int (bI sa)), some (.int x4), none] [] Z Q) : ∀ (n : Nat) (Z : zr_Z) (x4 : Int32) (x5 : Int32), oq (g_169_40 n Z a b sa x4 x5 K3) (fun x => Q none x) → zw fm sx (d + 2) 169 40 [some (.ref 136), none, some (.int b), some (.int (bI sa)), some (.int x4), some (.int x5)] [] Z Q := by
  intro n
  induction n with
  | zero => intro Z x4 x5 H; exact absurd H oq_none
  | succ n ih =>
    intro Z x4 x5 H
    unfold g_169_40 at H
    refine zw_run 2 (pc' := 43) (loc' := [some (.ref 136), none, some (.int b), some (.int (bI sa)), some (.int x4), some (.int x5)]) (stk' := [.ref 136, .int x5]) (fun _ _ _ => rfl) ?_
    refine zw_mget (v := .ref 167) rfl rfl ?_
    refine zw_run 1 (pc' := 48) (loc' := [some (.ref 136), none, some (.int b), some (.int (bI sa)), some (.int x4), some (.int x5)]) (stk' := [.int x4, .ref 167, .int x5]) (fun _ _ _ => rfl) ?_
    obtain ⟨b1, H⟩ := oq_ob H
    refine zw_iald (j := 167) rfl (by decide) (by decide) rfl b1 ?_
    refine zw_br (c := (zv Z 167 x4) ≤ x5) (t1 := 99) (t2 := 52) (loc' := [some (.ref 136), none, some (.int b), some (.int (bI sa)), some (.int x4), some (.int x5)]) (stk' := []) (fun _ _ _ => rfl) (fun c2 => ?_) (fun c2 => ?_)
    · rw [if_pos c2] at H
      refine zw_run 2 (pc' := 3) (loc' := [some (.ref 136), none, some (.int b), some (.int (bI sa)), some (.int (x4 + 1)), some (.int x5)]) (stk' := []) (fun _ _ _ => rfl) ?_
      refine zw_fgt [true, false, true, true, true, false] rfl ?_
      exact HK3 Z (x4 + 1) H
    · rw [if_neg c2] at H
      refine zw_run 1 (pc' := 53) (loc' := [some (.ref 136), none, some (.int b), some (.int (bI sa)), some (.int x4), some (.int x5)]) (stk' := [.ref 136]) (fun _ _ _ => rfl) ?_
      refine zw_mget (v := .ref 164) rfl rfl ?_
      refine zw_run 1 (pc' := 58) (loc' := [some (.ref 136), none, some (.int b), some (.int (bI sa)), some (.int x4), some (.int x5)]) (stk' := [.int x4, .ref 164]) (fun _ _ _ => rfl) ?_
      obtain ⟨b3, H⟩ := oq_ob H
      refine zw_iald (j := 164) rfl (by decide) (by decide) rfl b3 ?_
      refine zw_br (c := (zv Z 164 x4) = 0) (t1 := 73) (t2 := 62) (loc' := [some (.ref 136), none, some (.int b), some (.int (bI sa)), some (.int x4), some (.int x5)]) (stk' := []) (fun _ _ _ => rfl) (fun c4 => ?_) (fun c4 => ?_)
      · rw [if_pos c4] at H
        refine zw_run 2 (pc' := 75) (loc' := [some (.ref 136), none, some (.int b), some (.int (bI sa)), some (.int x4), some (.int x5)]) (stk' := [.ref 136, .ref 136]) (fun _ _ _ => rfl) ?_
        refine zw_mget (v := .ref 142) rfl rfl ?_
        refine zw_run 1 (pc' := 79) (loc' := [some (.ref 136), none, some (.int b), some (.int (bI sa)), some (.int x4), some (.int x5)]) (stk' := [.ref 136, .ref 142, .ref 136]) (fun _ _ _ => rfl) ?_
        refine zw_mget (v := .ref 166) rfl rfl ?_
        refine zw_run 1 (pc' := 84) (loc' := [some (.ref 136), none, some (.int b), some (.int (bI sa)), some (.int x4), some (.int x5)]) (stk' := [.int x4, .ref 166, .ref 142, .ref 136]) (fun _ _ _ => rfl) ?_
        obtain ⟨b5, H⟩ := oq_ob H
        refine zw_iald (j := 166) rfl (by decide) (by decide) rfl b5 ?_
        refine zw_run 2 (pc' := 88) (loc' := [some (.ref 136), none, some (.int b), some (.int (bI sa)), some (.int x4), some (.int x5)]) (stk' := [.int ((zv Z 166 x4) + x5), .ref 142, .ref 136]) (fun _ _ _ => rfl) ?_
        obtain ⟨b6, H⟩ := oq_ob H
        refine zw_iald (j := 142) rfl (by decide) (by decide) rfl b6 ?_
        refine zw_run 1 (pc' := 90) (loc' := [some (.ref 136), none, some (.int b), some (.int (bI sa)), some (.int x4), some (.int x5)]) (stk' := [.int (bI sa), .int (zv Z 142 ((zv Z 166 x4) + x5)), .ref 136]) (fun _ _ _ => rfl) ?_
        obtain ⟨u7, hu7, H⟩ := oq_bind H
        refine zw_callf (As := [.ref 136, .int (zv Z 142 ((zv Z 166 x4) + x5)), .int (bI sa)]) (rest := []) (c_166 hu (zv Z 142 ((zv Z 166 x4) + x5)) sa hu7 (d := d + 0)) rfl rfl rfl rfl ?_
        show zw fm sx (d + 2) 169 93 [some (.ref 136), none, some (.int b), some (.int (bI sa)), some (.int x4), some (.int x5)] [] u7 Q
        refine zw_run 2 (pc' := 40) (loc' := [some (.ref 136), none, some (.int b), some (.int (bI sa)), some (.int x4), some (.int (x5 + 1))]) (stk' := []) (fun _ _ _ => rfl) ?_
        exact ih u7 x4 (x5 + 1) H
      · rw [if_neg c4] at H
        refine zw_run 1 (pc' := 63) (loc' := [some (.ref 136), none, some (.int b), some (.int (bI sa)), some (.int x4), some (.int x5)]) (stk' := [.ref 136]) (fun _ _ _ => rfl) ?_
        refine zw_mget (v := .ref 164) rfl rfl ?_
        refine zw_run 1 (pc' := 68) (loc' := [some (.ref 136), none, some (.int b), some (.int (bI sa)), some (.int x4), some (.int x5)]) (stk' := [.int x4, .ref 164]) (fun _ _ _ => rfl) ?_
        obtain ⟨b8, H⟩ := oq_ob H
        refine zw_iald (j := 164) rfl (by decide) (by decide) rfl b8 ?_
        refine zw_run 1 (pc' := 70) (loc' := [some (.ref 136), none, some (.int b), some (.int (bI sa)), some (.int x4), some (.int x5)]) (stk' := [.int 3, .int (zv Z 164 x4)]) (fun _ _ _ => rfl) ?_
        refine zw_br (c := ¬ (zv Z 164 x4) = 3) (t1 := 99) (t2 := 73) (loc' := [some (.ref 136), none, some (.int b), some (.int (bI sa)), some (.int x4), some (.int x5)]) (stk' := []) (fun _ _ _ => rfl) (fun c9 => ?_) (fun c9 => ?_)
        · rw [if_pos c9] at H
          refine zw_run 2 (pc' := 3) (loc' := [some (.ref 136), none, some (.int b), some (.int (bI sa)), some (.int (x4 + 1)), some (.int x5)]) (stk' := []) (fun _ _ _ => rfl) ?_
          refine zw_fgt [true, false, true, true, true, false] rfl ?_
          exact HK3 Z (x4 + 1) H
        · rw [if_neg c9] at H
          refine zw_run 2 (pc' := 75) (loc' := [some (.ref 136), none, some (.int b), some (.int (bI sa)), some (.int x4), some (.int x5)]) (stk' := [.ref 136, .ref 136]) (fun _ _ _ => rfl) ?_
          refine zw_mget (v := .ref 142) rfl rfl ?_
          refine zw_run 1 (pc' := 79) (loc' := [some (.ref 136), none, some (.int b), some (.int (bI sa)), some (.int x4), some (.int x5)]) (stk' := [.ref 136, .ref 142, .ref 136]) (fun _ _ _ => rfl) ?_
          refine zw_mget (v := .ref 166) rfl rfl ?_
          refine zw_run 1 (pc' := 84) (loc' := [some (.ref 136), none, some (.int b), some (.int (bI sa)), some (.int x4), some (.int x5)]) (stk' := [.int x4, .ref 166, .ref 142, .ref 136]) (fun _ _ _ => rfl) ?_
          obtain ⟨b10, H⟩ := oq_ob H
          refine zw_iald (j := 166) rfl (by decide) (by decide) rfl b10 ?_
          refine zw_run 2 (pc' := 88) (loc' := [some (.ref 136), none, some (.int b), some (.int (bI sa)), some (.int x4), some (.int x5)]) (stk' := [.int ((zv Z 166 x4) + x5), .ref 142, .ref 136]) (fun _ _ _ => rfl) ?_
          obtain ⟨b11, H⟩ := oq_ob H
          refine zw_iald (j := 142) rfl (by decide) (by decide) rfl b11 ?_
          refine zw_run 1 (pc' := 90) (loc' := [some (.ref 136), none, some (.int b), some (.int (bI sa)), some (.int x4), some (.int x5)]) (stk' := [.int (bI sa), .int (zv Z 142 ((zv Z 166 x4) + x5)), .ref 136]) (fun _ _ _ => rfl) ?_
          obtain ⟨u12, hu12, H⟩ := oq_bind H
          refine zw_callf (As := [.ref 136, .int (zv Z 142 ((zv Z 166 x4) + x5)), .int (bI sa)]) (rest := []) (c_166 hu (zv Z 142 ((zv Z 166 x4) + x5)) sa hu12 (d := d + 0)) rfl rfl rfl rfl ?_
          show zw fm sx (d + 2) 169 93 [some (.ref 136), none, some (.int b), some (.int (bI sa)), some (.int x4), some (.int x5)] [] u12 Q
          refine zw_run 2 (pc' := 40) (loc' := [some (.ref 136), none, some (.int b), some (.int (bI sa)), some (.int x4), some (.int (x5 + 1))]) (stk' := []) (fun _ _ _ => rfl) ?_
          exact ih u12 x4 (x5 + 1) H
/-- MarkInlinesModel.tellPlain, its loop at 3 -/
def g_169_3 : Nat → zr_Z → Int32 → Int32 → Bool → Int32 → Option zr_Z
  | 0, _, _, _, _, _ => none
  | n + 1, Z, a, b, sa, x4 => (if b ≤ x4 then some Z else (if inq 164 x4 then (if (zv Z 164 x4) = 1 then (Option.bind (o_164 Z 32) fun u4 => g_169_40 oF u4 a b sa x4 0 (fun Z x4 => g_169_3 n Z a b sa x4)) else (if inq 164 x4 then (if ¬ (zv Z 164 x4) = 2 then g_169_40 oF Z a b sa x4 0 (fun Z x4 => g_169_3 n Z a b sa x4) else (Option.bind (o_164 Z 32) fun u7 => g_169_40 oF u7 a b sa x4 0 (fun Z x4 => g_169_3 n Z a b sa x4))) else none)) else none))
set_option maxRecDepth 100000 in
set_option maxHeartbeats 4000000 in
theorem l_169_3 {fm : Value} {sx : Nat × (Nat → Int32)} {d : Nat} {Q : Option Value → zr_Z → Prop} (hu : fm = .null ∨ ∃ q, fm = .ref q) (a : Int32) (b : Int32) (sa : Bool) : ∀ (n : Nat) (Z : zr_Z) (x4 : Int32), oq (g_169_3 n Z a b sa x4) (fun x => Q none x) → zw fm sx (d + 2) 169 3 [some (.ref 136), none, some (.int b), some (.int (bI sa)), some (.int x4), none] [] Z Q := by
  intro n
  induction n with
  | zero => intro Z x4 H; exact absurd H oq_none
  | succ n ih =>
    intro Z x4 H
    unfold g_169_3 at H
    refine zw_run 2 (pc' := 6) (loc' := [some (.ref 136), none, some (.int b), some (.int (bI sa)), some (.int x4), none]) (stk' := [.int b, .int x4]) (fun _ _ _ => rfl) ?_
    refine zw_br (c := b ≤ x4) (t1 := 105) (t2 := 9) (loc' := [some (.ref 136), none, some (.int b), some (.int (bI sa)), some (.int x4), none]) (stk' := []) (fun _ _ _ => rfl) (fun c1 => ?_) (fun c1 => ?_)
    · rw [if_pos c1] at H
      refine zw_retv rfl rfl ?_
      have H := oq_some H
      exact H
    · rw [if_neg c1] at H
      refine zw_run 1 (pc' := 10) (loc' := [some (.ref 136), none, some (.int b), some (.int (bI sa)), some (.int x4), none]) (stk' := [.ref 136]) (fun _ _ _ => rfl) ?_
      refine zw_mget (v := .ref 164) rfl rfl ?_
      refine zw_run 1 (pc' := 15) (loc' := [some (.ref 136), none, some (.int b), some (.int (bI sa)), some (.int x4), none]) (stk' := [.int x4, .ref 164]) (fun _ _ _ => rfl) ?_
      obtain ⟨b2, H⟩ := oq_ob H
      refine zw_iald (j := 164) rfl (by decide) (by decide) rfl b2 ?_
      refine zw_run 1 (pc' := 17) (loc' := [some (.ref 136), none, some (.int b), some (.int (bI sa)), some (.int x4), none]) (stk' := [.int 1, .int (zv Z 164 x4)]) (fun _ _ _ => rfl) ?_
      refine zw_br (c := (zv Z 164 x4) = 1) (t1 := 31) (t2 := 20) (loc' := [some (.ref 136), none, some (.int b), some (.int (bI sa)), some (.int x4), none]) (stk' := []) (fun _ _ _ => rfl) (fun c3 => ?_) (fun c3 => ?_)
      · rw [if_pos c3] at H
        refine zw_run 2 (pc' := 34) (loc' := [some (.ref 136), none, some (.int b), some (.int (bI sa)), some (.int x4), none]) (stk' := [.int 32, .ref 136]) (fun _ _ _ => rfl) ?_
        obtain ⟨u4, hu4, H⟩ := oq_bind H
        refine zw_callf (As := [.ref 136, .int 32]) (rest := []) (c_164 hu 32 hu4 (d := d + 1)) rfl rfl rfl rfl ?_
        show zw fm sx (d + 2) 169 37 [some (.ref 136), none, some (.int b), some (.int (bI sa)), some (.int x4), none] [] u4 Q
        refine zw_run 2 (pc' := 40) (loc' := [some (.ref 136), none, some (.int b), some (.int (bI sa)), some (.int x4), some (.int 0)]) (stk' := []) (fun _ _ _ => rfl) ?_
        exact l_169_40 hu a b sa _ (fun Z x4 q => ih Z x4 q) _ u4 x4 0 H
      · rw [if_neg c3] at H
        refine zw_run 1 (pc' := 21) (loc' := [some (.ref 136), none, some (.int b), some (.int (bI sa)), some (.int x4), none]) (stk' := [.ref 136]) (fun _ _ _ => rfl) ?_
        refine zw_mget (v := .ref 164) rfl rfl ?_
        refine zw_run 1 (pc' := 26) (loc' := [some (.ref 136), none, some (.int b), some (.int (bI sa)), some (.int x4), none]) (stk' := [.int x4, .ref 164]) (fun _ _ _ => rfl) ?_
        obtain ⟨b5, H⟩ := oq_ob H
        refine zw_iald (j := 164) rfl (by decide) (by decide) rfl b5 ?_
        refine zw_run 1 (pc' := 28) (loc' := [some (.ref 136), none, some (.int b), some (.int (bI sa)), some (.int x4), none]) (stk' := [.int 2, .int (zv Z 164 x4)]) (fun _ _ _ => rfl) ?_
        refine zw_br (c := ¬ (zv Z 164 x4) = 2) (t1 := 37) (t2 := 31) (loc' := [some (.ref 136), none, some (.int b), some (.int (bI sa)), some (.int x4), none]) (stk' := []) (fun _ _ _ => rfl) (fun c6 => ?_) (fun c6 => ?_)
        · rw [if_pos c6] at H
          refine zw_run 2 (pc' := 40) (loc' := [some (.ref 136), none, some (.int b), some (.int (bI sa)), some (.int x4), some (.int 0)]) (stk' := []) (fun _ _ _ => rfl) ?_
          exact l_169_40 hu a b sa _ (fun Z x4 q => ih Z x4 q) _ Z x4 0 H
        · rw [if_neg c6] at H
          refine zw_run 2 (pc' := 34) (loc' := [some (.ref 136), none, some (.int b), some (.int (bI sa)), some (.int x4), none]) (stk' := [.int 32, .ref 136]) (fun _ _ _ => rfl) ?_
          obtain ⟨u7, hu7, H⟩ := oq_bind H
          refine zw_callf (As := [.ref 136, .int 32]) (rest := []) (c_164 hu 32 hu7 (d := d + 1)) rfl rfl rfl rfl ?_
          show zw fm sx (d + 2) 169 37 [some (.ref 136), none, some (.int b), some (.int (bI sa)), some (.int x4), none] [] u7 Q
          refine zw_run 2 (pc' := 40) (loc' := [some (.ref 136), none, some (.int b), some (.int (bI sa)), some (.int x4), some (.int 0)]) (stk' := []) (fun _ _ _ => rfl) ?_
          exact l_169_40 hu a b sa _ (fun Z x4 q => ih Z x4 q) _ u7 x4 0 H
/-- MarkInlinesModel.tellPlain -/
def o_169 (Z : zr_Z) (a : Int32) (b : Int32) (sa : Bool) : Option zr_Z := g_169_3 oF Z a b sa a
set_option maxRecDepth 100000 in
set_option maxHeartbeats 4000000 in
theorem t_169 {fm : Value} {sx : Nat × (Nat → Int32)} {d : Nat} {Z : zr_Z} {Q : Option Value → zr_Z → Prop} (hu : fm = .null ∨ ∃ q, fm = .ref q) (a : Int32) (b : Int32) (sa : Bool) (H : oq (o_169 Z a b sa) (fun x => Q none x)) : zw fm sx (d + 2) 169 0 [some (.ref 136), some (.int a), some (.int b), some (.int (bI sa)), none, none] [] Z Q := by
  unfold o_169 at H
  refine zw_run 2 (pc' := 3) (loc' := [some (.ref 136), some (.int a), some (.int b), some (.int (bI sa)), some (.int a), none]) (stk' := []) (fun _ _ _ => rfl) ?_
  refine zw_fgt [true, false, true, true, true, false] rfl ?_
  exact l_169_3 hu a b sa _ Z a H
theorem c_169 {fm : Value} {sx : Nat × (Nat → Int32)} {d : Nat} {Z : zr_Z} (hu : fm = .null ∨ ∃ q, fm = .ref q) (a : Int32) (b : Int32) (sa : Bool) {x : zr_Z} (hx : o_169 Z a b sa = some x) : zl fm sx (d + 3) 169 [.ref 136, .int a, .int b, .int (bI sa)] Z (fun r Z' => r = none ∧ Z' = x) :=
  zl_of (nL := 6) (loc0 := [some (.ref 136), some (.int a), some (.int b), some (.int (bI sa)), none, none]) rfl rfl rfl (t_169 hu a b sa ⟨x, hx, rfl, rfl⟩)
/-- MarkInlinesModel.plain -/
def o_170 (Z : zr_Z) (k : Int32) : Option (Int32 × zr_Z) := (if (bI (!(f_161 Z k))) ≤ 0 then (Option.bind (o_168 (zmf (zmf Z 0 (bI (!(f_161 Z k)))) 49 0) k) fun u5 => (Option.bind (o_169 (zmf (zmf Z 0 (bI (!(f_161 Z k)))) 49 0) k u5 false) fun u6 => some (zf u6 49, u6))) else some (0, zmf Z 0 (bI (!(f_161 Z k)))))
set_option maxRecDepth 100000 in
set_option maxHeartbeats 4000000 in
theorem t_170 {fm : Value} {sx : Nat × (Nat → Int32)} {d : Nat} {Z : zr_Z} {Q : Option Value → zr_Z → Prop} (hu : fm = .null ∨ ∃ q, fm = .ref q) (k : Int32) (H : oq (o_170 Z k) (fun x => Q (some (.int x.1)) x.2)) : zw fm sx (d + 3) 170 0 [some (.ref 136), some (.int k)] [] Z Q := by
  unfold o_170 at H
  refine zw_run 3 (pc' := 3) (loc' := [some (.ref 136), some (.int k)]) (stk' := [.int k, .ref 136, .ref 136]) (fun _ _ _ => rfl) ?_
  refine zw_callf (As := [.ref 136, .int k]) (rest := [.ref 136]) (c_161 k (d := d + 2)) rfl rfl rfl rfl ?_
  show zw fm sx (d + 3) 170 6 [some (.ref 136), some (.int k)] [.int (bI (f_161 Z k)), .ref 136] Z Q
  have J3 : ∀ (v2 : Int32), v2 = (bI (!(f_161 Z k))) → zw fm sx (d + 3) 170 14 [some (.ref 136), some (.int k)] [.int v2, .ref 136] Z Q := by
    intro v2 ev2
    subst ev2
    refine zw_mput rfl rfl rfl rfl ?_
    show zw fm sx (d + 3) 170 17 [some (.ref 136), some (.int k)] [] (zmf Z 0 (bI (!(f_161 Z k)))) Q
    refine zw_run 1 (pc' := 18) (loc' := [some (.ref 136), some (.int k)]) (stk' := [.ref 136]) (fun _ _ _ => rfl) ?_
    refine zw_mget (v := .int (bI (!(f_161 Z k)))) rfl rfl ?_
    refine zw_br (c := (bI (!(f_161 Z k))) ≤ 0) (t1 := 26) (t2 := 24) (loc' := [some (.ref 136), some (.int k)]) (stk' := []) (fun _ _ _ => rfl) (fun c4 => ?_) (fun c4 => ?_)
    · rw [if_pos c4] at H
      refine zw_run 2 (pc' := 28) (loc' := [some (.ref 136), some (.int k)]) (stk' := [.int 0, .ref 136]) (fun _ _ _ => rfl) ?_
      refine zw_mput rfl rfl rfl rfl ?_
      show zw fm sx (d + 3) 170 31 [some (.ref 136), some (.int k)] [] (zmf (zmf Z 0 (bI (!(f_161 Z k)))) 49 0) Q
      refine zw_run 4 (pc' := 35) (loc' := [some (.ref 136), some (.int k)]) (stk' := [.int k, .ref 136, .int k, .ref 136]) (fun _ _ _ => rfl) ?_
      obtain ⟨u5, hu5, H⟩ := oq_bind H
      refine zw_callf (As := [.ref 136, .int k]) (rest := [.int k, .ref 136]) (c_168 hu k hu5 (d := d + 2)) rfl rfl rfl rfl ?_
      show zw fm sx (d + 3) 170 38 [some (.ref 136), some (.int k)] [.int u5, .int k, .ref 136] (zmf (zmf Z 0 (bI (!(f_161 Z k)))) 49 0) Q
      refine zw_run 1 (pc' := 39) (loc' := [some (.ref 136), some (.int k)]) (stk' := [.int 0, .int u5, .int k, .ref 136]) (fun _ _ _ => rfl) ?_
      obtain ⟨u6, hu6, H⟩ := oq_bind H
      refine zw_callf (As := [.ref 136, .int k, .int u5, .int 0]) (rest := []) (c_169 hu k u5 false hu6 (d := d + 0)) rfl rfl rfl rfl ?_
      show zw fm sx (d + 3) 170 42 [some (.ref 136), some (.int k)] [] u6 Q
      refine zw_run 1 (pc' := 43) (loc' := [some (.ref 136), some (.int k)]) (stk' := [.ref 136]) (fun _ _ _ => rfl) ?_
      refine zw_mget (v := .int (zf u6 49)) rfl rfl ?_
      refine zw_reti (i := .nop) rfl rfl ?_
      have H := oq_some H
      exact H
    · rw [if_neg c4] at H
      refine zw_run 1 (pc' := 25) (loc' := [some (.ref 136), some (.int k)]) (stk' := [.int 0]) (fun _ _ _ => rfl) ?_
      refine zw_reti (i := .nop) rfl rfl ?_
      have H := oq_some H
      exact H
  refine zw_b0 (b := (f_161 Z k)) (t1 := 9) (t2 := 13) (loc' := [some (.ref 136), some (.int k)]) (stk' := [.ref 136]) (fun _ _ _ => rfl) (fun c1 => ?_) (fun c1 => ?_)
  · skip
    refine zw_run 2 (pc' := 14) (loc' := [some (.ref 136), some (.int k)]) (stk' := [.int 0, .ref 136]) (fun _ _ _ => rfl) ?_
    exact J3 _ (by clear H J3; first | (simp [bI, c1]; done) | (simp [bI, *]; done) | (simp_all [bI]; done) | (rw [decide_eq_true (Decidable.not_not.mp c1)]; rfl) | (exfalso; simp_all; done))
  · skip
    refine zw_run 1 (pc' := 14) (loc' := [some (.ref 136), some (.int k)]) (stk' := [.int 1, .ref 136]) (fun _ _ _ => rfl) ?_
    exact J3 _ (by clear H J3; first | (simp [bI, c1]; done) | (simp [bI, *]; done) | (simp_all [bI]; done) | (rw [decide_eq_true (Decidable.not_not.mp c1)]; rfl) | (exfalso; simp_all; done))
theorem c_170 {fm : Value} {sx : Nat × (Nat → Int32)} {d : Nat} {Z : zr_Z} (hu : fm = .null ∨ ∃ q, fm = .ref q) (k : Int32) {x : Int32 × zr_Z} (hx : o_170 Z k = some x) : zl fm sx (d + 4) 170 [.ref 136, .int k] Z (fun r Z' => r = some (.int x.1) ∧ Z' = x.2) :=
  zl_of (nL := 2) (loc0 := [some (.ref 136), some (.int k)]) rfl rfl rfl (t_170 hu k ⟨x, hx, rfl, rfl⟩)
/-- MarkInlinesModel.word, its loop at 2 -/
def g_171_2 : Nat → zr_Z → Int64 → Int64 → Option zr_Z
  | 0, _, _, _ => none
  | n + 1, Z, v, l3 => (if (lg_cmp l3 0) = 0 then some Z else (Option.bind (o_164 Z (Int64.toInt32 (l3 &&& 255))) fun u2 => g_171_2 n u2 v (l3 >>> (Int32.toInt64 8 &&& 63))))
set_option maxRecDepth 100000 in
set_option maxHeartbeats 4000000 in
theorem l_171_2 {fm : Value} {sx : Nat × (Nat → Int32)} {d : Nat} {Q : Option Value → zr_Z → Prop} (hu : fm = .null ∨ ∃ q, fm = .ref q) (v : Int64) : ∀ (n : Nat) (Z : zr_Z) (l3 : Int64), oq (g_171_2 n Z v l3) (fun x => Q none x) → zw fm sx (d + 1) 171 2 [some (.ref 136), none, none, some (.long l3), none] [] Z Q := by
  intro n
  induction n with
  | zero => intro Z l3 H; exact absurd H oq_none
  | succ n ih =>
    intro Z l3 H
    unfold g_171_2 at H
    refine zw_run 3 (pc' := 5) (loc' := [some (.ref 136), none, none, some (.long l3), none]) (stk' := [.int (lg_cmp l3 0)]) (fun _ _ _ => rfl) ?_
    refine zw_br (c := (lg_cmp l3 0) = 0) (t1 := 26) (t2 := 8) (loc' := [some (.ref 136), none, none, some (.long l3), none]) (stk' := []) (fun _ _ _ => rfl) (fun c1 => ?_) (fun c1 => ?_)
    · rw [if_pos c1] at H
      refine zw_retv rfl rfl ?_
      have H := oq_some H
      exact H
    · rw [if_neg c1] at H
      refine zw_run 5 (pc' := 15) (loc' := [some (.ref 136), none, none, some (.long l3), none]) (stk' := [.int (Int64.toInt32 (l3 &&& 255)), .ref 136]) (fun _ _ _ => rfl) ?_
      obtain ⟨u2, hu2, H⟩ := oq_bind H
      refine zw_callf (As := [.ref 136, .int (Int64.toInt32 (l3 &&& 255))]) (rest := []) (c_164 hu (Int64.toInt32 (l3 &&& 255)) hu2 (d := d + 0)) rfl rfl rfl rfl ?_
      show zw fm sx (d + 1) 171 18 [some (.ref 136), none, none, some (.long l3), none] [] u2 Q
      refine zw_run 5 (pc' := 2) (loc' := [some (.ref 136), none, none, some (.long (l3 >>> (Int32.toInt64 8 &&& 63))), none]) (stk' := []) (fun _ _ _ => rfl) ?_
      exact ih u2 (l3 >>> (Int32.toInt64 8 &&& 63)) H
/-- MarkInlinesModel.word -/
def o_171 (Z : zr_Z) (v : Int64) : Option zr_Z := g_171_2 oF Z v v
set_option maxRecDepth 100000 in
set_option maxHeartbeats 4000000 in
theorem t_171 {fm : Value} {sx : Nat × (Nat → Int32)} {d : Nat} {Z : zr_Z} {Q : Option Value → zr_Z → Prop} (hu : fm = .null ∨ ∃ q, fm = .ref q) (v : Int64) (H : oq (o_171 Z v) (fun x => Q none x)) : zw fm sx (d + 1) 171 0 [some (.ref 136), some (.long v), none, none, none] [] Z Q := by
  unfold o_171 at H
  refine zw_run 2 (pc' := 2) (loc' := [some (.ref 136), some (.long v), none, some (.long v), none]) (stk' := []) (fun _ _ _ => rfl) ?_
  refine zw_fgt [true, false, false, true, false] rfl ?_
  exact l_171_2 hu v _ Z v H
theorem c_171 {fm : Value} {sx : Nat × (Nat → Int32)} {d : Nat} {Z : zr_Z} (hu : fm = .null ∨ ∃ q, fm = .ref q) (v : Int64) {x : zr_Z} (hx : o_171 Z v = some x) : zl fm sx (d + 2) 171 [.ref 136, .long v] Z (fun r Z' => r = none ∧ Z' = x) :=
  zl_of (nL := 5) (loc0 := [some (.ref 136), some (.long v), none, none, none]) rfl rfl rfl (t_171 hu v ⟨x, hx, rfl, rfl⟩)
/-- MarkInlinesModel.number -/
def o_172 (Z : zr_Z) (v : Int32) : Option zr_Z := (if v ≤ 9 then (Option.bind (o_164 Z (48 + (v - v / 10 * 10))) fun u2 => some u2) else (Option.bind (o_164 Z (48 + (v / 10))) fun u3 => (Option.bind (o_164 u3 (48 + (v - v / 10 * 10))) fun u4 => some u4)))
set_option maxRecDepth 100000 in
set_option maxHeartbeats 4000000 in
theorem t_172 {fm : Value} {sx : Nat × (Nat → Int32)} {d : Nat} {Z : zr_Z} {Q : Option Value → zr_Z → Prop} (hu : fm = .null ∨ ∃ q, fm = .ref q) (v : Int32) (H : oq (o_172 Z v) (fun x => Q none x)) : zw fm sx (d + 1) 172 0 [some (.ref 136), some (.int v)] [] Z Q := by
  unfold o_172 at H
  refine zw_run 2 (pc' := 3) (loc' := [some (.ref 136), some (.int v)]) (stk' := [.int 9, .int v]) (fun _ _ _ => rfl) ?_
  refine zw_br (c := v ≤ 9) (t1 := 17) (t2 := 6) (loc' := [some (.ref 136), some (.int v)]) (stk' := []) (fun _ _ _ => rfl) (fun c1 => ?_) (fun c1 => ?_)
  · rw [if_pos c1] at H
    refine zw_run 6 (pc' := 25) (loc' := [some (.ref 136), some (.int v)]) (stk' := [.int (48 + (v - v / 10 * 10)), .ref 136]) (fun _ _ _ => rfl) ?_
    obtain ⟨u2, hu2, H⟩ := oq_bind H
    refine zw_callf (As := [.ref 136, .int (48 + (v - v / 10 * 10))]) (rest := []) (c_164 hu (48 + (v - v / 10 * 10)) hu2 (d := d + 0)) rfl rfl rfl rfl ?_
    show zw fm sx (d + 1) 172 28 [some (.ref 136), some (.int v)] [] u2 Q
    refine zw_retv rfl rfl ?_
    have H := oq_some H
    exact H
  · rw [if_neg c1] at H
    refine zw_run 6 (pc' := 14) (loc' := [some (.ref 136), some (.int v)]) (stk' := [.int (48 + (v / 10)), .ref 136]) (fun _ _ _ => rfl) ?_
    obtain ⟨u3, hu3, H⟩ := oq_bind H
    refine zw_callf (As := [.ref 136, .int (48 + (v / 10))]) (rest := []) (c_164 hu (48 + (v / 10)) hu3 (d := d + 0)) rfl rfl rfl rfl ?_
    show zw fm sx (d + 1) 172 17 [some (.ref 136), some (.int v)] [] u3 Q
    refine zw_run 6 (pc' := 25) (loc' := [some (.ref 136), some (.int v)]) (stk' := [.int (48 + (v - v / 10 * 10)), .ref 136]) (fun _ _ _ => rfl) ?_
    obtain ⟨u4, hu4, H⟩ := oq_bind H
    refine zw_callf (As := [.ref 136, .int (48 + (v - v / 10 * 10))]) (rest := []) (c_164 hu (48 + (v - v / 10 * 10)) hu4 (d := d + 0)) rfl rfl rfl rfl ?_
    show zw fm sx (d + 1) 172 28 [some (.ref 136), some (.int v)] [] u4 Q
    refine zw_retv rfl rfl ?_
    have H := oq_some H
    exact H
theorem c_172 {fm : Value} {sx : Nat × (Nat → Int32)} {d : Nat} {Z : zr_Z} (hu : fm = .null ∨ ∃ q, fm = .ref q) (v : Int32) {x : zr_Z} (hx : o_172 Z v = some x) : zl fm sx (d + 2) 172 [.ref 136, .int v] Z (fun r Z' => r = none ∧ Z' = x) :=
  zl_of (nL := 2) (loc0 := [some (.ref 136), some (.int v)]) rfl rfl rfl (t_172 hu v ⟨x, hx, rfl, rfl⟩)
/-- MarkInlinesModel.tellTarget -/
def o_173 (Z : zr_Z) (k : Int32) : Option zr_Z := (if inq 170 k then (if (zv Z 170 k) = (-1) then (if inq 166 k then (if inq 167 k then (Option.bind (o_167 Z (zv Z 166 k) (zv Z 167 k)) fun u5 => (Option.bind (o_164 u5 34) fun u6 => some u6)) else none) else none) else (Option.bind (o_164 Z 35) fun u7 => (if inq 170 k then (Option.bind (o_172 u7 (zv u7 170 k)) fun u9 => (Option.bind (o_164 u9 34) fun u10 => some u10)) else none))) else none)
set_option maxRecDepth 100000 in
set_option maxHeartbeats 4000000 in
theorem t_173 {fm : Value} {sx : Nat × (Nat → Int32)} {d : Nat} {Z : zr_Z} {Q : Option Value → zr_Z → Prop} (hu : fm = .null ∨ ∃ q, fm = .ref q) (k : Int32) (H : oq (o_173 Z k) (fun x => Q none x)) : zw fm sx (d + 3) 173 0 [some (.ref 136), some (.int k)] [] Z Q := by
  unfold o_173 at H
  refine zw_run 1 (pc' := 1) (loc' := [some (.ref 136), some (.int k)]) (stk' := [.ref 136]) (fun _ _ _ => rfl) ?_
  refine zw_mget (v := .ref 170) rfl rfl ?_
  refine zw_run 1 (pc' := 5) (loc' := [some (.ref 136), some (.int k)]) (stk' := [.int k, .ref 170]) (fun _ _ _ => rfl) ?_
  obtain ⟨b1, H⟩ := oq_ob H
  refine zw_iald (j := 170) rfl (by decide) (by decide) rfl b1 ?_
  refine zw_run 1 (pc' := 7) (loc' := [some (.ref 136), some (.int k)]) (stk' := [.int (-1), .int (zv Z 170 k)]) (fun _ _ _ => rfl) ?_
  refine zw_br (c := (zv Z 170 k) = (-1)) (t1 := 29) (t2 := 10) (loc' := [some (.ref 136), some (.int k)]) (stk' := []) (fun _ _ _ => rfl) (fun c2 => ?_) (fun c2 => ?_)
  · rw [if_pos c2] at H
    refine zw_run 2 (pc' := 31) (loc' := [some (.ref 136), some (.int k)]) (stk' := [.ref 136, .ref 136]) (fun _ _ _ => rfl) ?_
    refine zw_mget (v := .ref 166) rfl rfl ?_
    refine zw_run 1 (pc' := 35) (loc' := [some (.ref 136), some (.int k)]) (stk' := [.int k, .ref 166, .ref 136]) (fun _ _ _ => rfl) ?_
    obtain ⟨b3, H⟩ := oq_ob H
    refine zw_iald (j := 166) rfl (by decide) (by decide) rfl b3 ?_
    refine zw_run 1 (pc' := 37) (loc' := [some (.ref 136), some (.int k)]) (stk' := [.ref 136, .int (zv Z 166 k), .ref 136]) (fun _ _ _ => rfl) ?_
    refine zw_mget (v := .ref 167) rfl rfl ?_
    refine zw_run 1 (pc' := 41) (loc' := [some (.ref 136), some (.int k)]) (stk' := [.int k, .ref 167, .int (zv Z 166 k), .ref 136]) (fun _ _ _ => rfl) ?_
    obtain ⟨b4, H⟩ := oq_ob H
    refine zw_iald (j := 167) rfl (by decide) (by decide) rfl b4 ?_
    obtain ⟨u5, hu5, H⟩ := oq_bind H
    refine zw_callf (As := [.ref 136, .int (zv Z 166 k), .int (zv Z 167 k)]) (rest := []) (c_167 hu (zv Z 166 k) (zv Z 167 k) hu5 (d := d + 0)) rfl rfl rfl rfl ?_
    show zw fm sx (d + 3) 173 45 [some (.ref 136), some (.int k)] [] u5 Q
    refine zw_run 2 (pc' := 48) (loc' := [some (.ref 136), some (.int k)]) (stk' := [.int 34, .ref 136]) (fun _ _ _ => rfl) ?_
    obtain ⟨u6, hu6, H⟩ := oq_bind H
    refine zw_callf (As := [.ref 136, .int 34]) (rest := []) (c_164 hu 34 hu6 (d := d + 2)) rfl rfl rfl rfl ?_
    show zw fm sx (d + 3) 173 51 [some (.ref 136), some (.int k)] [] u6 Q
    refine zw_retv rfl rfl ?_
    have H := oq_some H
    exact H
  · rw [if_neg c2] at H
    refine zw_run 2 (pc' := 13) (loc' := [some (.ref 136), some (.int k)]) (stk' := [.int 35, .ref 136]) (fun _ _ _ => rfl) ?_
    obtain ⟨u7, hu7, H⟩ := oq_bind H
    refine zw_callf (As := [.ref 136, .int 35]) (rest := []) (c_164 hu 35 hu7 (d := d + 2)) rfl rfl rfl rfl ?_
    show zw fm sx (d + 3) 173 16 [some (.ref 136), some (.int k)] [] u7 Q
    refine zw_run 2 (pc' := 18) (loc' := [some (.ref 136), some (.int k)]) (stk' := [.ref 136, .ref 136]) (fun _ _ _ => rfl) ?_
    refine zw_mget (v := .ref 170) rfl rfl ?_
    refine zw_run 1 (pc' := 22) (loc' := [some (.ref 136), some (.int k)]) (stk' := [.int k, .ref 170, .ref 136]) (fun _ _ _ => rfl) ?_
    obtain ⟨b8, H⟩ := oq_ob H
    refine zw_iald (j := 170) rfl (by decide) (by decide) rfl b8 ?_
    obtain ⟨u9, hu9, H⟩ := oq_bind H
    refine zw_callf (As := [.ref 136, .int (zv u7 170 k)]) (rest := []) (c_172 hu (zv u7 170 k) hu9 (d := d + 1)) rfl rfl rfl rfl ?_
    show zw fm sx (d + 3) 173 26 [some (.ref 136), some (.int k)] [] u9 Q
    refine zw_run 3 (pc' := 48) (loc' := [some (.ref 136), some (.int k)]) (stk' := [.int 34, .ref 136]) (fun _ _ _ => rfl) ?_
    obtain ⟨u10, hu10, H⟩ := oq_bind H
    refine zw_callf (As := [.ref 136, .int 34]) (rest := []) (c_164 hu 34 hu10 (d := d + 2)) rfl rfl rfl rfl ?_
    show zw fm sx (d + 3) 173 51 [some (.ref 136), some (.int k)] [] u10 Q
    refine zw_retv rfl rfl ?_
    have H := oq_some H
    exact H
theorem c_173 {fm : Value} {sx : Nat × (Nat → Int32)} {d : Nat} {Z : zr_Z} (hu : fm = .null ∨ ∃ q, fm = .ref q) (k : Int32) {x : zr_Z} (hx : o_173 Z k = some x) : zl fm sx (d + 4) 173 [.ref 136, .int k] Z (fun r Z' => r = none ∧ Z' = x) :=
  zl_of (nL := 2) (loc0 := [some (.ref 136), some (.int k)]) rfl rfl rfl (t_173 hu k ⟨x, hx, rfl, rfl⟩)
/-- MarkInlinesModel.tellTitle -/
def o_174 (Z : zr_Z) (k : Int32) : Option zr_Z := (if inq 169 k then (if (zv Z 169 k) ≤ 0 then some Z else (Option.bind (o_171 Z 17281490063291424) fun u3 => (Option.bind (o_164 u3 34) fun u4 => (if inq 168 k then (if inq 169 k then (Option.bind (o_167 u4 (zv u4 168 k) (zv u4 169 k)) fun u7 => (Option.bind (o_164 u7 34) fun u8 => some u8)) else none) else none)))) else none)
set_option maxRecDepth 100000 in
set_option maxHeartbeats 4000000 in
theorem t_174 {fm : Value} {sx : Nat × (Nat → Int32)} {d : Nat} {Z : zr_Z} {Q : Option Value → zr_Z → Prop} (hu : fm = .null ∨ ∃ q, fm = .ref q) (k : Int32) (H : oq (o_174 Z k) (fun x => Q none x)) : zw fm sx (d + 3) 174 0 [some (.ref 136), some (.int k)] [] Z Q := by
  unfold o_174 at H
  refine zw_run 1 (pc' := 1) (loc' := [some (.ref 136), some (.int k)]) (stk' := [.ref 136]) (fun _ _ _ => rfl) ?_
  refine zw_mget (v := .ref 169) rfl rfl ?_
  refine zw_run 1 (pc' := 5) (loc' := [some (.ref 136), some (.int k)]) (stk' := [.int k, .ref 169]) (fun _ _ _ => rfl) ?_
  obtain ⟨b1, H⟩ := oq_ob H
  refine zw_iald (j := 169) rfl (by decide) (by decide) rfl b1 ?_
  refine zw_br (c := (zv Z 169 k) ≤ 0) (t1 := 44) (t2 := 9) (loc' := [some (.ref 136), some (.int k)]) (stk' := []) (fun _ _ _ => rfl) (fun c2 => ?_) (fun c2 => ?_)
  · rw [if_pos c2] at H
    refine zw_retv rfl rfl ?_
    have H := oq_some H
    exact H
  · rw [if_neg c2] at H
    refine zw_run 2 (pc' := 13) (loc' := [some (.ref 136), some (.int k)]) (stk' := [.long 17281490063291424, .ref 136]) (fun _ _ _ => rfl) ?_
    obtain ⟨u3, hu3, H⟩ := oq_bind H
    refine zw_callf (As := [.ref 136, .long 17281490063291424]) (rest := []) (c_171 hu 17281490063291424 hu3 (d := d + 1)) rfl rfl rfl rfl ?_
    show zw fm sx (d + 3) 174 16 [some (.ref 136), some (.int k)] [] u3 Q
    refine zw_run 2 (pc' := 19) (loc' := [some (.ref 136), some (.int k)]) (stk' := [.int 34, .ref 136]) (fun _ _ _ => rfl) ?_
    obtain ⟨u4, hu4, H⟩ := oq_bind H
    refine zw_callf (As := [.ref 136, .int 34]) (rest := []) (c_164 hu 34 hu4 (d := d + 2)) rfl rfl rfl rfl ?_
    show zw fm sx (d + 3) 174 22 [some (.ref 136), some (.int k)] [] u4 Q
    refine zw_run 2 (pc' := 24) (loc' := [some (.ref 136), some (.int k)]) (stk' := [.ref 136, .ref 136]) (fun _ _ _ => rfl) ?_
    refine zw_mget (v := .ref 168) rfl rfl ?_
    refine zw_run 1 (pc' := 28) (loc' := [some (.ref 136), some (.int k)]) (stk' := [.int k, .ref 168, .ref 136]) (fun _ _ _ => rfl) ?_
    obtain ⟨b5, H⟩ := oq_ob H
    refine zw_iald (j := 168) rfl (by decide) (by decide) rfl b5 ?_
    refine zw_run 1 (pc' := 30) (loc' := [some (.ref 136), some (.int k)]) (stk' := [.ref 136, .int (zv u4 168 k), .ref 136]) (fun _ _ _ => rfl) ?_
    refine zw_mget (v := .ref 169) rfl rfl ?_
    refine zw_run 1 (pc' := 34) (loc' := [some (.ref 136), some (.int k)]) (stk' := [.int k, .ref 169, .int (zv u4 168 k), .ref 136]) (fun _ _ _ => rfl) ?_
    obtain ⟨b6, H⟩ := oq_ob H
    refine zw_iald (j := 169) rfl (by decide) (by decide) rfl b6 ?_
    obtain ⟨u7, hu7, H⟩ := oq_bind H
    refine zw_callf (As := [.ref 136, .int (zv u4 168 k), .int (zv u4 169 k)]) (rest := []) (c_167 hu (zv u4 168 k) (zv u4 169 k) hu7 (d := d + 0)) rfl rfl rfl rfl ?_
    show zw fm sx (d + 3) 174 38 [some (.ref 136), some (.int k)] [] u7 Q
    refine zw_run 2 (pc' := 41) (loc' := [some (.ref 136), some (.int k)]) (stk' := [.int 34, .ref 136]) (fun _ _ _ => rfl) ?_
    obtain ⟨u8, hu8, H⟩ := oq_bind H
    refine zw_callf (As := [.ref 136, .int 34]) (rest := []) (c_164 hu 34 hu8 (d := d + 2)) rfl rfl rfl rfl ?_
    show zw fm sx (d + 3) 174 44 [some (.ref 136), some (.int k)] [] u8 Q
    refine zw_retv rfl rfl ?_
    have H := oq_some H
    exact H
theorem c_174 {fm : Value} {sx : Nat × (Nat → Int32)} {d : Nat} {Z : zr_Z} (hu : fm = .null ∨ ∃ q, fm = .ref q) (k : Int32) {x : zr_Z} (hx : o_174 Z k = some x) : zl fm sx (d + 4) 174 [.ref 136, .int k] Z (fun r Z' => r = none ∧ Z' = x) :=
  zl_of (nL := 2) (loc0 := [some (.ref 136), some (.int k)]) rfl rfl rfl (t_174 hu k ⟨x, hx, rfl, rfl⟩)
/-- MarkInlinesModel.begin -/
def o_175 (Z : zr_Z) (k : Int32) : Option zr_Z := (if inq 164 k then (if zv Z 164 k = 0 then (if inq 166 k then (if inq 167 k then (Option.bind (o_167 Z (zv Z 166 k) (zv Z 167 k)) fun u5 => some u5) else none) else none) else (if zv Z 164 k = 1 then (Option.bind (o_164 Z 10) fun u7 => some u7) else (if zv Z 164 k = 2 then (Option.bind (o_171 Z 11262200275516) fun u9 => some u9) else (if zv Z 164 k = 3 then (Option.bind (o_171 Z 68605197640508) fun u11 => (if inq 166 k then (if inq 167 k then (Option.bind (o_167 u11 (zv u11 166 k) (zv u11 167 k)) fun u14 => (Option.bind (o_171 u14 17562930595966780) fun u15 => some u15)) else none) else none)) else (if zv Z 164 k = 4 then (Option.bind (o_171 Z 1047356732) fun u17 => some u17) else (if zv Z 164 k = 5 then (Option.bind (o_171 Z 4496684177893389116) fun u19 => some u19) else (if zv Z 164 k = 6 then (Option.bind (o_171 Z 4424335225985720636) fun u21 => (Option.bind (o_164 u21 34) fun u22 => (Option.bind (o_173 u22 k) fun u23 => (Option.bind (o_174 u23 k) fun u24 => (Option.bind (o_164 u24 62) fun u25 => some u25))))) else (Option.bind (o_171 Z 139174177084) fun u26 => (Option.bind (o_171 u26 147058815603) fun u27 => (Option.bind (o_173 u27 k) fun u28 => (Option.bind (o_171 u28 37647341609248) fun u29 => (Option.bind (o_168 u29 k) fun u30 => (Option.bind (o_169 u29 (k + 1) u30 true) fun u31 => (Option.bind (o_164 u31 34) fun u32 => (Option.bind (o_174 u32 k) fun u33 => (Option.bind (o_171 u33 15919) fun u34 => some u34)))))))))))))))) else none)
set_option maxRecDepth 100000 in
set_option maxHeartbeats 4000000 in
theorem t_175 {fm : Value} {sx : Nat × (Nat → Int32)} {d : Nat} {Z : zr_Z} {Q : Option Value → zr_Z → Prop} (hu : fm = .null ∨ ∃ q, fm = .ref q) (k : Int32) (H : oq (o_175 Z k) (fun x => Q none x)) : zw fm sx (d + 4) 175 0 [some (.ref 136), some (.int k)] [] Z Q := by
  unfold o_175 at H
  refine zw_run 1 (pc' := 1) (loc' := [some (.ref 136), some (.int k)]) (stk' := [.ref 136]) (fun _ _ _ => rfl) ?_
  refine zw_mget (v := .ref 164) rfl rfl ?_
  refine zw_run 1 (pc' := 5) (loc' := [some (.ref 136), some (.int k)]) (stk' := [.int k, .ref 164]) (fun _ _ _ => rfl) ?_
  obtain ⟨b1, H⟩ := oq_ob H
  refine zw_iald (j := 164) rfl (by decide) (by decide) rfl b1 ?_
  by_cases c2 : zv Z 164 k = 0
  · rw [if_pos c2] at H
    refine zw_run 1 (pc' := 67) (loc' := [some (.ref 136), some (.int k)]) (stk' := []) (fun _ _ _ => by first | (rw [c2]; rfl) | (unfold zv at c2; rw [c2]; rfl)) ?_
    refine zw_run 2 (pc' := 69) (loc' := [some (.ref 136), some (.int k)]) (stk' := [.ref 136, .ref 136]) (fun _ _ _ => rfl) ?_
    refine zw_mget (v := .ref 166) rfl rfl ?_
    refine zw_run 1 (pc' := 73) (loc' := [some (.ref 136), some (.int k)]) (stk' := [.int k, .ref 166, .ref 136]) (fun _ _ _ => rfl) ?_
    obtain ⟨b3, H⟩ := oq_ob H
    refine zw_iald (j := 166) rfl (by decide) (by decide) rfl b3 ?_
    refine zw_run 1 (pc' := 75) (loc' := [some (.ref 136), some (.int k)]) (stk' := [.ref 136, .int (zv Z 166 k), .ref 136]) (fun _ _ _ => rfl) ?_
    refine zw_mget (v := .ref 167) rfl rfl ?_
    refine zw_run 1 (pc' := 79) (loc' := [some (.ref 136), some (.int k)]) (stk' := [.int k, .ref 167, .int (zv Z 166 k), .ref 136]) (fun _ _ _ => rfl) ?_
    obtain ⟨b4, H⟩ := oq_ob H
    refine zw_iald (j := 167) rfl (by decide) (by decide) rfl b4 ?_
    obtain ⟨u5, hu5, H⟩ := oq_bind H
    refine zw_callf (As := [.ref 136, .int (zv Z 166 k), .int (zv Z 167 k)]) (rest := []) (c_167 hu (zv Z 166 k) (zv Z 167 k) hu5 (d := d + 1)) rfl rfl rfl rfl ?_
    show zw fm sx (d + 4) 175 83 [some (.ref 136), some (.int k)] [] u5 Q
    refine zw_run 1 (pc' := 228) (loc' := [some (.ref 136), some (.int k)]) (stk' := []) (fun _ _ _ => rfl) ?_
    refine zw_retv rfl rfl ?_
    have H := oq_some H
    exact H
  rw [if_neg c2] at H
  by_cases c6 : zv Z 164 k = 1
  · rw [if_pos c6] at H
    refine zw_run 1 (pc' := 48) (loc' := [some (.ref 136), some (.int k)]) (stk' := []) (fun _ _ _ => by first | (rw [c6]; rfl) | (unfold zv at c6; rw [c6]; rfl)) ?_
    refine zw_run 2 (pc' := 51) (loc' := [some (.ref 136), some (.int k)]) (stk' := [.int 10, .ref 136]) (fun _ _ _ => rfl) ?_
    obtain ⟨u7, hu7, H⟩ := oq_bind H
    refine zw_callf (As := [.ref 136, .int 10]) (rest := []) (c_164 hu 10 hu7 (d := d + 3)) rfl rfl rfl rfl ?_
    show zw fm sx (d + 4) 175 54 [some (.ref 136), some (.int k)] [] u7 Q
    refine zw_run 1 (pc' := 228) (loc' := [some (.ref 136), some (.int k)]) (stk' := []) (fun _ _ _ => rfl) ?_
    refine zw_retv rfl rfl ?_
    have H := oq_some H
    exact H
  rw [if_neg c6] at H
  by_cases c8 : zv Z 164 k = 2
  · rw [if_pos c8] at H
    refine zw_run 1 (pc' := 57) (loc' := [some (.ref 136), some (.int k)]) (stk' := []) (fun _ _ _ => by first | (rw [c8]; rfl) | (unfold zv at c8; rw [c8]; rfl)) ?_
    refine zw_run 2 (pc' := 61) (loc' := [some (.ref 136), some (.int k)]) (stk' := [.long 11262200275516, .ref 136]) (fun _ _ _ => rfl) ?_
    obtain ⟨u9, hu9, H⟩ := oq_bind H
    refine zw_callf (As := [.ref 136, .long 11262200275516]) (rest := []) (c_171 hu 11262200275516 hu9 (d := d + 2)) rfl rfl rfl rfl ?_
    show zw fm sx (d + 4) 175 64 [some (.ref 136), some (.int k)] [] u9 Q
    refine zw_run 1 (pc' := 228) (loc' := [some (.ref 136), some (.int k)]) (stk' := []) (fun _ _ _ => rfl) ?_
    refine zw_retv rfl rfl ?_
    have H := oq_some H
    exact H
  rw [if_neg c8] at H
  by_cases c10 : zv Z 164 k = 3
  · rw [if_pos c10] at H
    refine zw_run 1 (pc' := 86) (loc' := [some (.ref 136), some (.int k)]) (stk' := []) (fun _ _ _ => by first | (rw [c10]; rfl) | (unfold zv at c10; rw [c10]; rfl)) ?_
    refine zw_run 2 (pc' := 90) (loc' := [some (.ref 136), some (.int k)]) (stk' := [.long 68605197640508, .ref 136]) (fun _ _ _ => rfl) ?_
    obtain ⟨u11, hu11, H⟩ := oq_bind H
    refine zw_callf (As := [.ref 136, .long 68605197640508]) (rest := []) (c_171 hu 68605197640508 hu11 (d := d + 2)) rfl rfl rfl rfl ?_
    show zw fm sx (d + 4) 175 93 [some (.ref 136), some (.int k)] [] u11 Q
    refine zw_run 2 (pc' := 95) (loc' := [some (.ref 136), some (.int k)]) (stk' := [.ref 136, .ref 136]) (fun _ _ _ => rfl) ?_
    refine zw_mget (v := .ref 166) rfl rfl ?_
    refine zw_run 1 (pc' := 99) (loc' := [some (.ref 136), some (.int k)]) (stk' := [.int k, .ref 166, .ref 136]) (fun _ _ _ => rfl) ?_
    obtain ⟨b12, H⟩ := oq_ob H
    refine zw_iald (j := 166) rfl (by decide) (by decide) rfl b12 ?_
    refine zw_run 1 (pc' := 101) (loc' := [some (.ref 136), some (.int k)]) (stk' := [.ref 136, .int (zv u11 166 k), .ref 136]) (fun _ _ _ => rfl) ?_
    refine zw_mget (v := .ref 167) rfl rfl ?_
    refine zw_run 1 (pc' := 105) (loc' := [some (.ref 136), some (.int k)]) (stk' := [.int k, .ref 167, .int (zv u11 166 k), .ref 136]) (fun _ _ _ => rfl) ?_
    obtain ⟨b13, H⟩ := oq_ob H
    refine zw_iald (j := 167) rfl (by decide) (by decide) rfl b13 ?_
    obtain ⟨u14, hu14, H⟩ := oq_bind H
    refine zw_callf (As := [.ref 136, .int (zv u11 166 k), .int (zv u11 167 k)]) (rest := []) (c_167 hu (zv u11 166 k) (zv u11 167 k) hu14 (d := d + 1)) rfl rfl rfl rfl ?_
    show zw fm sx (d + 4) 175 109 [some (.ref 136), some (.int k)] [] u14 Q
    refine zw_run 2 (pc' := 113) (loc' := [some (.ref 136), some (.int k)]) (stk' := [.long 17562930595966780, .ref 136]) (fun _ _ _ => rfl) ?_
    obtain ⟨u15, hu15, H⟩ := oq_bind H
    refine zw_callf (As := [.ref 136, .long 17562930595966780]) (rest := []) (c_171 hu 17562930595966780 hu15 (d := d + 2)) rfl rfl rfl rfl ?_
    show zw fm sx (d + 4) 175 116 [some (.ref 136), some (.int k)] [] u15 Q
    refine zw_run 1 (pc' := 228) (loc' := [some (.ref 136), some (.int k)]) (stk' := []) (fun _ _ _ => rfl) ?_
    refine zw_retv rfl rfl ?_
    have H := oq_some H
    exact H
  rw [if_neg c10] at H
  by_cases c16 : zv Z 164 k = 4
  · rw [if_pos c16] at H
    refine zw_run 1 (pc' := 119) (loc' := [some (.ref 136), some (.int k)]) (stk' := []) (fun _ _ _ => by first | (rw [c16]; rfl) | (unfold zv at c16; rw [c16]; rfl)) ?_
    refine zw_run 2 (pc' := 123) (loc' := [some (.ref 136), some (.int k)]) (stk' := [.long 1047356732, .ref 136]) (fun _ _ _ => rfl) ?_
    obtain ⟨u17, hu17, H⟩ := oq_bind H
    refine zw_callf (As := [.ref 136, .long 1047356732]) (rest := []) (c_171 hu 1047356732 hu17 (d := d + 2)) rfl rfl rfl rfl ?_
    show zw fm sx (d + 4) 175 126 [some (.ref 136), some (.int k)] [] u17 Q
    refine zw_run 1 (pc' := 228) (loc' := [some (.ref 136), some (.int k)]) (stk' := []) (fun _ _ _ => rfl) ?_
    refine zw_retv rfl rfl ?_
    have H := oq_some H
    exact H
  rw [if_neg c16] at H
  by_cases c18 : zv Z 164 k = 5
  · rw [if_pos c18] at H
    refine zw_run 1 (pc' := 129) (loc' := [some (.ref 136), some (.int k)]) (stk' := []) (fun _ _ _ => by first | (rw [c18]; rfl) | (unfold zv at c18; rw [c18]; rfl)) ?_
    refine zw_run 2 (pc' := 133) (loc' := [some (.ref 136), some (.int k)]) (stk' := [.long 4496684177893389116, .ref 136]) (fun _ _ _ => rfl) ?_
    obtain ⟨u19, hu19, H⟩ := oq_bind H
    refine zw_callf (As := [.ref 136, .long 4496684177893389116]) (rest := []) (c_171 hu 4496684177893389116 hu19 (d := d + 2)) rfl rfl rfl rfl ?_
    show zw fm sx (d + 4) 175 136 [some (.ref 136), some (.int k)] [] u19 Q
    refine zw_run 1 (pc' := 228) (loc' := [some (.ref 136), some (.int k)]) (stk' := []) (fun _ _ _ => rfl) ?_
    refine zw_retv rfl rfl ?_
    have H := oq_some H
    exact H
  rw [if_neg c18] at H
  by_cases c20 : zv Z 164 k = 6
  · rw [if_pos c20] at H
    refine zw_run 1 (pc' := 139) (loc' := [some (.ref 136), some (.int k)]) (stk' := []) (fun _ _ _ => by first | (rw [c20]; rfl) | (unfold zv at c20; rw [c20]; rfl)) ?_
    refine zw_run 2 (pc' := 143) (loc' := [some (.ref 136), some (.int k)]) (stk' := [.long 4424335225985720636, .ref 136]) (fun _ _ _ => rfl) ?_
    obtain ⟨u21, hu21, H⟩ := oq_bind H
    refine zw_callf (As := [.ref 136, .long 4424335225985720636]) (rest := []) (c_171 hu 4424335225985720636 hu21 (d := d + 2)) rfl rfl rfl rfl ?_
    show zw fm sx (d + 4) 175 146 [some (.ref 136), some (.int k)] [] u21 Q
    refine zw_run 2 (pc' := 149) (loc' := [some (.ref 136), some (.int k)]) (stk' := [.int 34, .ref 136]) (fun _ _ _ => rfl) ?_
    obtain ⟨u22, hu22, H⟩ := oq_bind H
    refine zw_callf (As := [.ref 136, .int 34]) (rest := []) (c_164 hu 34 hu22 (d := d + 3)) rfl rfl rfl rfl ?_
    show zw fm sx (d + 4) 175 152 [some (.ref 136), some (.int k)] [] u22 Q
    refine zw_run 2 (pc' := 154) (loc' := [some (.ref 136), some (.int k)]) (stk' := [.int k, .ref 136]) (fun _ _ _ => rfl) ?_
    obtain ⟨u23, hu23, H⟩ := oq_bind H
    refine zw_callf (As := [.ref 136, .int k]) (rest := []) (c_173 hu k hu23 (d := d + 0)) rfl rfl rfl rfl ?_
    show zw fm sx (d + 4) 175 157 [some (.ref 136), some (.int k)] [] u23 Q
    refine zw_run 2 (pc' := 159) (loc' := [some (.ref 136), some (.int k)]) (stk' := [.int k, .ref 136]) (fun _ _ _ => rfl) ?_
    obtain ⟨u24, hu24, H⟩ := oq_bind H
    refine zw_callf (As := [.ref 136, .int k]) (rest := []) (c_174 hu k hu24 (d := d + 0)) rfl rfl rfl rfl ?_
    show zw fm sx (d + 4) 175 162 [some (.ref 136), some (.int k)] [] u24 Q
    refine zw_run 2 (pc' := 165) (loc' := [some (.ref 136), some (.int k)]) (stk' := [.int 62, .ref 136]) (fun _ _ _ => rfl) ?_
    obtain ⟨u25, hu25, H⟩ := oq_bind H
    refine zw_callf (As := [.ref 136, .int 62]) (rest := []) (c_164 hu 62 hu25 (d := d + 3)) rfl rfl rfl rfl ?_
    show zw fm sx (d + 4) 175 168 [some (.ref 136), some (.int k)] [] u25 Q
    refine zw_run 1 (pc' := 228) (loc' := [some (.ref 136), some (.int k)]) (stk' := []) (fun _ _ _ => rfl) ?_
    refine zw_retv rfl rfl ?_
    have H := oq_some H
    exact H
  rw [if_neg c20] at H
  refine zw_sw (pc' := 171) (loc' := [some (.ref 136), some (.int k)]) (stk' := []) rfl (am_tswd (fun i h1 h2 => ?_)) ?_
  · rcases (show i = 0 ∨ i = 1 ∨ i = 2 ∨ i = 3 ∨ i = 4 ∨ i = 5 ∨ i = 6 by omega) with rfl | rfl | rfl | rfl | rfl | rfl | rfl
    · exact fun q => c2 (Int32.toInt_inj.mp q)
    · exact fun q => c6 (Int32.toInt_inj.mp q)
    · exact fun q => c8 (Int32.toInt_inj.mp q)
    · exact fun q => c10 (Int32.toInt_inj.mp q)
    · exact fun q => c16 (Int32.toInt_inj.mp q)
    · exact fun q => c18 (Int32.toInt_inj.mp q)
    · exact fun q => c20 (Int32.toInt_inj.mp q)
  refine zw_run 2 (pc' := 175) (loc' := [some (.ref 136), some (.int k)]) (stk' := [.long 139174177084, .ref 136]) (fun _ _ _ => rfl) ?_
  obtain ⟨u26, hu26, H⟩ := oq_bind H
  refine zw_callf (As := [.ref 136, .long 139174177084]) (rest := []) (c_171 hu 139174177084 hu26 (d := d + 2)) rfl rfl rfl rfl ?_
  show zw fm sx (d + 4) 175 178 [some (.ref 136), some (.int k)] [] u26 Q
  refine zw_run 2 (pc' := 182) (loc' := [some (.ref 136), some (.int k)]) (stk' := [.long 147058815603, .ref 136]) (fun _ _ _ => rfl) ?_
  obtain ⟨u27, hu27, H⟩ := oq_bind H
  refine zw_callf (As := [.ref 136, .long 147058815603]) (rest := []) (c_171 hu 147058815603 hu27 (d := d + 2)) rfl rfl rfl rfl ?_
  show zw fm sx (d + 4) 175 185 [some (.ref 136), some (.int k)] [] u27 Q
  refine zw_run 2 (pc' := 187) (loc' := [some (.ref 136), some (.int k)]) (stk' := [.int k, .ref 136]) (fun _ _ _ => rfl) ?_
  obtain ⟨u28, hu28, H⟩ := oq_bind H
  refine zw_callf (As := [.ref 136, .int k]) (rest := []) (c_173 hu k hu28 (d := d + 0)) rfl rfl rfl rfl ?_
  show zw fm sx (d + 4) 175 190 [some (.ref 136), some (.int k)] [] u28 Q
  refine zw_run 2 (pc' := 194) (loc' := [some (.ref 136), some (.int k)]) (stk' := [.long 37647341609248, .ref 136]) (fun _ _ _ => rfl) ?_
  obtain ⟨u29, hu29, H⟩ := oq_bind H
  refine zw_callf (As := [.ref 136, .long 37647341609248]) (rest := []) (c_171 hu 37647341609248 hu29 (d := d + 2)) rfl rfl rfl rfl ?_
  show zw fm sx (d + 4) 175 197 [some (.ref 136), some (.int k)] [] u29 Q
  refine zw_run 6 (pc' := 203) (loc' := [some (.ref 136), some (.int k)]) (stk' := [.int k, .ref 136, .int (k + 1), .ref 136]) (fun _ _ _ => rfl) ?_
  obtain ⟨u30, hu30, H⟩ := oq_bind H
  refine zw_callf (As := [.ref 136, .int k]) (rest := [.int (k + 1), .ref 136]) (c_168 hu k hu30 (d := d + 3)) rfl rfl rfl rfl ?_
  show zw fm sx (d + 4) 175 206 [some (.ref 136), some (.int k)] [.int u30, .int (k + 1), .ref 136] u29 Q
  refine zw_run 1 (pc' := 207) (loc' := [some (.ref 136), some (.int k)]) (stk' := [.int 1, .int u30, .int (k + 1), .ref 136]) (fun _ _ _ => rfl) ?_
  obtain ⟨u31, hu31, H⟩ := oq_bind H
  refine zw_callf (As := [.ref 136, .int (k + 1), .int u30, .int 1]) (rest := []) (c_169 hu (k + 1) u30 true hu31 (d := d + 1)) rfl rfl rfl rfl ?_
  show zw fm sx (d + 4) 175 210 [some (.ref 136), some (.int k)] [] u31 Q
  refine zw_run 2 (pc' := 213) (loc' := [some (.ref 136), some (.int k)]) (stk' := [.int 34, .ref 136]) (fun _ _ _ => rfl) ?_
  obtain ⟨u32, hu32, H⟩ := oq_bind H
  refine zw_callf (As := [.ref 136, .int 34]) (rest := []) (c_164 hu 34 hu32 (d := d + 3)) rfl rfl rfl rfl ?_
  show zw fm sx (d + 4) 175 216 [some (.ref 136), some (.int k)] [] u32 Q
  refine zw_run 2 (pc' := 218) (loc' := [some (.ref 136), some (.int k)]) (stk' := [.int k, .ref 136]) (fun _ _ _ => rfl) ?_
  obtain ⟨u33, hu33, H⟩ := oq_bind H
  refine zw_callf (As := [.ref 136, .int k]) (rest := []) (c_174 hu k hu33 (d := d + 0)) rfl rfl rfl rfl ?_
  show zw fm sx (d + 4) 175 221 [some (.ref 136), some (.int k)] [] u33 Q
  refine zw_run 2 (pc' := 225) (loc' := [some (.ref 136), some (.int k)]) (stk' := [.long 15919, .ref 136]) (fun _ _ _ => rfl) ?_
  obtain ⟨u34, hu34, H⟩ := oq_bind H
  refine zw_callf (As := [.ref 136, .long 15919]) (rest := []) (c_171 hu 15919 hu34 (d := d + 2)) rfl rfl rfl rfl ?_
  show zw fm sx (d + 4) 175 228 [some (.ref 136), some (.int k)] [] u34 Q
  refine zw_retv rfl rfl ?_
  have H := oq_some H
  exact H
theorem c_175 {fm : Value} {sx : Nat × (Nat → Int32)} {d : Nat} {Z : zr_Z} (hu : fm = .null ∨ ∃ q, fm = .ref q) (k : Int32) {x : zr_Z} (hx : o_175 Z k = some x) : zl fm sx (d + 5) 175 [.ref 136, .int k] Z (fun r Z' => r = none ∧ Z' = x) :=
  zl_of (nL := 2) (loc0 := [some (.ref 136), some (.int k)]) rfl rfl rfl (t_175 hu k ⟨x, hx, rfl, rfl⟩)
/-- MarkInlinesModel.finish -/
def o_177 (Z : zr_Z) (k : Int32) : Option zr_Z := (if inq 164 k then (if zv Z 164 k = 4 then (Option.bind (o_171 Z 268123320124) fun u3 => some u3) else (if zv Z 164 k = 5 then (Option.bind (o_171 Z 122537370660668) fun u5 => (Option.bind (o_171 u5 4089710) fun u6 => some u6)) else (if zv Z 164 k = 6 then (Option.bind (o_171 Z 1046556476) fun u8 => some u8) else some Z))) else none)
set_option maxRecDepth 100000 in
set_option maxHeartbeats 4000000 in
theorem t_177 {fm : Value} {sx : Nat × (Nat → Int32)} {d : Nat} {Z : zr_Z} {Q : Option Value → zr_Z → Prop} (hu : fm = .null ∨ ∃ q, fm = .ref q) (k : Int32) (H : oq (o_177 Z k) (fun x => Q none x)) : zw fm sx (d + 2) 177 0 [some (.ref 136), some (.int k)] [] Z Q := by
  unfold o_177 at H
  refine zw_run 1 (pc' := 1) (loc' := [some (.ref 136), some (.int k)]) (stk' := [.ref 136]) (fun _ _ _ => rfl) ?_
  refine zw_mget (v := .ref 164) rfl rfl ?_
  refine zw_run 1 (pc' := 5) (loc' := [some (.ref 136), some (.int k)]) (stk' := [.int k, .ref 164]) (fun _ _ _ => rfl) ?_
  obtain ⟨b1, H⟩ := oq_ob H
  refine zw_iald (j := 164) rfl (by decide) (by decide) rfl b1 ?_
  by_cases c2 : zv Z 164 k = 4
  · rw [if_pos c2] at H
    refine zw_run 1 (pc' := 32) (loc' := [some (.ref 136), some (.int k)]) (stk' := []) (fun _ _ _ => by first | (rw [c2]; rfl) | (unfold zv at c2; rw [c2]; rfl)) ?_
    refine zw_run 2 (pc' := 36) (loc' := [some (.ref 136), some (.int k)]) (stk' := [.long 268123320124, .ref 136]) (fun _ _ _ => rfl) ?_
    obtain ⟨u3, hu3, H⟩ := oq_bind H
    refine zw_callf (As := [.ref 136, .long 268123320124]) (rest := []) (c_171 hu 268123320124 hu3 (d := d + 0)) rfl rfl rfl rfl ?_
    show zw fm sx (d + 2) 177 39 [some (.ref 136), some (.int k)] [] u3 Q
    refine zw_run 1 (pc' := 69) (loc' := [some (.ref 136), some (.int k)]) (stk' := []) (fun _ _ _ => rfl) ?_
    refine zw_retv rfl rfl ?_
    have H := oq_some H
    exact H
  rw [if_neg c2] at H
  by_cases c4 : zv Z 164 k = 5
  · rw [if_pos c4] at H
    refine zw_run 1 (pc' := 42) (loc' := [some (.ref 136), some (.int k)]) (stk' := []) (fun _ _ _ => by first | (rw [c4]; rfl) | (unfold zv at c4; rw [c4]; rfl)) ?_
    refine zw_run 2 (pc' := 46) (loc' := [some (.ref 136), some (.int k)]) (stk' := [.long 122537370660668, .ref 136]) (fun _ _ _ => rfl) ?_
    obtain ⟨u5, hu5, H⟩ := oq_bind H
    refine zw_callf (As := [.ref 136, .long 122537370660668]) (rest := []) (c_171 hu 122537370660668 hu5 (d := d + 0)) rfl rfl rfl rfl ?_
    show zw fm sx (d + 2) 177 49 [some (.ref 136), some (.int k)] [] u5 Q
    refine zw_run 2 (pc' := 53) (loc' := [some (.ref 136), some (.int k)]) (stk' := [.long 4089710, .ref 136]) (fun _ _ _ => rfl) ?_
    obtain ⟨u6, hu6, H⟩ := oq_bind H
    refine zw_callf (As := [.ref 136, .long 4089710]) (rest := []) (c_171 hu 4089710 hu6 (d := d + 0)) rfl rfl rfl rfl ?_
    show zw fm sx (d + 2) 177 56 [some (.ref 136), some (.int k)] [] u6 Q
    refine zw_run 1 (pc' := 69) (loc' := [some (.ref 136), some (.int k)]) (stk' := []) (fun _ _ _ => rfl) ?_
    refine zw_retv rfl rfl ?_
    have H := oq_some H
    exact H
  rw [if_neg c4] at H
  by_cases c7 : zv Z 164 k = 6
  · rw [if_pos c7] at H
    refine zw_run 1 (pc' := 59) (loc' := [some (.ref 136), some (.int k)]) (stk' := []) (fun _ _ _ => by first | (rw [c7]; rfl) | (unfold zv at c7; rw [c7]; rfl)) ?_
    refine zw_run 2 (pc' := 63) (loc' := [some (.ref 136), some (.int k)]) (stk' := [.long 1046556476, .ref 136]) (fun _ _ _ => rfl) ?_
    obtain ⟨u8, hu8, H⟩ := oq_bind H
    refine zw_callf (As := [.ref 136, .long 1046556476]) (rest := []) (c_171 hu 1046556476 hu8 (d := d + 0)) rfl rfl rfl rfl ?_
    show zw fm sx (d + 2) 177 66 [some (.ref 136), some (.int k)] [] u8 Q
    refine zw_run 1 (pc' := 69) (loc' := [some (.ref 136), some (.int k)]) (stk' := []) (fun _ _ _ => rfl) ?_
    refine zw_retv rfl rfl ?_
    have H := oq_some H
    exact H
  rw [if_neg c7] at H
  refine zw_sw (pc' := 69) (loc' := [some (.ref 136), some (.int k)]) (stk' := []) rfl (am_tswd (fun i h1 h2 => ?_)) ?_
  · rcases (show i = 4 ∨ i = 5 ∨ i = 6 by omega) with rfl | rfl | rfl
    · exact fun q => c2 (Int32.toInt_inj.mp q)
    · exact fun q => c4 (Int32.toInt_inj.mp q)
    · exact fun q => c7 (Int32.toInt_inj.mp q)
  refine zw_retv rfl rfl ?_
  have H := oq_some H
  exact H
theorem c_177 {fm : Value} {sx : Nat × (Nat → Int32)} {d : Nat} {Z : zr_Z} (hu : fm = .null ∨ ∃ q, fm = .ref q) (k : Int32) {x : zr_Z} (hx : o_177 Z k = some x) : zl fm sx (d + 3) 177 [.ref 136, .int k] Z (fun r Z' => r = none ∧ Z' = x) :=
  zl_of (nL := 2) (loc0 := [some (.ref 136), some (.int k)]) rfl rfl rfl (t_177 hu k ⟨x, hx, rfl, rfl⟩)
/-- MarkInlinesModel.write, its loop at 126 -/
def g_178_126 : Nat → zr_Z → Int32 → Option (Int32 × zr_Z)
  | 0, _, _ => none
  | n + 1, Z, x1 => (if x1 = (-1) then some (zf Z 49, Z) else (Option.bind (o_177 Z x1) fun u2 => (if inq 165 x1 then g_178_126 n u2 (zv u2 165 x1) else none)))
set_option maxRecDepth 100000 in
set_option maxHeartbeats 4000000 in
theorem l_178_126 {fm : Value} {sx : Nat × (Nat → Int32)} {d : Nat} {Q : Option Value → zr_Z → Prop} (hu : fm = .null ∨ ∃ q, fm = .ref q)  : ∀ (n : Nat) (Z : zr_Z) (x1 : Int32), oq (g_178_126 n Z x1) (fun x => Q (some (.int x.1)) x.2) → zw fm sx (d + 5) 178 126 [some (.ref 136), some (.int x1), none] [] Z Q := by
  intro n
  induction n with
  | zero => intro Z x1 H; exact absurd H oq_none
  | succ n ih =>
    intro Z x1 H
    unfold g_178_126 at H
    refine zw_run 2 (pc' := 128) (loc' := [some (.ref 136), some (.int x1), none]) (stk' := [.int (-1), .int x1]) (fun _ _ _ => rfl) ?_
    refine zw_br (c := x1 = (-1)) (t1 := 146) (t2 := 131) (loc' := [some (.ref 136), some (.int x1), none]) (stk' := []) (fun _ _ _ => rfl) (fun c1 => ?_) (fun c1 => ?_)
    · rw [if_pos c1] at H
      refine zw_run 1 (pc' := 147) (loc' := [some (.ref 136), some (.int x1), none]) (stk' := [.ref 136]) (fun _ _ _ => rfl) ?_
      refine zw_mget (v := .int (zf Z 49)) rfl rfl ?_
      refine zw_reti (i := .nop) rfl rfl ?_
      have H := oq_some H
      exact H
    · rw [if_neg c1] at H
      refine zw_run 2 (pc' := 133) (loc' := [some (.ref 136), some (.int x1), none]) (stk' := [.int x1, .ref 136]) (fun _ _ _ => rfl) ?_
      obtain ⟨u2, hu2, H⟩ := oq_bind H
      refine zw_callf (As := [.ref 136, .int x1]) (rest := []) (c_177 hu x1 hu2 (d := d + 2)) rfl rfl rfl rfl ?_
      show zw fm sx (d + 5) 178 136 [some (.ref 136), some (.int x1), none] [] u2 Q
      refine zw_run 1 (pc' := 137) (loc' := [some (.ref 136), some (.int x1), none]) (stk' := [.ref 136]) (fun _ _ _ => rfl) ?_
      refine zw_mget (v := .ref 165) rfl rfl ?_
      refine zw_run 1 (pc' := 141) (loc' := [some (.ref 136), some (.int x1), none]) (stk' := [.int x1, .ref 165]) (fun _ _ _ => rfl) ?_
      obtain ⟨b3, H⟩ := oq_ob H
      refine zw_iald (j := 165) rfl (by decide) (by decide) rfl b3 ?_
      refine zw_run 2 (pc' := 126) (loc' := [some (.ref 136), some (.int (zv u2 165 x1)), none]) (stk' := []) (fun _ _ _ => rfl) ?_
      exact ih u2 (zv u2 165 x1) H
/-- MarkInlinesModel.write, its loop at 43 -/
def g_178_43 : Nat → zr_Z → Int32 → Int32 → (zr_Z → Int32 → Int32 → Option (Int32 × zr_Z)) → Option (Int32 × zr_Z)
  | 0, _, _, _, _ => none
  | n + 1, Z, x1, x2, K35 => (if inq 165 x2 then (if x1 = (zv Z 165 x2) then (Option.bind (o_175 Z x2) fun u3 => (if inq 164 x2 then (if (if (zv u3 164 x2) ≤ 3 then True else (inq 164 x2 ∧ (if (zv u3 164 x2) = 7 then True else True))) then (olet ((if (zv u3 164 x2) ≤ 3 then x1 else (if (zv u3 164 x2) = 7 then x1 else x2 : Int32) : Int32) : Int32) fun x10 => (if inq 164 x2 then (if ¬ (zv u3 164 x2) = 7 then K35 u3 x10 (x2 + 1) else (Option.bind (o_168 u3 x2) fun u13 => K35 u3 x10 u13)) else none)) else none) else none)) else (Option.bind (o_177 Z x1) fun u14 => (if inq 165 x1 then g_178_43 n u14 (zv u14 165 x1) x2 K35 else none))) else none)
set_option maxRecDepth 100000 in
set_option maxHeartbeats 4000000 in
theorem l_178_43 {fm : Value} {sx : Nat × (Nat → Int32)} {d : Nat} {Q : Option Value → zr_Z → Prop} (hu : fm = .null ∨ ∃ q, fm = .ref q)  (K35 : zr_Z → Int32 → Int32 → Option (Int32 × zr_Z)) (HK35 : ∀ (Z : zr_Z) (x1 : Int32) (x2 : Int32), oq (K35 Z x1 x2) (fun x => Q (some (.int x.1)) x.2) → zw fm sx (d + 5) 178 35 [some (.ref 136), some (.int x1), some (.int x2)] [] Z Q) : ∀ (n : Nat) (Z : zr_Z) (x1 : Int32) (x2 : Int32), oq (g_178_43 n Z x1 x2 K35) (fun x => Q (some (.int x.1)) x.2) → zw fm sx (d + 5) 178 43 [some (.ref 136), some (.int x1), some (.int x2)] [] Z Q := by
  intro n
  induction n with
  | zero => intro Z x1 x2 H; exact absurd H oq_none
  | succ n ih =>
    intro Z x1 x2 H
    unfold g_178_43 at H
    refine zw_run 2 (pc' := 45) (loc' := [some (.ref 136), some (.int x1), some (.int x2)]) (stk' := [.ref 136, .int x1]) (fun _ _ _ => rfl) ?_
    refine zw_mget (v := .ref 165) rfl rfl ?_
    refine zw_run 1 (pc' := 49) (loc' := [some (.ref 136), some (.int x1), some (.int x2)]) (stk' := [.int x2, .ref 165, .int x1]) (fun _ _ _ => rfl) ?_
    obtain ⟨b1, H⟩ := oq_ob H
    refine zw_iald (j := 165) rfl (by decide) (by decide) rfl b1 ?_
    refine zw_br (c := x1 = (zv Z 165 x2)) (t1 := 68) (t2 := 53) (loc' := [some (.ref 136), some (.int x1), some (.int x2)]) (stk' := []) (fun _ _ _ => rfl) (fun c2 => ?_) (fun c2 => ?_)
    · rw [if_pos c2] at H
      refine zw_run 2 (pc' := 70) (loc' := [some (.ref 136), some (.int x1), some (.int x2)]) (stk' := [.int x2, .ref 136]) (fun _ _ _ => rfl) ?_
      obtain ⟨u3, hu3, H⟩ := oq_bind H
      refine zw_callf (As := [.ref 136, .int x2]) (rest := []) (c_175 hu x2 hu3 (d := d + 0)) rfl rfl rfl rfl ?_
      show zw fm sx (d + 5) 178 73 [some (.ref 136), some (.int x1), some (.int x2)] [] u3 Q
      refine zw_run 1 (pc' := 74) (loc' := [some (.ref 136), some (.int x1), some (.int x2)]) (stk' := [.ref 136]) (fun _ _ _ => rfl) ?_
      refine zw_mget (v := .ref 164) rfl rfl ?_
      refine zw_run 1 (pc' := 78) (loc' := [some (.ref 136), some (.int x1), some (.int x2)]) (stk' := [.int x2, .ref 164]) (fun _ _ _ => rfl) ?_
      obtain ⟨b4, H⟩ := oq_ob H
      refine zw_iald (j := 164) rfl (by decide) (by decide) rfl b4 ?_
      refine zw_run 1 (pc' := 80) (loc' := [some (.ref 136), some (.int x1), some (.int x2)]) (stk' := [.int 3, .int (zv u3 164 x2)]) (fun _ _ _ => rfl) ?_
      obtain ⟨HR, H⟩ := oq_ob H
      have J9 : ∀ (v8 : Int32), v8 = (if (zv u3 164 x2) ≤ 3 then x1 else (if (zv u3 164 x2) = 7 then x1 else x2 : Int32) : Int32) → zw fm sx (d + 5) 178 99 [some (.ref 136), some (.int x1), some (.int x2)] [.int v8] u3 Q := by
        intro v8 ev8
        subst ev8
        refine zw_run 1 (pc' := 100) (loc' := [some (.ref 136), some (.int (if (zv u3 164 x2) ≤ 3 then x1 else (if (zv u3 164 x2) = 7 then x1 else x2 : Int32) : Int32)), some (.int x2)]) (stk' := []) (fun _ _ _ => rfl) ?_
        obtain ⟨x10, hx10⟩ : ∃ w : Int32, w = (if (zv u3 164 x2) ≤ 3 then x1 else (if (zv u3 164 x2) = 7 then x1 else x2 : Int32) : Int32) := ⟨_, rfl⟩
        rw [← hx10]
        have H := oq_let H x10 hx10
        refine zw_run 1 (pc' := 101) (loc' := [some (.ref 136), some (.int x10), some (.int x2)]) (stk' := [.ref 136]) (fun _ _ _ => rfl) ?_
        refine zw_mget (v := .ref 164) rfl rfl ?_
        refine zw_run 1 (pc' := 105) (loc' := [some (.ref 136), some (.int x10), some (.int x2)]) (stk' := [.int x2, .ref 164]) (fun _ _ _ => rfl) ?_
        obtain ⟨b11, H⟩ := oq_ob H
        refine zw_iald (j := 164) rfl (by decide) (by decide) rfl b11 ?_
        refine zw_run 1 (pc' := 108) (loc' := [some (.ref 136), some (.int x10), some (.int x2)]) (stk' := [.int 7, .int (zv u3 164 x2)]) (fun _ _ _ => rfl) ?_
        refine zw_br (c := ¬ (zv u3 164 x2) = 7) (t1 := 119) (t2 := 111) (loc' := [some (.ref 136), some (.int x10), some (.int x2)]) (stk' := []) (fun _ _ _ => rfl) (fun c12 => ?_) (fun c12 => ?_)
        · rw [if_pos c12] at H
          refine zw_run 5 (pc' := 35) (loc' := [some (.ref 136), some (.int x10), some (.int (x2 + 1))]) (stk' := []) (fun _ _ _ => rfl) ?_
          exact HK35 u3 x10 (x2 + 1) H
        · rw [if_neg c12] at H
          refine zw_run 2 (pc' := 113) (loc' := [some (.ref 136), some (.int x10), some (.int x2)]) (stk' := [.int x2, .ref 136]) (fun _ _ _ => rfl) ?_
          obtain ⟨u13, hu13, H⟩ := oq_bind H
          refine zw_callf (As := [.ref 136, .int x2]) (rest := []) (c_168 hu x2 hu13 (d := d + 4)) rfl rfl rfl rfl ?_
          show zw fm sx (d + 5) 178 116 [some (.ref 136), some (.int x10), some (.int x2)] [.int u13] u3 Q
          refine zw_run 3 (pc' := 35) (loc' := [some (.ref 136), some (.int x10), some (.int u13)]) (stk' := []) (fun _ _ _ => rfl) ?_
          exact HK35 u3 x10 u13 H
      clear H
      have H := HR
      refine zw_br (c := (zv u3 164 x2) ≤ 3) (t1 := 98) (t2 := 83) (loc' := [some (.ref 136), some (.int x1), some (.int x2)]) (stk' := []) (fun _ _ _ => rfl) (fun c5 => ?_) (fun c5 => ?_)
      · rw [if_pos c5] at H
        refine zw_run 1 (pc' := 99) (loc' := [some (.ref 136), some (.int x1), some (.int x2)]) (stk' := [.int x1]) (fun _ _ _ => rfl) ?_
        exact J9 _ (by first | (rw [if_pos c5]; done) | (rw [if_pos c5]; rfl) | (clear H J9; simp_all [bI]; done))
      · rw [if_neg c5] at H
        refine zw_run 1 (pc' := 84) (loc' := [some (.ref 136), some (.int x1), some (.int x2)]) (stk' := [.ref 136]) (fun _ _ _ => rfl) ?_
        refine zw_mget (v := .ref 164) rfl rfl ?_
        refine zw_run 1 (pc' := 88) (loc' := [some (.ref 136), some (.int x1), some (.int x2)]) (stk' := [.int x2, .ref 164]) (fun _ _ _ => rfl) ?_
        obtain ⟨b6, H⟩ := H
        refine zw_iald (j := 164) rfl (by decide) (by decide) rfl b6 ?_
        refine zw_run 1 (pc' := 91) (loc' := [some (.ref 136), some (.int x1), some (.int x2)]) (stk' := [.int 7, .int (zv u3 164 x2)]) (fun _ _ _ => rfl) ?_
        refine zw_br (c := (zv u3 164 x2) = 7) (t1 := 98) (t2 := 94) (loc' := [some (.ref 136), some (.int x1), some (.int x2)]) (stk' := []) (fun _ _ _ => rfl) (fun c7 => ?_) (fun c7 => ?_)
        · rw [if_pos c7] at H
          refine zw_run 1 (pc' := 99) (loc' := [some (.ref 136), some (.int x1), some (.int x2)]) (stk' := [.int x1]) (fun _ _ _ => rfl) ?_
          exact J9 _ (by first | (rw [if_neg c5, if_pos c7]; done) | (rw [if_neg c5, if_pos c7]; rfl) | (clear H J9; simp_all [bI]; done))
        · rw [if_neg c7] at H
          refine zw_run 2 (pc' := 99) (loc' := [some (.ref 136), some (.int x1), some (.int x2)]) (stk' := [.int x2]) (fun _ _ _ => rfl) ?_
          exact J9 _ (by first | (rw [if_neg c5, if_neg c7]; done) | (rw [if_neg c5, if_neg c7]; rfl) | (clear H J9; simp_all [bI]; done))
    · rw [if_neg c2] at H
      refine zw_run 2 (pc' := 55) (loc' := [some (.ref 136), some (.int x1), some (.int x2)]) (stk' := [.int x1, .ref 136]) (fun _ _ _ => rfl) ?_
      obtain ⟨u14, hu14, H⟩ := oq_bind H
      refine zw_callf (As := [.ref 136, .int x1]) (rest := []) (c_177 hu x1 hu14 (d := d + 2)) rfl rfl rfl rfl ?_
      show zw fm sx (d + 5) 178 58 [some (.ref 136), some (.int x1), some (.int x2)] [] u14 Q
      refine zw_run 1 (pc' := 59) (loc' := [some (.ref 136), some (.int x1), some (.int x2)]) (stk' := [.ref 136]) (fun _ _ _ => rfl) ?_
      refine zw_mget (v := .ref 165) rfl rfl ?_
      refine zw_run 1 (pc' := 63) (loc' := [some (.ref 136), some (.int x1), some (.int x2)]) (stk' := [.int x1, .ref 165]) (fun _ _ _ => rfl) ?_
      obtain ⟨b15, H⟩ := oq_ob H
      refine zw_iald (j := 165) rfl (by decide) (by decide) rfl b15 ?_
      refine zw_run 2 (pc' := 43) (loc' := [some (.ref 136), some (.int (zv u14 165 x1)), some (.int x2)]) (stk' := []) (fun _ _ _ => rfl) ?_
      exact ih u14 (zv u14 165 x1) x2 H
/-- MarkInlinesModel.write, its loop at 35 -/
def g_178_35 : Nat → zr_Z → Int32 → Int32 → Option (Int32 × zr_Z)
  | 0, _, _, _ => none
  | n + 1, Z, x1, x2 => (if (zf Z 45) ≤ x2 then (if x1 = (-1) then some (zf Z 49, Z) else (Option.bind (o_177 Z x1) fun u3 => (if inq 165 x1 then g_178_126 oF u3 (zv u3 165 x1) else none))) else (if inq 165 x2 then (if x1 = (zv Z 165 x2) then (Option.bind (o_175 Z x2) fun u7 => (if inq 164 x2 then (if (if (zv u7 164 x2) ≤ 3 then True else (inq 164 x2 ∧ (if (zv u7 164 x2) = 7 then True else True))) then (olet ((if (zv u7 164 x2) ≤ 3 then x1 else (if (zv u7 164 x2) = 7 then x1 else x2 : Int32) : Int32) : Int32) fun x14 => (if inq 164 x2 then (if ¬ (zv u7 164 x2) = 7 then g_178_35 n u7 x14 (x2 + 1) else (Option.bind (o_168 u7 x2) fun u17 => g_178_35 n u7 x14 u17)) else none)) else none) else none)) else (Option.bind (o_177 Z x1) fun u18 => (if inq 165 x1 then g_178_43 oF u18 (zv u18 165 x1) x2 (fun Z x1 x2 => g_178_35 n Z x1 x2) else none))) else none))
set_option maxRecDepth 100000 in
set_option maxHeartbeats 4000000 in
theorem l_178_35 {fm : Value} {sx : Nat × (Nat → Int32)} {d : Nat} {Q : Option Value → zr_Z → Prop} (hu : fm = .null ∨ ∃ q, fm = .ref q)  : ∀ (n : Nat) (Z : zr_Z) (x1 : Int32) (x2 : Int32), oq (g_178_35 n Z x1 x2) (fun x => Q (some (.int x.1)) x.2) → zw fm sx (d + 5) 178 35 [some (.ref 136), some (.int x1), some (.int x2)] [] Z Q := by
  intro n
  induction n with
  | zero => intro Z x1 x2 H; exact absurd H oq_none
  | succ n ih =>
    intro Z x1 x2 H
    unfold g_178_35 at H
    refine zw_run 2 (pc' := 37) (loc' := [some (.ref 136), some (.int x1), some (.int x2)]) (stk' := [.ref 136, .int x2]) (fun _ _ _ => rfl) ?_
    refine zw_mget (v := .int (zf Z 45)) rfl rfl ?_
    refine zw_br (c := (zf Z 45) ≤ x2) (t1 := 126) (t2 := 43) (loc' := [some (.ref 136), some (.int x1), some (.int x2)]) (stk' := []) (fun _ _ _ => rfl) (fun c1 => ?_) (fun c1 => ?_)
    · rw [if_pos c1] at H
      refine zw_run 2 (pc' := 128) (loc' := [some (.ref 136), some (.int x1), some (.int x2)]) (stk' := [.int (-1), .int x1]) (fun _ _ _ => rfl) ?_
      refine zw_br (c := x1 = (-1)) (t1 := 146) (t2 := 131) (loc' := [some (.ref 136), some (.int x1), some (.int x2)]) (stk' := []) (fun _ _ _ => rfl) (fun c2 => ?_) (fun c2 => ?_)
      · rw [if_pos c2] at H
        refine zw_run 1 (pc' := 147) (loc' := [some (.ref 136), some (.int x1), some (.int x2)]) (stk' := [.ref 136]) (fun _ _ _ => rfl) ?_
        refine zw_mget (v := .int (zf Z 49)) rfl rfl ?_
        refine zw_reti (i := .nop) rfl rfl ?_
        have H := oq_some H
        exact H
      · rw [if_neg c2] at H
        refine zw_run 2 (pc' := 133) (loc' := [some (.ref 136), some (.int x1), some (.int x2)]) (stk' := [.int x1, .ref 136]) (fun _ _ _ => rfl) ?_
        obtain ⟨u3, hu3, H⟩ := oq_bind H
        refine zw_callf (As := [.ref 136, .int x1]) (rest := []) (c_177 hu x1 hu3 (d := d + 2)) rfl rfl rfl rfl ?_
        show zw fm sx (d + 5) 178 136 [some (.ref 136), some (.int x1), some (.int x2)] [] u3 Q
        refine zw_run 1 (pc' := 137) (loc' := [some (.ref 136), some (.int x1), some (.int x2)]) (stk' := [.ref 136]) (fun _ _ _ => rfl) ?_
        refine zw_mget (v := .ref 165) rfl rfl ?_
        refine zw_run 1 (pc' := 141) (loc' := [some (.ref 136), some (.int x1), some (.int x2)]) (stk' := [.int x1, .ref 165]) (fun _ _ _ => rfl) ?_
        obtain ⟨b4, H⟩ := oq_ob H
        refine zw_iald (j := 165) rfl (by decide) (by decide) rfl b4 ?_
        refine zw_run 2 (pc' := 126) (loc' := [some (.ref 136), some (.int (zv u3 165 x1)), some (.int x2)]) (stk' := []) (fun _ _ _ => rfl) ?_
        refine zw_fgt [true, true, false] rfl ?_
        exact l_178_126 hu _ u3 (zv u3 165 x1) H
    · rw [if_neg c1] at H
      refine zw_run 2 (pc' := 45) (loc' := [some (.ref 136), some (.int x1), some (.int x2)]) (stk' := [.ref 136, .int x1]) (fun _ _ _ => rfl) ?_
      refine zw_mget (v := .ref 165) rfl rfl ?_
      refine zw_run 1 (pc' := 49) (loc' := [some (.ref 136), some (.int x1), some (.int x2)]) (stk' := [.int x2, .ref 165, .int x1]) (fun _ _ _ => rfl) ?_
      obtain ⟨b5, H⟩ := oq_ob H
      refine zw_iald (j := 165) rfl (by decide) (by decide) rfl b5 ?_
      refine zw_br (c := x1 = (zv Z 165 x2)) (t1 := 68) (t2 := 53) (loc' := [some (.ref 136), some (.int x1), some (.int x2)]) (stk' := []) (fun _ _ _ => rfl) (fun c6 => ?_) (fun c6 => ?_)
      · rw [if_pos c6] at H
        refine zw_run 2 (pc' := 70) (loc' := [some (.ref 136), some (.int x1), some (.int x2)]) (stk' := [.int x2, .ref 136]) (fun _ _ _ => rfl) ?_
        obtain ⟨u7, hu7, H⟩ := oq_bind H
        refine zw_callf (As := [.ref 136, .int x2]) (rest := []) (c_175 hu x2 hu7 (d := d + 0)) rfl rfl rfl rfl ?_
        show zw fm sx (d + 5) 178 73 [some (.ref 136), some (.int x1), some (.int x2)] [] u7 Q
        refine zw_run 1 (pc' := 74) (loc' := [some (.ref 136), some (.int x1), some (.int x2)]) (stk' := [.ref 136]) (fun _ _ _ => rfl) ?_
        refine zw_mget (v := .ref 164) rfl rfl ?_
        refine zw_run 1 (pc' := 78) (loc' := [some (.ref 136), some (.int x1), some (.int x2)]) (stk' := [.int x2, .ref 164]) (fun _ _ _ => rfl) ?_
        obtain ⟨b8, H⟩ := oq_ob H
        refine zw_iald (j := 164) rfl (by decide) (by decide) rfl b8 ?_
        refine zw_run 1 (pc' := 80) (loc' := [some (.ref 136), some (.int x1), some (.int x2)]) (stk' := [.int 3, .int (zv u7 164 x2)]) (fun _ _ _ => rfl) ?_
        obtain ⟨HR, H⟩ := oq_ob H
        have J13 : ∀ (v12 : Int32), v12 = (if (zv u7 164 x2) ≤ 3 then x1 else (if (zv u7 164 x2) = 7 then x1 else x2 : Int32) : Int32) → zw fm sx (d + 5) 178 99 [some (.ref 136), some (.int x1), some (.int x2)] [.int v12] u7 Q := by
          intro v12 ev12
          subst ev12
          refine zw_run 1 (pc' := 100) (loc' := [some (.ref 136), some (.int (if (zv u7 164 x2) ≤ 3 then x1 else (if (zv u7 164 x2) = 7 then x1 else x2 : Int32) : Int32)), some (.int x2)]) (stk' := []) (fun _ _ _ => rfl) ?_
          obtain ⟨x14, hx14⟩ : ∃ w : Int32, w = (if (zv u7 164 x2) ≤ 3 then x1 else (if (zv u7 164 x2) = 7 then x1 else x2 : Int32) : Int32) := ⟨_, rfl⟩
          rw [← hx14]
          have H := oq_let H x14 hx14
          refine zw_run 1 (pc' := 101) (loc' := [some (.ref 136), some (.int x14), some (.int x2)]) (stk' := [.ref 136]) (fun _ _ _ => rfl) ?_
          refine zw_mget (v := .ref 164) rfl rfl ?_
          refine zw_run 1 (pc' := 105) (loc' := [some (.ref 136), some (.int x14), some (.int x2)]) (stk' := [.int x2, .ref 164]) (fun _ _ _ => rfl) ?_
          obtain ⟨b15, H⟩ := oq_ob H
          refine zw_iald (j := 164) rfl (by decide) (by decide) rfl b15 ?_
          refine zw_run 1 (pc' := 108) (loc' := [some (.ref 136), some (.int x14), some (.int x2)]) (stk' := [.int 7, .int (zv u7 164 x2)]) (fun _ _ _ => rfl) ?_
          refine zw_br (c := ¬ (zv u7 164 x2) = 7) (t1 := 119) (t2 := 111) (loc' := [some (.ref 136), some (.int x14), some (.int x2)]) (stk' := []) (fun _ _ _ => rfl) (fun c16 => ?_) (fun c16 => ?_)
          · rw [if_pos c16] at H
            refine zw_run 5 (pc' := 35) (loc' := [some (.ref 136), some (.int x14), some (.int (x2 + 1))]) (stk' := []) (fun _ _ _ => rfl) ?_
            exact ih u7 x14 (x2 + 1) H
          · rw [if_neg c16] at H
            refine zw_run 2 (pc' := 113) (loc' := [some (.ref 136), some (.int x14), some (.int x2)]) (stk' := [.int x2, .ref 136]) (fun _ _ _ => rfl) ?_
            obtain ⟨u17, hu17, H⟩ := oq_bind H
            refine zw_callf (As := [.ref 136, .int x2]) (rest := []) (c_168 hu x2 hu17 (d := d + 4)) rfl rfl rfl rfl ?_
            show zw fm sx (d + 5) 178 116 [some (.ref 136), some (.int x14), some (.int x2)] [.int u17] u7 Q
            refine zw_run 3 (pc' := 35) (loc' := [some (.ref 136), some (.int x14), some (.int u17)]) (stk' := []) (fun _ _ _ => rfl) ?_
            exact ih u7 x14 u17 H
        clear H
        have H := HR
        refine zw_br (c := (zv u7 164 x2) ≤ 3) (t1 := 98) (t2 := 83) (loc' := [some (.ref 136), some (.int x1), some (.int x2)]) (stk' := []) (fun _ _ _ => rfl) (fun c9 => ?_) (fun c9 => ?_)
        · rw [if_pos c9] at H
          refine zw_run 1 (pc' := 99) (loc' := [some (.ref 136), some (.int x1), some (.int x2)]) (stk' := [.int x1]) (fun _ _ _ => rfl) ?_
          exact J13 _ (by first | (rw [if_pos c9]; done) | (rw [if_pos c9]; rfl) | (clear H J13; simp_all [bI]; done))
        · rw [if_neg c9] at H
          refine zw_run 1 (pc' := 84) (loc' := [some (.ref 136), some (.int x1), some (.int x2)]) (stk' := [.ref 136]) (fun _ _ _ => rfl) ?_
          refine zw_mget (v := .ref 164) rfl rfl ?_
          refine zw_run 1 (pc' := 88) (loc' := [some (.ref 136), some (.int x1), some (.int x2)]) (stk' := [.int x2, .ref 164]) (fun _ _ _ => rfl) ?_
          obtain ⟨b10, H⟩ := H
          refine zw_iald (j := 164) rfl (by decide) (by decide) rfl b10 ?_
          refine zw_run 1 (pc' := 91) (loc' := [some (.ref 136), some (.int x1), some (.int x2)]) (stk' := [.int 7, .int (zv u7 164 x2)]) (fun _ _ _ => rfl) ?_
          refine zw_br (c := (zv u7 164 x2) = 7) (t1 := 98) (t2 := 94) (loc' := [some (.ref 136), some (.int x1), some (.int x2)]) (stk' := []) (fun _ _ _ => rfl) (fun c11 => ?_) (fun c11 => ?_)
          · rw [if_pos c11] at H
            refine zw_run 1 (pc' := 99) (loc' := [some (.ref 136), some (.int x1), some (.int x2)]) (stk' := [.int x1]) (fun _ _ _ => rfl) ?_
            exact J13 _ (by first | (rw [if_neg c9, if_pos c11]; done) | (rw [if_neg c9, if_pos c11]; rfl) | (clear H J13; simp_all [bI]; done))
          · rw [if_neg c11] at H
            refine zw_run 2 (pc' := 99) (loc' := [some (.ref 136), some (.int x1), some (.int x2)]) (stk' := [.int x2]) (fun _ _ _ => rfl) ?_
            exact J13 _ (by first | (rw [if_neg c9, if_neg c11]; done) | (rw [if_neg c9, if_neg c11]; rfl) | (clear H J13; simp_all [bI]; done))
      · rw [if_neg c6] at H
        refine zw_run 2 (pc' := 55) (loc' := [some (.ref 136), some (.int x1), some (.int x2)]) (stk' := [.int x1, .ref 136]) (fun _ _ _ => rfl) ?_
        obtain ⟨u18, hu18, H⟩ := oq_bind H
        refine zw_callf (As := [.ref 136, .int x1]) (rest := []) (c_177 hu x1 hu18 (d := d + 2)) rfl rfl rfl rfl ?_
        show zw fm sx (d + 5) 178 58 [some (.ref 136), some (.int x1), some (.int x2)] [] u18 Q
        refine zw_run 1 (pc' := 59) (loc' := [some (.ref 136), some (.int x1), some (.int x2)]) (stk' := [.ref 136]) (fun _ _ _ => rfl) ?_
        refine zw_mget (v := .ref 165) rfl rfl ?_
        refine zw_run 1 (pc' := 63) (loc' := [some (.ref 136), some (.int x1), some (.int x2)]) (stk' := [.int x1, .ref 165]) (fun _ _ _ => rfl) ?_
        obtain ⟨b19, H⟩ := oq_ob H
        refine zw_iald (j := 165) rfl (by decide) (by decide) rfl b19 ?_
        refine zw_run 2 (pc' := 43) (loc' := [some (.ref 136), some (.int (zv u18 165 x1)), some (.int x2)]) (stk' := []) (fun _ _ _ => rfl) ?_
        exact l_178_43 hu _ (fun Z x1 x2 q => ih Z x1 x2 q) _ u18 (zv u18 165 x1) x2 H
/-- MarkInlinesModel.write -/
def o_178 (Z : zr_Z)  : Option (Int32 × zr_Z) := (if (bI ((decide ((zf Z 45) = (-1))))) ≤ 0 then g_178_35 oF (zmf (zmf Z 0 (bI ((decide ((zf Z 45) = (-1)))))) 49 0) (-1) 0 else some (0, zmf Z 0 (bI ((decide ((zf Z 45) = (-1)))))))
set_option maxRecDepth 100000 in
set_option maxHeartbeats 4000000 in
theorem t_178 {fm : Value} {sx : Nat × (Nat → Int32)} {d : Nat} {Z : zr_Z} {Q : Option Value → zr_Z → Prop} (hu : fm = .null ∨ ∃ q, fm = .ref q)  (H : oq (o_178 Z) (fun x => Q (some (.int x.1)) x.2)) : zw fm sx (d + 5) 178 0 [some (.ref 136), none, none] [] Z Q := by
  unfold o_178 at H
  refine zw_run 2 (pc' := 2) (loc' := [some (.ref 136), none, none]) (stk' := [.ref 136, .ref 136]) (fun _ _ _ => rfl) ?_
  refine zw_mget (v := .int (zf Z 45)) rfl rfl ?_
  refine zw_run 1 (pc' := 6) (loc' := [some (.ref 136), none, none]) (stk' := [.int (-1), .int (zf Z 45), .ref 136]) (fun _ _ _ => rfl) ?_
  have J3 : ∀ (v2 : Int32), v2 = (bI ((decide ((zf Z 45) = (-1))))) → zw fm sx (d + 5) 178 14 [some (.ref 136), none, none] [.int v2, .ref 136] Z Q := by
    intro v2 ev2
    subst ev2
    refine zw_mput rfl rfl rfl rfl ?_
    show zw fm sx (d + 5) 178 17 [some (.ref 136), none, none] [] (zmf Z 0 (bI ((decide ((zf Z 45) = (-1)))))) Q
    refine zw_run 1 (pc' := 18) (loc' := [some (.ref 136), none, none]) (stk' := [.ref 136]) (fun _ _ _ => rfl) ?_
    refine zw_mget (v := .int (bI ((decide ((zf Z 45) = (-1)))))) rfl rfl ?_
    refine zw_br (c := (bI ((decide ((zf Z 45) = (-1))))) ≤ 0) (t1 := 26) (t2 := 24) (loc' := [some (.ref 136), none, none]) (stk' := []) (fun _ _ _ => rfl) (fun c4 => ?_) (fun c4 => ?_)
    · rw [if_pos c4] at H
      refine zw_run 2 (pc' := 28) (loc' := [some (.ref 136), none, none]) (stk' := [.int 0, .ref 136]) (fun _ _ _ => rfl) ?_
      refine zw_mput rfl rfl rfl rfl ?_
      show zw fm sx (d + 5) 178 31 [some (.ref 136), none, none] [] (zmf (zmf Z 0 (bI ((decide ((zf Z 45) = (-1)))))) 49 0) Q
      refine zw_run 4 (pc' := 35) (loc' := [some (.ref 136), some (.int (-1)), some (.int 0)]) (stk' := []) (fun _ _ _ => rfl) ?_
      exact l_178_35 hu _ (zmf (zmf Z 0 (bI ((decide ((zf Z 45) = (-1)))))) 49 0) (-1) 0 H
    · rw [if_neg c4] at H
      refine zw_run 1 (pc' := 25) (loc' := [some (.ref 136), none, none]) (stk' := [.int 0]) (fun _ _ _ => rfl) ?_
      refine zw_reti (i := .nop) rfl rfl ?_
      have H := oq_some H
      exact H
  refine zw_br (c := ¬ (zf Z 45) = (-1)) (t1 := 13) (t2 := 9) (loc' := [some (.ref 136), none, none]) (stk' := [.ref 136]) (fun _ _ _ => rfl) (fun c1 => ?_) (fun c1 => ?_)
  · skip
    refine zw_run 1 (pc' := 14) (loc' := [some (.ref 136), none, none]) (stk' := [.int 0, .ref 136]) (fun _ _ _ => rfl) ?_
    exact J3 _ (by clear H J3; first | (simp [bI, c1]; done) | (simp [bI, *]; done) | (simp_all [bI]; done) | (rw [decide_eq_true (Decidable.not_not.mp c1)]; rfl) | (exfalso; simp_all; done))
  · skip
    refine zw_run 2 (pc' := 14) (loc' := [some (.ref 136), none, none]) (stk' := [.int 1, .ref 136]) (fun _ _ _ => rfl) ?_
    exact J3 _ (by clear H J3; first | (simp [bI, c1]; done) | (simp [bI, *]; done) | (simp_all [bI]; done) | (rw [decide_eq_true (Decidable.not_not.mp c1)]; rfl) | (exfalso; simp_all; done))
theorem c_178 {fm : Value} {sx : Nat × (Nat → Int32)} {d : Nat} {Z : zr_Z} (hu : fm = .null ∨ ∃ q, fm = .ref q)  {x : Int32 × zr_Z} (hx : o_178 Z = some x) : zl fm sx (d + 6) 178 [.ref 136] Z (fun r Z' => r = some (.int x.1) ∧ Z' = x.2) :=
  zl_of (nL := 3) (loc0 := [some (.ref 136), none, none]) rfl rfl rfl (t_178 hu ⟨x, hx, rfl, rfl⟩)
