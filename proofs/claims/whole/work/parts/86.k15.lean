/-! THE LAW, 4: what it calls that never throws -/
section La3
variable {fm : Value} {sx : Nat × (Nat → Int32)} {Z : zr_Z} {i : Int32}
def SI (sx : Nat × (Nat → Int32)) (i : Int32) : Prop := ∀ j : Int32, j ∈ [(1 : Int32), 2, 3, 4, 5] → ¬ (i + j < 0 ∨ sx.1 ≤ (i + j).toNatClampNeg)
def sw (sx : Nat × (Nat → Int32)) (i j : Int32) : Int32 := sx.2 (i + j).toNatClampNeg
abbrev ll (i : Int32) : am_L := [some (.ref 0), some (.ref 57), some (.ref 136), some (.ref 174), some (.int i), none, none]
theorem L_bool389 {pcT : Nat} {locT : am_L} {stkT stk : List Value} {ZT : zr_Z} {w : Int32} (kk : rz fm sx 30 0 397 (ll i) (.int (bI (!(w == 0))) :: stk) Z pcT locT stkT ZT) : rz fm sx 30 0 389 (ll i) (.int w :: stk) Z pcT locT stkT ZT := by
  by_cases hw : w = 0
  · refine rz_jmp (c := w = 0) (t1 := 396) (t2 := 392) (t := 396) (loc' := ll i) (stk' := stk) (fun _ _ _ => rfl) (if_pos hw) ?_
    refine rz_run 1 (pc' := 397) (loc' := ll i) (stk' := .int 0 :: stk) (fun _ _ _ => rfl) ?_
    rw [show (!(w == 0)) = false by rw [hw]; rfl] at kk
    exact kk
  · refine rz_jmp (c := w = 0) (t1 := 396) (t2 := 392) (t := 392) (loc' := ll i) (stk' := stk) (fun _ _ _ => rfl) (if_neg hw) ?_
    refine rz_run 2 (pc' := 397) (loc' := ll i) (stk' := .int 1 :: stk) (fun _ _ _ => rfl) ?_
    rw [show (!(w == 0)) = true by rw [beq_eq_false_iff_ne.mpr hw]; rfl] at kk
    exact kk
theorem L_bool419 {pcT : Nat} {locT : am_L} {stkT stk : List Value} {ZT : zr_Z} {w : Int32} (kk : rz fm sx 30 0 427 (ll i) (.int (bI (!(w == 0))) :: stk) Z pcT locT stkT ZT) : rz fm sx 30 0 419 (ll i) (.int w :: stk) Z pcT locT stkT ZT := by
  by_cases hw : w = 0
  · refine rz_jmp (c := w = 0) (t1 := 426) (t2 := 422) (t := 426) (loc' := ll i) (stk' := stk) (fun _ _ _ => rfl) (if_pos hw) ?_
    refine rz_run 1 (pc' := 427) (loc' := ll i) (stk' := .int 0 :: stk) (fun _ _ _ => rfl) ?_
    rw [show (!(w == 0)) = false by rw [hw]; rfl] at kk
    exact kk
  · refine rz_jmp (c := w = 0) (t1 := 426) (t2 := 422) (t := 422) (loc' := ll i) (stk' := stk) (fun _ _ _ => rfl) (if_neg hw) ?_
    refine rz_run 2 (pc' := 427) (loc' := ll i) (stk' := .int 1 :: stk) (fun _ _ _ => rfl) ?_
    rw [show (!(w == 0)) = true by rw [beq_eq_false_iff_ne.mpr hw]; rfl] at kk
    exact kk
theorem L_feed (hu : fm = .null ∨ ∃ q, fm = .ref q) (h : REL Z Z) (hw : SI sx i) : ∃ Z', rz fm sx 30 0 108 (ll i) [] Z 591 (ll i) [] Z' ∧ REL Z' Z' := by
  obtain ⟨Z', h1, h2, -⟩ := st_feed h (sw sx i 1) (sw sx i 2) (sw sx i 3) (sw sx i 4) (sw sx i 5)
  refine ⟨Z', ?_, h2⟩
  refine rz_run 1 (pc' := 109) (loc' := ll i) (stk' := .ref 57 :: []) (fun _ _ _ => rfl) ?_
  refine rz_word (i := i) (j := 1) (pc' := 115) (fun _ _ _ => rfl) rfl (hw 1 (by decide)) rfl ?_
  refine rz_word (i := i) (j := 2) (pc' := 121) (fun _ _ _ => rfl) rfl (hw 2 (by decide)) rfl ?_
  refine rz_word (i := i) (j := 3) (pc' := 127) (fun _ _ _ => rfl) rfl (hw 3 (by decide)) rfl ?_
  refine rz_word (i := i) (j := 4) (pc' := 133) (fun _ _ _ => rfl) rfl (hw 4 (by decide)) rfl ?_
  refine rz_word (i := i) (j := 5) (pc' := 139) (fun _ _ _ => rfl) rfl (hw 5 (by decide)) rfl ?_
  refine rz_callf (As := [.ref 57, .int (sw sx i 1), .int (sw sx i 2), .int (sw sx i 3), .int (sw sx i 4), .int (sw sx i 5)]) (rest := []) (c_8 (sw sx i 1) (sw sx i 2) (sw sx i 3) (sw sx i 4) (sw sx i 5) (d := 27)) rfl rfl rfl rfl ?_
  show rz fm sx 30 0 142 (ll i) ([]) (f_8 Z (sw sx i 1) (sw sx i 2) (sw sx i 3) (sw sx i 4) (sw sx i 5)) _ _ _ _
  refine rz_run 1 (pc' := 143) (loc' := ll i) (stk' := .ref 136 :: []) (fun _ _ _ => rfl) ?_
  refine rz_word (i := i) (j := 1) (pc' := 149) (fun _ _ _ => rfl) rfl (hw 1 (by decide)) rfl ?_
  refine rz_word (i := i) (j := 2) (pc' := 155) (fun _ _ _ => rfl) rfl (hw 2 (by decide)) rfl ?_
  refine rz_word (i := i) (j := 3) (pc' := 161) (fun _ _ _ => rfl) rfl (hw 3 (by decide)) rfl ?_
  refine rz_word (i := i) (j := 4) (pc' := 167) (fun _ _ _ => rfl) rfl (hw 4 (by decide)) rfl ?_
  refine rz_word (i := i) (j := 5) (pc' := 173) (fun _ _ _ => rfl) rfl (hw 5 (by decide)) rfl ?_
  refine rz_callf (As := [.ref 136, .int (sw sx i 1), .int (sw sx i 2), .int (sw sx i 3), .int (sw sx i 4), .int (sw sx i 5)]) (rest := []) (c_153 hu (sw sx i 1) (sw sx i 2) (sw sx i 3) (sw sx i 4) (sw sx i 5) h1 (d := 29)) rfl rfl rfl rfl ?_
  show rz fm sx 30 0 176 (ll i) ([]) Z' _ _ _ _
  refine rz_run 1 (pc' := 591) (loc' := ll i) (stk' := []) (fun _ _ _ => rfl) ?_
  exact rz_refl
theorem L_end (hu : fm = .null ∨ ∃ q, fm = .ref q) (h : REL Z Z) (hw : SI sx i) : ∃ Z', rz fm sx 30 0 179 (ll i) [] Z 591 (ll i) [] Z' ∧ REL Z' Z' := by
  obtain ⟨Z', h1, h2, -⟩ := st_end h (sw sx i 1)
  refine ⟨Z', ?_, h2⟩
  refine rz_run 1 (pc' := 180) (loc' := ll i) (stk' := .ref 57 :: []) (fun _ _ _ => rfl) ?_
  refine rz_word (i := i) (j := 1) (pc' := 186) (fun _ _ _ => rfl) rfl (hw 1 (by decide)) rfl ?_
  refine rz_callf (As := [.ref 57, .int (sw sx i 1)]) (rest := []) (c_10 (sw sx i 1) (d := 26)) rfl rfl rfl rfl ?_
  show rz fm sx 30 0 189 (ll i) (.int (f_10 Z (sw sx i 1)).1 :: []) (f_10 Z (sw sx i 1)).2 _ _ _ _
  refine rz_run 1 (pc' := 190) (loc' := ll i) (stk' := .ref 136 :: (.int (f_10 Z (sw sx i 1)).1 :: [])) (fun _ _ _ => rfl) ?_
  refine rz_word (i := i) (j := 1) (pc' := 196) (fun _ _ _ => rfl) rfl (hw 1 (by decide)) rfl ?_
  refine rz_callf (As := [.ref 136, .int (sw sx i 1)]) (rest := (.int (f_10 Z (sw sx i 1)).1 :: [])) (c_155 hu (sw sx i 1) h1 (d := 29)) rfl rfl rfl rfl ?_
  show rz fm sx 30 0 199 (ll i) (.int (f_10 Z (sw sx i 1)).1 :: .int (f_10 Z (sw sx i 1)).1 :: []) Z' _ _ _ _
  refine rz_jmp (c := (f_10 Z (sw sx i 1)).1 = (f_10 Z (sw sx i 1)).1) (t1 := 591) (t2 := 202) (t := 591) (loc' := ll i) (stk' := []) (fun _ _ _ => rfl) (if_pos rfl) ?_
  exact rz_refl
theorem L_wipe (hu : fm = .null ∨ ∃ q, fm = .ref q) (h : REL Z Z) (hw : SI sx i) : ∃ Z', rz fm sx 30 0 204 (ll i) [] Z 591 (ll i) [] Z' ∧ REL Z' Z' := by
  obtain ⟨Z', h1, h2, -⟩ := st_wipe h 
  refine ⟨Z', ?_, h2⟩
  refine rz_run 1 (pc' := 205) (loc' := ll i) (stk' := .ref 57 :: []) (fun _ _ _ => rfl) ?_
  refine rz_callf (As := [.ref 57]) (rest := []) (c_11  (d := 28)) rfl rfl rfl rfl ?_
  show rz fm sx 30 0 208 (ll i) ([]) (f_11 Z) _ _ _ _
  refine rz_run 1 (pc' := 209) (loc' := ll i) (stk' := .ref 136 :: []) (fun _ _ _ => rfl) ?_
  refine rz_callf (As := [.ref 136]) (rest := []) (c_156 hu  h1 (d := 29)) rfl rfl rfl rfl ?_
  show rz fm sx 30 0 212 (ll i) ([]) Z' _ _ _ _
  refine rz_run 1 (pc' := 591) (loc' := ll i) (stk' := []) (fun _ _ _ => rfl) ?_
  exact rz_refl
theorem L_drop (hu : fm = .null ∨ ∃ q, fm = .ref q) (h : REL Z Z) (hw : SI sx i) : ∃ Z', rz fm sx 30 0 259 (ll i) [] Z 591 (ll i) [] Z' ∧ REL Z' Z' := by
  obtain ⟨Z', h1, h2, -⟩ := st_drop h 
  refine ⟨Z', ?_, h2⟩
  refine rz_run 1 (pc' := 260) (loc' := ll i) (stk' := .ref 57 :: []) (fun _ _ _ => rfl) ?_
  refine rz_callf (As := [.ref 57]) (rest := []) (c_13  (d := 27)) rfl rfl rfl rfl ?_
  show rz fm sx 30 0 263 (ll i) ([]) (f_13 Z) _ _ _ _
  refine rz_run 1 (pc' := 264) (loc' := ll i) (stk' := .ref 136 :: []) (fun _ _ _ => rfl) ?_
  refine rz_callf (As := [.ref 136]) (rest := []) (c_158 hu  h1 (d := 29)) rfl rfl rfl rfl ?_
  show rz fm sx 30 0 267 (ll i) ([]) Z' _ _ _ _
  refine rz_run 1 (pc' := 591) (loc' := ll i) (stk' := []) (fun _ _ _ => rfl) ?_
  exact rz_refl
theorem L_fault (hu : fm = .null ∨ ∃ q, fm = .ref q) (h : REL Z Z) (hw : SI sx i) : ∃ Z', rz fm sx 30 0 314 (ll i) [] Z 591 (ll i) [] Z' ∧ REL Z' Z' := by
  obtain ⟨Z', h1, h2⟩ := st_fault h (sw sx i 1)
  refine ⟨Z', ?_, h2⟩
  refine rz_run 1 (pc' := 315) (loc' := ll i) (stk' := .ref 57 :: []) (fun _ _ _ => rfl) ?_
  refine rz_word (i := i) (j := 1) (pc' := 321) (fun _ _ _ => rfl) rfl (hw 1 (by decide)) rfl ?_
  refine rz_callf (As := [.ref 57, .int (sw sx i 1)]) (rest := []) (c_15 (sw sx i 1) (d := 29)) rfl rfl rfl rfl ?_
  show rz fm sx 30 0 324 (ll i) (.int (f_15 Z (sw sx i 1)) :: []) Z _ _ _ _
  refine rz_run 1 (pc' := 325) (loc' := ll i) (stk' := .ref 136 :: (.int (f_15 Z (sw sx i 1)) :: [])) (fun _ _ _ => rfl) ?_
  refine rz_word (i := i) (j := 1) (pc' := 331) (fun _ _ _ => rfl) rfl (hw 1 (by decide)) rfl ?_
  refine rz_callf (As := [.ref 136, .int (sw sx i 1)]) (rest := (.int (f_15 Z (sw sx i 1)) :: [])) (c_160 hu (sw sx i 1) h1 (d := 29)) rfl rfl rfl rfl ?_
  show rz fm sx 30 0 334 (ll i) (.int (f_15 Z (sw sx i 1)) :: .int (f_15 Z (sw sx i 1)) :: []) Z' _ _ _ _
  refine rz_jmp (c := (f_15 Z (sw sx i 1)) = (f_15 Z (sw sx i 1))) (t1 := 591) (t2 := 337) (t := 591) (loc' := ll i) (stk' := []) (fun _ _ _ => rfl) (if_pos rfl) ?_
  exact rz_refl
theorem L_node (hu : fm = .null ∨ ∃ q, fm = .ref q) (h : REL Z Z) (hw : SI sx i) : ∃ Z', rz fm sx 30 0 339 (ll i) [] Z 591 (ll i) [] Z' ∧ REL Z' Z' := by
  obtain ⟨Z', h1, h2⟩ := st_node h (sw sx i 1) (sw sx i 2)
  refine ⟨Z', ?_, h2⟩
  refine rz_run 1 (pc' := 340) (loc' := ll i) (stk' := .ref 57 :: []) (fun _ _ _ => rfl) ?_
  refine rz_word (i := i) (j := 1) (pc' := 346) (fun _ _ _ => rfl) rfl (hw 1 (by decide)) rfl ?_
  refine rz_word (i := i) (j := 2) (pc' := 352) (fun _ _ _ => rfl) rfl (hw 2 (by decide)) rfl ?_
  refine rz_callf (As := [.ref 57, .int (sw sx i 1), .int (sw sx i 2)]) (rest := []) (c_1 (sw sx i 1) (sw sx i 2) (d := 27)) rfl rfl rfl rfl ?_
  show rz fm sx 30 0 355 (ll i) (.int (f_1 Z (sw sx i 1) (sw sx i 2)) :: []) Z _ _ _ _
  refine rz_run 1 (pc' := 356) (loc' := ll i) (stk' := .ref 136 :: (.int (f_1 Z (sw sx i 1) (sw sx i 2)) :: [])) (fun _ _ _ => rfl) ?_
  refine rz_word (i := i) (j := 1) (pc' := 362) (fun _ _ _ => rfl) rfl (hw 1 (by decide)) rfl ?_
  refine rz_word (i := i) (j := 2) (pc' := 368) (fun _ _ _ => rfl) rfl (hw 2 (by decide)) rfl ?_
  refine rz_callf (As := [.ref 136, .int (sw sx i 1), .int (sw sx i 2)]) (rest := (.int (f_1 Z (sw sx i 1) (sw sx i 2)) :: [])) (c_162 hu (sw sx i 1) (sw sx i 2) h1 (d := 28)) rfl rfl rfl rfl ?_
  show rz fm sx 30 0 371 (ll i) (.int (f_1 Z (sw sx i 1) (sw sx i 2)) :: .int (f_1 Z (sw sx i 1) (sw sx i 2)) :: []) Z' _ _ _ _
  refine rz_jmp (c := (f_1 Z (sw sx i 1) (sw sx i 2)) = (f_1 Z (sw sx i 1) (sw sx i 2))) (t1 := 591) (t2 := 374) (t := 591) (loc' := ll i) (stk' := []) (fun _ _ _ => rfl) (if_pos rfl) ?_
  exact rz_refl
theorem L_letter (hu : fm = .null ∨ ∃ q, fm = .ref q) (h : REL Z Z) (hw : SI sx i) : ∃ Z', rz fm sx 30 0 376 (ll i) [] Z 591 (ll i) [] Z' ∧ REL Z' Z' := by
  obtain ⟨Z', h1, h2⟩ := st_letter h (sw sx i 1) (!(sw sx i 2 == 0)) (sw sx i 3)
  refine ⟨Z', ?_, h2⟩
  refine rz_run 1 (pc' := 377) (loc' := ll i) (stk' := .ref 57 :: []) (fun _ _ _ => rfl) ?_
  refine rz_word (i := i) (j := 1) (pc' := 383) (fun _ _ _ => rfl) rfl (hw 1 (by decide)) rfl ?_
  refine rz_word (i := i) (j := 2) (pc' := 389) (fun _ _ _ => rfl) rfl (hw 2 (by decide)) rfl ?_
  refine L_bool389 ?_
  refine rz_word (i := i) (j := 3) (pc' := 403) (fun _ _ _ => rfl) rfl (hw 3 (by decide)) rfl ?_
  refine rz_callf (As := [.ref 57, .int (sw sx i 1), .int (bI (!(sw sx i 2 == 0))), .int (sw sx i 3)]) (rest := []) (c_2 (sw sx i 1) (!(sw sx i 2 == 0)) (sw sx i 3) (d := 27)) rfl rfl rfl rfl ?_
  show rz fm sx 30 0 406 (ll i) (.int (f_2 Z (sw sx i 1) (!(sw sx i 2 == 0)) (sw sx i 3)) :: []) Z _ _ _ _
  refine rz_run 1 (pc' := 407) (loc' := ll i) (stk' := .ref 136 :: (.int (f_2 Z (sw sx i 1) (!(sw sx i 2 == 0)) (sw sx i 3)) :: [])) (fun _ _ _ => rfl) ?_
  refine rz_word (i := i) (j := 1) (pc' := 413) (fun _ _ _ => rfl) rfl (hw 1 (by decide)) rfl ?_
  refine rz_word (i := i) (j := 2) (pc' := 419) (fun _ _ _ => rfl) rfl (hw 2 (by decide)) rfl ?_
  refine L_bool419 ?_
  refine rz_word (i := i) (j := 3) (pc' := 433) (fun _ _ _ => rfl) rfl (hw 3 (by decide)) rfl ?_
  refine rz_callf (As := [.ref 136, .int (sw sx i 1), .int (bI (!(sw sx i 2 == 0))), .int (sw sx i 3)]) (rest := (.int (f_2 Z (sw sx i 1) (!(sw sx i 2 == 0)) (sw sx i 3)) :: [])) (c_163 hu (sw sx i 1) (!(sw sx i 2 == 0)) (sw sx i 3) h1 (d := 28)) rfl rfl rfl rfl ?_
  show rz fm sx 30 0 436 (ll i) (.int (f_2 Z (sw sx i 1) (!(sw sx i 2 == 0)) (sw sx i 3)) :: .int (f_2 Z (sw sx i 1) (!(sw sx i 2 == 0)) (sw sx i 3)) :: []) Z' _ _ _ _
  refine rz_jmp (c := (f_2 Z (sw sx i 1) (!(sw sx i 2 == 0)) (sw sx i 3)) = (f_2 Z (sw sx i 1) (!(sw sx i 2 == 0)) (sw sx i 3))) (t1 := 591) (t2 := 439) (t := 591) (loc' := ll i) (stk' := []) (fun _ _ _ => rfl) (if_pos rfl) ?_
  exact rz_refl
theorem L_output (hu : fm = .null ∨ ∃ q, fm = .ref q) (h : REL Z Z) (hw : SI sx i) : ∃ Z', rz fm sx 30 0 541 (ll i) [] Z 591 (ll i) [] Z' ∧ REL Z' Z' := by
  obtain ⟨Z', h1, h2⟩ := st_output h (sw sx i 1)
  refine ⟨Z', ?_, h2⟩
  refine rz_run 1 (pc' := 542) (loc' := ll i) (stk' := .ref 57 :: []) (fun _ _ _ => rfl) ?_
  refine rz_word (i := i) (j := 1) (pc' := 548) (fun _ _ _ => rfl) rfl (hw 1 (by decide)) rfl ?_
  refine rz_callf (As := [.ref 57, .int (sw sx i 1)]) (rest := []) (c_5 (sw sx i 1) (d := 28)) rfl rfl rfl rfl ?_
  show rz fm sx 30 0 551 (ll i) (.int (f_5 Z (sw sx i 1)) :: []) Z _ _ _ _
  refine rz_run 1 (pc' := 552) (loc' := ll i) (stk' := .ref 136 :: (.int (f_5 Z (sw sx i 1)) :: [])) (fun _ _ _ => rfl) ?_
  refine rz_word (i := i) (j := 1) (pc' := 558) (fun _ _ _ => rfl) rfl (hw 1 (by decide)) rfl ?_
  refine rz_callf (As := [.ref 136, .int (sw sx i 1)]) (rest := (.int (f_5 Z (sw sx i 1)) :: [])) (c_179 hu (sw sx i 1) h1 (d := 29)) rfl rfl rfl rfl ?_
  show rz fm sx 30 0 561 (ll i) (.int (f_5 Z (sw sx i 1)) :: .int (f_5 Z (sw sx i 1)) :: []) Z' _ _ _ _
  refine rz_jmp (c := (f_5 Z (sw sx i 1)) = (f_5 Z (sw sx i 1))) (t1 := 591) (t2 := 564) (t := 591) (loc' := ll i) (stk' := []) (fun _ _ _ => rfl) (if_pos rfl) ?_
  exact rz_refl
theorem L_about (hu : fm = .null ∨ ∃ q, fm = .ref q) (h : REL Z Z) (hw : SI sx i) : ∃ Z', rz fm sx 30 0 566 (ll i) [] Z 591 (ll i) [] Z' ∧ REL Z' Z' := by
  obtain ⟨Z', h1, h2⟩ := st_about h (sw sx i 1)
  refine ⟨Z', ?_, h2⟩
  refine rz_run 1 (pc' := 567) (loc' := ll i) (stk' := .ref 57 :: []) (fun _ _ _ => rfl) ?_
  refine rz_word (i := i) (j := 1) (pc' := 573) (fun _ _ _ => rfl) rfl (hw 1 (by decide)) rfl ?_
  refine rz_callf (As := [.ref 57, .int (sw sx i 1)]) (rest := []) (c_6 (sw sx i 1) (d := 27)) rfl rfl rfl rfl ?_
  show rz fm sx 30 0 576 (ll i) (.int (f_6 Z (sw sx i 1)) :: []) Z _ _ _ _
  refine rz_run 1 (pc' := 577) (loc' := ll i) (stk' := .ref 136 :: (.int (f_6 Z (sw sx i 1)) :: [])) (fun _ _ _ => rfl) ?_
  refine rz_word (i := i) (j := 1) (pc' := 583) (fun _ _ _ => rfl) rfl (hw 1 (by decide)) rfl ?_
  refine rz_callf (As := [.ref 136, .int (sw sx i 1)]) (rest := (.int (f_6 Z (sw sx i 1)) :: [])) (c_180 hu (sw sx i 1) h1 (d := 29)) rfl rfl rfl rfl ?_
  show rz fm sx 30 0 586 (ll i) (.int (f_6 Z (sw sx i 1)) :: .int (f_6 Z (sw sx i 1)) :: []) Z' _ _ _ _
  refine rz_jmp (c := (f_6 Z (sw sx i 1)) = (f_6 Z (sw sx i 1))) (t1 := 591) (t2 := 589) (t := 591) (loc' := ll i) (stk' := []) (fun _ _ _ => rfl) (if_pos rfl) ?_
  exact rz_refl
end La3
