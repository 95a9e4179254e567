/-! THE LAW, 5: what it calls that may throw -/
theorem tok_12a : TOK 12 10 100 102 104 2 "the tape is no label" thA 0 := by
  refine ⟨?_, ?_, ?_, ?_, ?_, ?_, ?_, thOk_A, ?_, ?_, ?_, ?_, ?_, ?_, am_m_ok 12 rfl, ?_, ?_⟩ <;> first | rfl | decide +kernel
theorem tok_12b : TOK 12 54 113 115 117 4 "there are too many definitions" thI 0 := by
  refine ⟨?_, ?_, ?_, ?_, ?_, ?_, ?_, thOk_I, ?_, ?_, ?_, ?_, ?_, ?_, am_m_ok 12 rfl, ?_, ?_⟩ <;> first | rfl | decide +kernel
theorem tok_14 : TOK 14 54 100 133 104 10 "the text has a fault" thA 0 := by
  refine ⟨?_, ?_, ?_, ?_, ?_, ?_, ?_, thOk_A, ?_, ?_, ?_, ?_, ?_, ?_, am_m_ok 14 rfl, ?_, ?_⟩ <;> first | rfl | decide +kernel
theorem tok_3 : TOK 3 11 152 154 156 12 "there is no such node" thB 1 := by
  refine ⟨?_, ?_, ?_, ?_, ?_, ?_, ?_, thOk_B, ?_, ?_, ?_, ?_, ?_, ?_, am_m_ok 3 rfl, ?_, ?_⟩ <;> first | rfl | decide +kernel
theorem tok_4 : TOK 4 11 113 163 117 24 "nothing is read" thI 0 := by
  refine ⟨?_, ?_, ?_, ?_, ?_, ?_, ?_, thOk_I, ?_, ?_, ?_, ?_, ?_, ?_, am_m_ok 4 rfl, ?_, ?_⟩ <;> first | rfl | decide +kernel
theorem lg_cmp_self (x : Int64) : lg_cmp x x = 0 := by
  unfold lg_cmp
  rw [if_neg (by exact Int64.lt_irrefl), if_pos rfl]
section La4
variable {fm : Value} {sx : Nat × (Nat → Int32)} {i : Int32}
theorem tl_define (hu : fm = .null ∨ ∃ q, fm = .ref q) {r v : Int32} {Zc Z' : zr_Z} (h1 : o_157 Zc  = some (v, Z')) (h2 : zf Z' 0 = r) (h3 : r = 0 → Z'.2.2.2.2 0 = v.toInt64) : rz fm sx 30 0 220 (ll i) [.int r] Zc 591 (ll i) [] Z' := by
  refine rz_run 2 (pc' := 223) (loc' := [some (.ref 0), some (.ref 57), some (.ref 136), some (.ref 174), some (.int i), some (.int r), none]) (stk' := [.ref 136]) (fun _ _ _ => rfl) ?_
  refine rz_callf (As := [.ref 136]) (rest := []) (c_157 hu  h1 (d := 27)) rfl rfl rfl rfl ?_
  show rz fm sx 30 0 226 ([some (.ref 0), some (.ref 57), some (.ref 136), some (.ref 174), some (.int i), some (.int r), none]) [.int v] Z' _ _ _ _
  refine rz_run 2 (pc' := 229) (loc' := [some (.ref 0), some (.ref 57), some (.ref 136), some (.ref 174), some (.int i), some (.int r), some (.int v)]) (stk' := [.ref 136]) (fun _ _ _ => rfl) ?_
  refine rz_callf (As := [.ref 136]) (rest := []) (c_132 hu (x := zf Z' 0) rfl (d := 29)) rfl rfl rfl rfl ?_
  show rz fm sx 30 0 232 ([some (.ref 0), some (.ref 57), some (.ref 136), some (.ref 174), some (.int i), some (.int r), some (.int v)]) [.int (zf Z' 0)] Z' _ _ _ _
  refine rz_run 1 (pc' := 234) (loc' := [some (.ref 0), some (.ref 57), some (.ref 136), some (.ref 174), some (.int i), some (.int r), some (.int v)]) (stk' := [.int r, .int (zf Z' 0)]) (fun _ _ _ => rfl) ?_
  refine rz_jmp (c := zf Z' 0 = r) (t1 := 239) (t2 := 237) (t := 239) (loc' := [some (.ref 0), some (.ref 57), some (.ref 136), some (.ref 174), some (.int i), some (.int r), some (.int v)]) (stk' := []) (fun _ _ _ => rfl) (if_pos h2) ?_
  refine rz_run 1 (pc' := 241) (loc' := [some (.ref 0), some (.ref 57), some (.ref 136), some (.ref 174), some (.int i), some (.int r), some (.int v)]) (stk' := [.int r]) (fun _ _ _ => rfl) ?_
  have kk : rz fm sx 30 0 256 ([some (.ref 0), some (.ref 57), some (.ref 136), some (.ref 174), some (.int i), some (.int r), some (.int v)]) [] Z' 591 (ll i) [] Z' := by
    refine rz_fgt [true, true, true, true, true, false, false] (loc' := ll i) rfl ?_
    refine rz_run 1 (pc' := 591) (loc' := ll i) (stk' := []) (fun _ _ _ => rfl) ?_
    exact rz_refl
  by_cases hr : r = 0
  · refine rz_jmp (c := ¬ r = 0) (t1 := 256) (t2 := 244) (t := 244) (loc' := [some (.ref 0), some (.ref 57), some (.ref 136), some (.ref 174), some (.int i), some (.int r), some (.int v)]) (stk' := []) (fun _ _ _ => rfl) (if_neg (fun hh => hh hr)) ?_
    refine rz_run 2 (pc' := 246) (loc' := [some (.ref 0), some (.ref 57), some (.ref 136), some (.ref 174), some (.int i), some (.int r), some (.int v)]) (stk' := [.int 0, .ref 174]) (fun _ _ _ => rfl) ?_
    refine rz_lald rfl ?_
    refine rz_run 3 (pc' := 251) (loc' := [some (.ref 0), some (.ref 57), some (.ref 136), some (.ref 174), some (.int i), some (.int r), some (.int v)]) (stk' := [.int (lg_cmp (Z'.2.2.2.2 0) v.toInt64)]) (fun _ _ _ => rfl) ?_
    refine rz_jmp (c := lg_cmp (Z'.2.2.2.2 0) v.toInt64 = 0) (t1 := 256) (t2 := 254) (t := 256) (loc' := [some (.ref 0), some (.ref 57), some (.ref 136), some (.ref 174), some (.int i), some (.int r), some (.int v)]) (stk' := []) (fun _ _ _ => rfl) (if_pos (by rw [h3 hr]; exact lg_cmp_self _)) ?_
    exact kk
  · refine rz_jmp (c := ¬ r = 0) (t1 := 256) (t2 := 244) (t := 256) (loc' := [some (.ref 0), some (.ref 57), some (.ref 136), some (.ref 174), some (.int i), some (.int r), some (.int v)]) (stk' := []) (fun _ _ _ => rfl) (if_pos hr) ?_
    exact kk
theorem hr_define (hu : fm = .null ∨ ∃ q, fm = .ref q) {a : Int32} {Z C' : zr_Z} (h1 : o_12 Z  = some (a, C')) : rz fm sx 28 202 0 (am_ent (am_Mt 202).2.2.1 [.ref 57, .ref 174]) [] Z 18 [some (.ref 57), some (.ref 174), none] [.int 0] (zlg C' (vp_updL C'.2.2.2.2 0 a.toInt64)) := by
  refine rz_run 3 (pc' := 3) (loc' := [some (.ref 57), some (.ref 174), none]) (stk' := [.ref 57, .int 0, .ref 174]) (fun _ _ _ => rfl) ?_
  refine rz_callf (As := [.ref 57]) (rest := [.int 0, .ref 174]) (c_12 hu  h1 (d := 23)) rfl rfl rfl rfl ?_
  show rz fm sx 28 202 6 [some (.ref 57), some (.ref 174), none] [.int a, .int 0, .ref 174] C' _ _ _ _
  refine rz_run 1 (pc' := 7) (loc' := [some (.ref 57), some (.ref 174), none]) (stk' := [.long a.toInt64, .int 0, .ref 174]) (fun _ _ _ => rfl) ?_
  refine rz_last rfl ?_
  refine rz_run 2 (pc' := 18) (loc' := [some (.ref 57), some (.ref 174), none]) (stk' := [.int 0]) (fun _ _ _ => rfl) ?_
  exact rz_refl
theorem tl_read (hu : fm = .null ∨ ∃ q, fm = .ref q) {r v : Int32} {Zc Z' : zr_Z} (h1 : o_159 Zc  = some (v, Z')) (h2 : zf Z' 0 = r) (h3 : r = 0 → Z'.2.2.2.2 0 = v.toInt64) : rz fm sx 30 0 275 (ll i) [.int r] Zc 591 (ll i) [] Z' := by
  refine rz_run 2 (pc' := 278) (loc' := [some (.ref 0), some (.ref 57), some (.ref 136), some (.ref 174), some (.int i), some (.int r), none]) (stk' := [.ref 136]) (fun _ _ _ => rfl) ?_
  refine rz_callf (As := [.ref 136]) (rest := []) (c_159 hu  h1 (d := 23)) rfl rfl rfl rfl ?_
  show rz fm sx 30 0 281 ([some (.ref 0), some (.ref 57), some (.ref 136), some (.ref 174), some (.int i), some (.int r), none]) [.int v] Z' _ _ _ _
  refine rz_run 2 (pc' := 284) (loc' := [some (.ref 0), some (.ref 57), some (.ref 136), some (.ref 174), some (.int i), some (.int r), some (.int v)]) (stk' := [.ref 136]) (fun _ _ _ => rfl) ?_
  refine rz_callf (As := [.ref 136]) (rest := []) (c_132 hu (x := zf Z' 0) rfl (d := 29)) rfl rfl rfl rfl ?_
  show rz fm sx 30 0 287 ([some (.ref 0), some (.ref 57), some (.ref 136), some (.ref 174), some (.int i), some (.int r), some (.int v)]) [.int (zf Z' 0)] Z' _ _ _ _
  refine rz_run 1 (pc' := 289) (loc' := [some (.ref 0), some (.ref 57), some (.ref 136), some (.ref 174), some (.int i), some (.int r), some (.int v)]) (stk' := [.int r, .int (zf Z' 0)]) (fun _ _ _ => rfl) ?_
  refine rz_jmp (c := zf Z' 0 = r) (t1 := 294) (t2 := 292) (t := 294) (loc' := [some (.ref 0), some (.ref 57), some (.ref 136), some (.ref 174), some (.int i), some (.int r), some (.int v)]) (stk' := []) (fun _ _ _ => rfl) (if_pos h2) ?_
  refine rz_run 1 (pc' := 296) (loc' := [some (.ref 0), some (.ref 57), some (.ref 136), some (.ref 174), some (.int i), some (.int r), some (.int v)]) (stk' := [.int r]) (fun _ _ _ => rfl) ?_
  have kk : rz fm sx 30 0 311 ([some (.ref 0), some (.ref 57), some (.ref 136), some (.ref 174), some (.int i), some (.int r), some (.int v)]) [] Z' 591 (ll i) [] Z' := by
    refine rz_fgt [true, true, true, true, true, false, false] (loc' := ll i) rfl ?_
    refine rz_run 1 (pc' := 591) (loc' := ll i) (stk' := []) (fun _ _ _ => rfl) ?_
    exact rz_refl
  by_cases hr : r = 0
  · refine rz_jmp (c := ¬ r = 0) (t1 := 311) (t2 := 299) (t := 299) (loc' := [some (.ref 0), some (.ref 57), some (.ref 136), some (.ref 174), some (.int i), some (.int r), some (.int v)]) (stk' := []) (fun _ _ _ => rfl) (if_neg (fun hh => hh hr)) ?_
    refine rz_run 2 (pc' := 301) (loc' := [some (.ref 0), some (.ref 57), some (.ref 136), some (.ref 174), some (.int i), some (.int r), some (.int v)]) (stk' := [.int 0, .ref 174]) (fun _ _ _ => rfl) ?_
    refine rz_lald rfl ?_
    refine rz_run 3 (pc' := 306) (loc' := [some (.ref 0), some (.ref 57), some (.ref 136), some (.ref 174), some (.int i), some (.int r), some (.int v)]) (stk' := [.int (lg_cmp (Z'.2.2.2.2 0) v.toInt64)]) (fun _ _ _ => rfl) ?_
    refine rz_jmp (c := lg_cmp (Z'.2.2.2.2 0) v.toInt64 = 0) (t1 := 311) (t2 := 309) (t := 311) (loc' := [some (.ref 0), some (.ref 57), some (.ref 136), some (.ref 174), some (.int i), some (.int r), some (.int v)]) (stk' := []) (fun _ _ _ => rfl) (if_pos (by rw [h3 hr]; exact lg_cmp_self _)) ?_
    exact kk
  · refine rz_jmp (c := ¬ r = 0) (t1 := 311) (t2 := 299) (t := 311) (loc' := [some (.ref 0), some (.ref 57), some (.ref 136), some (.ref 174), some (.int i), some (.int r), some (.int v)]) (stk' := []) (fun _ _ _ => rfl) (if_pos hr) ?_
    exact kk
theorem hr_read (hu : fm = .null ∨ ∃ q, fm = .ref q) {a : Int32} {Z C' : zr_Z} (h1 : o_14 Z  = some (a, C')) : rz fm sx 28 203 0 (am_ent (am_Mt 203).2.2.1 [.ref 57, .ref 174]) [] Z 15 [some (.ref 57), some (.ref 174), none] [.int 0] (zlg C' (vp_updL C'.2.2.2.2 0 a.toInt64)) := by
  refine rz_run 3 (pc' := 3) (loc' := [some (.ref 57), some (.ref 174), none]) (stk' := [.ref 57, .int 0, .ref 174]) (fun _ _ _ => rfl) ?_
  refine rz_callf (As := [.ref 57]) (rest := [.int 0, .ref 174]) (c_14 hu  h1 (d := 17)) rfl rfl rfl rfl ?_
  show rz fm sx 28 203 6 [some (.ref 57), some (.ref 174), none] [.int a, .int 0, .ref 174] C' _ _ _ _
  refine rz_run 1 (pc' := 7) (loc' := [some (.ref 57), some (.ref 174), none]) (stk' := [.long a.toInt64, .int 0, .ref 174]) (fun _ _ _ => rfl) ?_
  refine rz_last rfl ?_
  refine rz_run 2 (pc' := 15) (loc' := [some (.ref 57), some (.ref 174), none]) (stk' := [.int 0]) (fun _ _ _ => rfl) ?_
  exact rz_refl
theorem tl_plain (hu : fm = .null ∨ ∃ q, fm = .ref q) (hw : SI sx i) {r v : Int32} {Zc Z' : zr_Z} (h1 : o_170 Zc (sw sx i 1) = some (v, Z')) (h2 : zf Z' 0 = r) (h3 : r = 0 → Z'.2.2.2.2 0 = v.toInt64) : rz fm sx 30 0 452 (ll i) [.int r] Zc 591 (ll i) [] Z' := by
  refine rz_run 2 (pc' := 455) (loc' := [some (.ref 0), some (.ref 57), some (.ref 136), some (.ref 174), some (.int i), some (.int r), none]) (stk' := [.ref 136]) (fun _ _ _ => rfl) ?_
  refine rz_word (i := i) (j := 1) (pc' := 461) (fun _ _ _ => rfl) rfl (hw 1 (by decide)) rfl ?_
  refine rz_callf (As := [.ref 136, .int (sw sx i 1)]) (rest := []) (c_170 hu (sw sx i 1) h1 (d := 26)) rfl rfl rfl rfl ?_
  show rz fm sx 30 0 464 ([some (.ref 0), some (.ref 57), some (.ref 136), some (.ref 174), some (.int i), some (.int r), none]) [.int v] Z' _ _ _ _
  refine rz_run 2 (pc' := 467) (loc' := [some (.ref 0), some (.ref 57), some (.ref 136), some (.ref 174), some (.int i), some (.int r), some (.int v)]) (stk' := [.ref 136]) (fun _ _ _ => rfl) ?_
  refine rz_callf (As := [.ref 136]) (rest := []) (c_132 hu (x := zf Z' 0) rfl (d := 29)) rfl rfl rfl rfl ?_
  show rz fm sx 30 0 470 ([some (.ref 0), some (.ref 57), some (.ref 136), some (.ref 174), some (.int i), some (.int r), some (.int v)]) [.int (zf Z' 0)] Z' _ _ _ _
  refine rz_run 1 (pc' := 472) (loc' := [some (.ref 0), some (.ref 57), some (.ref 136), some (.ref 174), some (.int i), some (.int r), some (.int v)]) (stk' := [.int r, .int (zf Z' 0)]) (fun _ _ _ => rfl) ?_
  refine rz_jmp (c := zf Z' 0 = r) (t1 := 477) (t2 := 475) (t := 477) (loc' := [some (.ref 0), some (.ref 57), some (.ref 136), some (.ref 174), some (.int i), some (.int r), some (.int v)]) (stk' := []) (fun _ _ _ => rfl) (if_pos h2) ?_
  refine rz_run 1 (pc' := 479) (loc' := [some (.ref 0), some (.ref 57), some (.ref 136), some (.ref 174), some (.int i), some (.int r), some (.int v)]) (stk' := [.int r]) (fun _ _ _ => rfl) ?_
  have kk : rz fm sx 30 0 494 ([some (.ref 0), some (.ref 57), some (.ref 136), some (.ref 174), some (.int i), some (.int r), some (.int v)]) [] Z' 591 (ll i) [] Z' := by
    refine rz_fgt [true, true, true, true, true, false, false] (loc' := ll i) rfl ?_
    refine rz_run 1 (pc' := 591) (loc' := ll i) (stk' := []) (fun _ _ _ => rfl) ?_
    exact rz_refl
  by_cases hr : r = 0
  · refine rz_jmp (c := ¬ r = 0) (t1 := 494) (t2 := 482) (t := 482) (loc' := [some (.ref 0), some (.ref 57), some (.ref 136), some (.ref 174), some (.int i), some (.int r), some (.int v)]) (stk' := []) (fun _ _ _ => rfl) (if_neg (fun hh => hh hr)) ?_
    refine rz_run 2 (pc' := 484) (loc' := [some (.ref 0), some (.ref 57), some (.ref 136), some (.ref 174), some (.int i), some (.int r), some (.int v)]) (stk' := [.int 0, .ref 174]) (fun _ _ _ => rfl) ?_
    refine rz_lald rfl ?_
    refine rz_run 3 (pc' := 489) (loc' := [some (.ref 0), some (.ref 57), some (.ref 136), some (.ref 174), some (.int i), some (.int r), some (.int v)]) (stk' := [.int (lg_cmp (Z'.2.2.2.2 0) v.toInt64)]) (fun _ _ _ => rfl) ?_
    refine rz_jmp (c := lg_cmp (Z'.2.2.2.2 0) v.toInt64 = 0) (t1 := 494) (t2 := 492) (t := 494) (loc' := [some (.ref 0), some (.ref 57), some (.ref 136), some (.ref 174), some (.int i), some (.int r), some (.int v)]) (stk' := []) (fun _ _ _ => rfl) (if_pos (by rw [h3 hr]; exact lg_cmp_self _)) ?_
    exact kk
  · refine rz_jmp (c := ¬ r = 0) (t1 := 494) (t2 := 482) (t := 494) (loc' := [some (.ref 0), some (.ref 57), some (.ref 136), some (.ref 174), some (.int i), some (.int r), some (.int v)]) (stk' := []) (fun _ _ _ => rfl) (if_pos hr) ?_
    exact kk
theorem hr_plain (hu : fm = .null ∨ ∃ q, fm = .ref q) {k : Int32} {a : Int32} {Z C' : zr_Z} (h1 : o_3 Z k = some (a, C')) : rz fm sx 28 204 0 (am_ent (am_Mt 204).2.2.1 [.ref 57, .int k, .ref 174]) [] Z 16 [some (.ref 57), some (.int k), some (.ref 174), none] [.int 0] (zlg C' (vp_updL C'.2.2.2.2 0 a.toInt64)) := by
  refine rz_run 4 (pc' := 4) (loc' := [some (.ref 57), some (.int k), some (.ref 174), none]) (stk' := [.int k, .ref 57, .int 0, .ref 174]) (fun _ _ _ => rfl) ?_
  refine rz_callf (As := [.ref 57, .int k]) (rest := [.int 0, .ref 174]) (c_3 hu k h1 (d := 19)) rfl rfl rfl rfl ?_
  show rz fm sx 28 204 7 [some (.ref 57), some (.int k), some (.ref 174), none] [.int a, .int 0, .ref 174] C' _ _ _ _
  refine rz_run 1 (pc' := 8) (loc' := [some (.ref 57), some (.int k), some (.ref 174), none]) (stk' := [.long a.toInt64, .int 0, .ref 174]) (fun _ _ _ => rfl) ?_
  refine rz_last rfl ?_
  refine rz_run 2 (pc' := 16) (loc' := [some (.ref 57), some (.int k), some (.ref 174), none]) (stk' := [.int 0]) (fun _ _ _ => rfl) ?_
  exact rz_refl
theorem tl_write (hu : fm = .null ∨ ∃ q, fm = .ref q) {r v : Int32} {Zc Z' : zr_Z} (h1 : o_178 Zc  = some (v, Z')) (h2 : zf Z' 0 = r) (h3 : r = 0 → Z'.2.2.2.2 0 = v.toInt64) : rz fm sx 30 0 502 (ll i) [.int r] Zc 591 (ll i) [] Z' := by
  refine rz_run 2 (pc' := 505) (loc' := [some (.ref 0), some (.ref 57), some (.ref 136), some (.ref 174), some (.int i), some (.int r), none]) (stk' := [.ref 136]) (fun _ _ _ => rfl) ?_
  refine rz_callf (As := [.ref 136]) (rest := []) (c_178 hu  h1 (d := 24)) rfl rfl rfl rfl ?_
  show rz fm sx 30 0 508 ([some (.ref 0), some (.ref 57), some (.ref 136), some (.ref 174), some (.int i), some (.int r), none]) [.int v] Z' _ _ _ _
  refine rz_run 2 (pc' := 511) (loc' := [some (.ref 0), some (.ref 57), some (.ref 136), some (.ref 174), some (.int i), some (.int r), some (.int v)]) (stk' := [.ref 136]) (fun _ _ _ => rfl) ?_
  refine rz_callf (As := [.ref 136]) (rest := []) (c_132 hu (x := zf Z' 0) rfl (d := 29)) rfl rfl rfl rfl ?_
  show rz fm sx 30 0 514 ([some (.ref 0), some (.ref 57), some (.ref 136), some (.ref 174), some (.int i), some (.int r), some (.int v)]) [.int (zf Z' 0)] Z' _ _ _ _
  refine rz_run 1 (pc' := 516) (loc' := [some (.ref 0), some (.ref 57), some (.ref 136), some (.ref 174), some (.int i), some (.int r), some (.int v)]) (stk' := [.int r, .int (zf Z' 0)]) (fun _ _ _ => rfl) ?_
  refine rz_jmp (c := zf Z' 0 = r) (t1 := 521) (t2 := 519) (t := 521) (loc' := [some (.ref 0), some (.ref 57), some (.ref 136), some (.ref 174), some (.int i), some (.int r), some (.int v)]) (stk' := []) (fun _ _ _ => rfl) (if_pos h2) ?_
  refine rz_run 1 (pc' := 523) (loc' := [some (.ref 0), some (.ref 57), some (.ref 136), some (.ref 174), some (.int i), some (.int r), some (.int v)]) (stk' := [.int r]) (fun _ _ _ => rfl) ?_
  have kk : rz fm sx 30 0 538 ([some (.ref 0), some (.ref 57), some (.ref 136), some (.ref 174), some (.int i), some (.int r), some (.int v)]) [] Z' 591 (ll i) [] Z' := by
    refine rz_fgt [true, true, true, true, true, false, false] (loc' := ll i) rfl ?_
    refine rz_run 1 (pc' := 591) (loc' := ll i) (stk' := []) (fun _ _ _ => rfl) ?_
    exact rz_refl
  by_cases hr : r = 0
  · refine rz_jmp (c := ¬ r = 0) (t1 := 538) (t2 := 526) (t := 526) (loc' := [some (.ref 0), some (.ref 57), some (.ref 136), some (.ref 174), some (.int i), some (.int r), some (.int v)]) (stk' := []) (fun _ _ _ => rfl) (if_neg (fun hh => hh hr)) ?_
    refine rz_run 2 (pc' := 528) (loc' := [some (.ref 0), some (.ref 57), some (.ref 136), some (.ref 174), some (.int i), some (.int r), some (.int v)]) (stk' := [.int 0, .ref 174]) (fun _ _ _ => rfl) ?_
    refine rz_lald rfl ?_
    refine rz_run 3 (pc' := 533) (loc' := [some (.ref 0), some (.ref 57), some (.ref 136), some (.ref 174), some (.int i), some (.int r), some (.int v)]) (stk' := [.int (lg_cmp (Z'.2.2.2.2 0) v.toInt64)]) (fun _ _ _ => rfl) ?_
    refine rz_jmp (c := lg_cmp (Z'.2.2.2.2 0) v.toInt64 = 0) (t1 := 538) (t2 := 536) (t := 538) (loc' := [some (.ref 0), some (.ref 57), some (.ref 136), some (.ref 174), some (.int i), some (.int r), some (.int v)]) (stk' := []) (fun _ _ _ => rfl) (if_pos (by rw [h3 hr]; exact lg_cmp_self _)) ?_
    exact kk
  · refine rz_jmp (c := ¬ r = 0) (t1 := 538) (t2 := 526) (t := 538) (loc' := [some (.ref 0), some (.ref 57), some (.ref 136), some (.ref 174), some (.int i), some (.int r), some (.int v)]) (stk' := []) (fun _ _ _ => rfl) (if_pos hr) ?_
    exact kk
theorem hr_write (hu : fm = .null ∨ ∃ q, fm = .ref q) {a : Int32} {Z C' : zr_Z} (h1 : o_4 Z  = some (a, C')) : rz fm sx 28 205 0 (am_ent (am_Mt 205).2.2.1 [.ref 57, .ref 174]) [] Z 15 [some (.ref 57), some (.ref 174), none] [.int 0] (zlg C' (vp_updL C'.2.2.2.2 0 a.toInt64)) := by
  refine rz_run 3 (pc' := 3) (loc' := [some (.ref 57), some (.ref 174), none]) (stk' := [.ref 57, .int 0, .ref 174]) (fun _ _ _ => rfl) ?_
  refine rz_callf (As := [.ref 57]) (rest := [.int 0, .ref 174]) (c_4 hu  h1 (d := 18)) rfl rfl rfl rfl ?_
  show rz fm sx 28 205 6 [some (.ref 57), some (.ref 174), none] [.int a, .int 0, .ref 174] C' _ _ _ _
  refine rz_run 1 (pc' := 7) (loc' := [some (.ref 57), some (.ref 174), none]) (stk' := [.long a.toInt64, .int 0, .ref 174]) (fun _ _ _ => rfl) ?_
  refine rz_last rfl ?_
  refine rz_run 2 (pc' := 15) (loc' := [some (.ref 57), some (.ref 174), none]) (stk' := [.int 0]) (fun _ _ _ => rfl) ?_
  exact rz_refl
end La4
