/-! walks into Option; written by wip/whole/gen_opt.py -/
/-- MarkInlines$Writer.insteadOf -/
def o_100 (Z : zr_Z) (c : Int32) : Option Nat := (if c = 34 then some 9 else (if c = 38 then some 6 else (if c = 60 then some 7 else (if c = 62 then some 8 else some 10))))
set_option maxRecDepth 100000 in
set_option maxHeartbeats 4000000 in
theorem t_100 {fm : Value} {sx : Nat × (Nat → Int32)} {d : Nat} {Z : zr_Z} {Q : Option Value → zr_Z → Prop} (hu : fm = .null ∨ ∃ q, fm = .ref q) (c : Int32) (H : oq (o_100 Z c) (fun x => Q (some (.ref (2 + 2 * x))) Z)) : zw fm sx (d + 0) 100 0 [some (.ref 133), some (.int c)] [] Z Q := by
  unfold o_100 at H
  refine zw_run 1 (pc' := 1) (loc' := [some (.ref 133), some (.int c)]) (stk' := [.int c]) (fun _ _ _ => rfl) ?_
  by_cases c1 : c = 34
  · rw [if_pos c1] at H
    refine zw_run 1 (pc' := 53) (loc' := [some (.ref 133), some (.int c)]) (stk' := []) (fun _ _ _ => by rw [c1]; rfl) ?_
    refine zw_run 1 (pc' := 55) (loc' := [some (.ref 133), some (.int c)]) (stk' := [.ref 20]) (fun _ _ _ => rfl) ?_
    refine zw_reta rfl rfl (Or.inl ⟨_, rfl⟩) ?_
    have H := oq_some H
    exact H
  rw [if_neg c1] at H
  by_cases c2 : c = 38
  · rw [if_pos c2] at H
    refine zw_run 1 (pc' := 44) (loc' := [some (.ref 133), some (.int c)]) (stk' := []) (fun _ _ _ => by rw [c2]; rfl) ?_
    refine zw_run 1 (pc' := 46) (loc' := [some (.ref 133), some (.int c)]) (stk' := [.ref 14]) (fun _ _ _ => rfl) ?_
    refine zw_reta rfl rfl (Or.inl ⟨_, rfl⟩) ?_
    have H := oq_some H
    exact H
  rw [if_neg c2] at H
  by_cases c3 : c = 60
  · rw [if_pos c3] at H
    refine zw_run 1 (pc' := 47) (loc' := [some (.ref 133), some (.int c)]) (stk' := []) (fun _ _ _ => by rw [c3]; rfl) ?_
    refine zw_run 1 (pc' := 49) (loc' := [some (.ref 133), some (.int c)]) (stk' := [.ref 16]) (fun _ _ _ => rfl) ?_
    refine zw_reta rfl rfl (Or.inl ⟨_, rfl⟩) ?_
    have H := oq_some H
    exact H
  rw [if_neg c3] at H
  by_cases c4 : c = 62
  · rw [if_pos c4] at H
    refine zw_run 1 (pc' := 50) (loc' := [some (.ref 133), some (.int c)]) (stk' := []) (fun _ _ _ => by rw [c4]; rfl) ?_
    refine zw_run 1 (pc' := 52) (loc' := [some (.ref 133), some (.int c)]) (stk' := [.ref 18]) (fun _ _ _ => rfl) ?_
    refine zw_reta rfl rfl (Or.inl ⟨_, rfl⟩) ?_
    have H := oq_some H
    exact H
  rw [if_neg c4] at H
  refine zw_lk (pc' := 56) (loc' := [some (.ref 133), some (.int c)]) (stk' := []) rfl (am_lkd (fun q hq => ?_)) rfl ?_
  · simp only [List.mem_cons, List.not_mem_nil, or_false] at hq
    rcases hq with rfl | rfl | rfl | rfl
    · exact fun q => c1 (Int32.toInt_inj.mp q.symm)
    · exact fun q => c2 (Int32.toInt_inj.mp q.symm)
    · exact fun q => c3 (Int32.toInt_inj.mp q.symm)
    · exact fun q => c4 (Int32.toInt_inj.mp q.symm)
  refine zw_run 1 (pc' := 58) (loc' := [some (.ref 133), some (.int c)]) (stk' := [.ref 22]) (fun _ _ _ => rfl) ?_
  refine zw_reta rfl rfl (Or.inl ⟨_, rfl⟩) ?_
  have H := oq_some H
  exact H
theorem c_100 {fm : Value} {sx : Nat × (Nat → Int32)} {d : Nat} {Z : zr_Z} (hu : fm = .null ∨ ∃ q, fm = .ref q) (c : Int32) {x : Nat} (hx : o_100 Z c = some x) : zl fm sx (d + 1) 100 [.ref 133, .int c] Z (fun r Z' => r = some (.ref (2 + 2 * x)) ∧ Z' = Z) :=
  zl_of (nL := 2) (loc0 := [some (.ref 133), some (.int c)]) rfl rfl rfl (t_100 hu c ⟨x, hx, rfl, rfl⟩)
/-- MarkInlines$Writer.say, its loop at 2 -/
def g_101_2 : Nat → zr_Z → Nat → Int32 → Option zr_Z
  | 0, _, _, _ => none
  | n + 1, Z, j, x2 => (if j < 27 then (if (sln j) ≤ x2 then some Z else (if sci j x2 then g_101_2 n (zadd Z 134 (sch j x2)) j (x2 + 1) else none)) else none)
set_option maxRecDepth 100000 in
set_option maxHeartbeats 4000000 in
theorem l_101_2 {fm : Value} {sx : Nat × (Nat → Int32)} {d : Nat} {Q : Option Value → zr_Z → Prop} (hu : fm = .null ∨ ∃ q, fm = .ref q) (j : Nat) : ∀ (n : Nat) (Z : zr_Z) (x2 : Int32), oq (g_101_2 n Z j x2) (fun x => Q none x) → zw fm sx (d + 4) 101 2 [some (.ref 133), some (.ref (2 + 2 * j)), some (.int x2)] [] Z Q := by
  intro n
  induction n with
  | zero => intro Z x2 H; exact absurd H oq_none
  | succ n ih =>
    intro Z x2 H
    unfold g_101_2 at H
    obtain ⟨hJj, H⟩ := oq_ob H
    refine zw_run 2 (pc' := 4) (loc' := [some (.ref 133), some (.ref (2 + 2 * j)), some (.int x2)]) (stk' := [.ref (2 + 2 * j), .int x2]) (fun _ _ _ => rfl) ?_
    refine zw_callf (As := [.ref (2 + 2 * j)]) (rest := [.int x2]) (c_sln j hJj (d := d + 2)) rfl rfl rfl (zr_cal_187 _ _ hJj) ?_
    show zw fm sx (d + 4) 101 7 [some (.ref 133), some (.ref (2 + 2 * j)), some (.int x2)] [.int (sln j), .int x2] Z Q
    refine zw_br (c := (sln j) ≤ x2) (t1 := 28) (t2 := 10) (loc' := [some (.ref 133), some (.ref (2 + 2 * j)), some (.int x2)]) (stk' := []) (fun _ _ _ => rfl) (fun c2 => ?_) (fun c2 => ?_)
    · rw [if_pos c2] at H
      refine zw_retv rfl rfl ?_
      have H := oq_some H
      exact H
    · rw [if_neg c2] at H
      refine zw_run 1 (pc' := 11) (loc' := [some (.ref 133), some (.ref (2 + 2 * j)), some (.int x2)]) (stk' := [.ref 133]) (fun _ _ _ => rfl) ?_
      refine zw_get (v := .ref 134) rfl rfl rfl ?_
      refine zw_run 2 (pc' := 16) (loc' := [some (.ref 133), some (.ref (2 + 2 * j)), some (.int x2)]) (stk' := [.int x2, .ref (2 + 2 * j), .ref 134]) (fun _ _ _ => rfl) ?_
      obtain ⟨b3, H⟩ := oq_ob H
      refine zw_callf (As := [.ref (2 + 2 * j), .int x2]) (rest := [.ref 134]) (c_sch hu j hJj x2 b3 (d := d + 0)) rfl rfl rfl (zr_cal_189 _ _ _ hJj) ?_
      show zw fm sx (d + 4) 101 19 [some (.ref 133), some (.ref (2 + 2 * j)), some (.int x2)] [.int (sch j x2), .ref 134] Z Q
      refine zw_callf (As := [.ref 134, .int (sch j x2)]) (rest := []) (c_row_add (id := 134) (by decide) (sch j x2) (d := d + 2)) rfl rfl rfl rfl ?_
      show zw fm sx (d + 4) 101 22 [some (.ref 133), some (.ref (2 + 2 * j)), some (.int x2)] [] (zadd Z 134 (sch j x2)) Q
      refine zw_run 2 (pc' := 2) (loc' := [some (.ref 133), some (.ref (2 + 2 * j)), some (.int (x2 + 1))]) (stk' := []) (fun _ _ _ => rfl) ?_
      exact ih (zadd Z 134 (sch j x2)) (x2 + 1) H
/-- MarkInlines$Writer.say -/
def o_101 (Z : zr_Z) (j : Nat) : Option zr_Z := (if j < 27 then g_101_2 oF Z j 0 else none)
set_option maxRecDepth 100000 in
set_option maxHeartbeats 4000000 in
theorem t_101 {fm : Value} {sx : Nat × (Nat → Int32)} {d : Nat} {Z : zr_Z} {Q : Option Value → zr_Z → Prop} (hu : fm = .null ∨ ∃ q, fm = .ref q) (j : Nat) (H : oq (o_101 Z j) (fun x => Q none x)) : zw fm sx (d + 4) 101 0 [some (.ref 133), some (.ref (2 + 2 * j)), none] [] Z Q := by
  unfold o_101 at H
  obtain ⟨hJj, H⟩ := oq_ob H
  refine zw_run 2 (pc' := 2) (loc' := [some (.ref 133), some (.ref (2 + 2 * j)), some (.int 0)]) (stk' := []) (fun _ _ _ => rfl) ?_
  exact l_101_2 hu j _ Z 0 H
theorem c_101 {fm : Value} {sx : Nat × (Nat → Int32)} {d : Nat} {Z : zr_Z} (hu : fm = .null ∨ ∃ q, fm = .ref q) (j : Nat) {x : zr_Z} (hx : o_101 Z j = some x) : zl fm sx (d + 5) 101 [.ref 133, .ref (2 + 2 * j)] Z (fun r Z' => r = none ∧ Z' = x) :=
  zl_of (nL := 3) (loc0 := [some (.ref 133), some (.ref (2 + 2 * j)), none]) rfl rfl rfl (t_101 hu j ⟨x, hx, rfl, rfl⟩)
/-- MarkInlines$Writer.addLetters, its loop at 34 -/
def g_110_34 : Nat → zr_Z → Int32 → Bool → Bool → Int32 → Int32 → Option zr_Z
  | 0, _, _, _, _, _, _ => none
  | n + 1, Z, k, ti, es, x4, x5 => (if x4 ≤ x5 then some Z else (if es = true then (Option.bind (o_100 Z (f_40 Z k ti x5)) fun u3 => (if u3 < 27 then (if (sem u3) = true then g_110_34 n (zadd Z 134 (f_40 Z k ti x5)) k ti es x4 (x5 + 1) else (Option.bind (o_101 Z u3) fun u6 => g_110_34 n u6 k ti es x4 (x5 + 1))) else none)) else (if (sem 10) = true then g_110_34 n (zadd Z 134 (f_40 Z k ti x5)) k ti es x4 (x5 + 1) else (Option.bind (o_101 Z 10) fun u9 => g_110_34 n u9 k ti es x4 (x5 + 1)))))
set_option maxRecDepth 100000 in
set_option maxHeartbeats 4000000 in
theorem l_110_34 {fm : Value} {sx : Nat × (Nat → Int32)} {d : Nat} {Q : Option Value → zr_Z → Prop} (hu : fm = .null ∨ ∃ q, fm = .ref q) (k : Int32) (ti : Bool) (es : Bool) : ∀ (n : Nat) (Z : zr_Z) (x4 : Int32) (x5 : Int32), oq (g_110_34 n Z k ti es x4 x5) (fun x => Q none x) → zw fm sx (d + 5) 110 34 [some (.ref 133), some (.int k), some (.int (bI ti)), some (.int (bI es)), some (.int x4), some (.int x5), none, none] [] Z Q := by
  intro n
  induction n with
  | zero => intro Z x4 x5 H; exact absurd H oq_none
  | succ n ih =>
    intro Z x4 x5 H
    unfold g_110_34 at H
    refine zw_run 2 (pc' := 38) (loc' := [some (.ref 133), some (.int k), some (.int (bI ti)), some (.int (bI es)), some (.int x4), some (.int x5), none, none]) (stk' := [.int x4, .int x5]) (fun _ _ _ => rfl) ?_
    refine zw_br (c := x4 ≤ x5) (t1 := 103) (t2 := 41) (loc' := [some (.ref 133), some (.int k), some (.int (bI ti)), some (.int (bI es)), some (.int x4), some (.int x5), none, none]) (stk' := []) (fun _ _ _ => rfl) (fun c1 => ?_) (fun c1 => ?_)
    · rw [if_pos c1] at H
      refine zw_retv rfl rfl ?_
      have H := oq_some H
      exact H
    · rw [if_neg c1] at H
      refine zw_run 1 (pc' := 42) (loc' := [some (.ref 133), some (.int k), some (.int (bI ti)), some (.int (bI es)), some (.int x4), some (.int x5), none, none]) (stk' := [.ref 133]) (fun _ _ _ => rfl) ?_
      refine zw_get (v := .ref 114) rfl rfl rfl ?_
      refine zw_run 3 (pc' := 49) (loc' := [some (.ref 133), some (.int k), some (.int (bI ti)), some (.int (bI es)), some (.int x4), some (.int x5), none, none]) (stk' := [.int x5, .int (bI ti), .int k, .ref 114]) (fun _ _ _ => rfl) ?_
      refine zw_callf (As := [.ref 114, .int k, .int (bI ti), .int x5]) (rest := []) (c_40 k ti x5 (d := d + 3)) rfl rfl rfl rfl ?_
      show zw fm sx (d + 5) 110 52 [some (.ref 133), some (.int k), some (.int (bI ti)), some (.int (bI es)), some (.int x4), some (.int x5), none, none] [.int (f_40 Z k ti x5)] Z Q
      refine zw_run 2 (pc' := 55) (loc' := [some (.ref 133), some (.int k), some (.int (bI ti)), some (.int (bI es)), some (.int x4), some (.int x5), some (.int (f_40 Z k ti x5)), none]) (stk' := [.int (bI es)]) (fun _ _ _ => rfl) ?_
      refine zw_b0 (b := es) (t1 := 58) (t2 := 67) (loc' := [some (.ref 133), some (.int k), some (.int (bI ti)), some (.int (bI es)), some (.int x4), some (.int x5), some (.int (f_40 Z k ti x5)), none]) (stk' := []) (fun _ _ _ => rfl) (fun c2 => ?_) (fun c2 => ?_)
      · rw [if_pos c2] at H
        refine zw_run 2 (pc' := 61) (loc' := [some (.ref 133), some (.int k), some (.int (bI ti)), some (.int (bI es)), some (.int x4), some (.int x5), some (.int (f_40 Z k ti x5)), none]) (stk' := [.int (f_40 Z k ti x5), .ref 133]) (fun _ _ _ => rfl) ?_
        obtain ⟨u3, hu3, H⟩ := oq_bind H
        refine zw_callf (As := [.ref 133, .int (f_40 Z k ti x5)]) (rest := []) (c_100 hu (f_40 Z k ti x5) hu3 (d := d + 4)) rfl rfl rfl rfl ?_
        show zw fm sx (d + 5) 110 64 [some (.ref 133), some (.int k), some (.int (bI ti)), some (.int (bI es)), some (.int x4), some (.int x5), some (.int (f_40 Z k ti x5)), none] [.ref (2 + 2 * u3)] Z Q
        obtain ⟨hJu3, H⟩ := oq_ob H
        refine zw_run 3 (pc' := 73) (loc' := [some (.ref 133), some (.int k), some (.int (bI ti)), some (.int (bI es)), some (.int x4), some (.int x5), some (.int (f_40 Z k ti x5)), some (.ref (2 + 2 * u3))]) (stk' := [.ref (2 + 2 * u3)]) (fun _ _ _ => rfl) ?_
        refine zw_callf (As := [.ref (2 + 2 * u3)]) (rest := []) (c_sem u3 hJu3 (d := d + 4)) rfl rfl rfl (zr_cal_188 _ _ hJu3) ?_
        show zw fm sx (d + 5) 110 76 [some (.ref 133), some (.int k), some (.int (bI ti)), some (.int (bI es)), some (.int x4), some (.int x5), some (.int (f_40 Z k ti x5)), some (.ref (2 + 2 * u3))] [.int (bI (sem u3))] Z Q
        refine zw_b0 (b := (sem u3)) (t1 := 79) (t2 := 91) (loc' := [some (.ref 133), some (.int k), some (.int (bI ti)), some (.int (bI es)), some (.int x4), some (.int x5), some (.int (f_40 Z k ti x5)), some (.ref (2 + 2 * u3))]) (stk' := []) (fun _ _ _ => rfl) (fun c5 => ?_) (fun c5 => ?_)
        · rw [if_pos c5] at H
          refine zw_run 1 (pc' := 80) (loc' := [some (.ref 133), some (.int k), some (.int (bI ti)), some (.int (bI es)), some (.int x4), some (.int x5), some (.int (f_40 Z k ti x5)), some (.ref (2 + 2 * u3))]) (stk' := [.ref 133]) (fun _ _ _ => rfl) ?_
          refine zw_get (v := .ref 134) rfl rfl rfl ?_
          refine zw_run 1 (pc' := 85) (loc' := [some (.ref 133), some (.int k), some (.int (bI ti)), some (.int (bI es)), some (.int x4), some (.int x5), some (.int (f_40 Z k ti x5)), some (.ref (2 + 2 * u3))]) (stk' := [.int (f_40 Z k ti x5), .ref 134]) (fun _ _ _ => rfl) ?_
          refine zw_callf (As := [.ref 134, .int (f_40 Z k ti x5)]) (rest := []) (c_row_add (id := 134) (by decide) (f_40 Z k ti x5) (d := d + 3)) rfl rfl rfl rfl ?_
          show zw fm sx (d + 5) 110 88 [some (.ref 133), some (.int k), some (.int (bI ti)), some (.int (bI es)), some (.int x4), some (.int x5), some (.int (f_40 Z k ti x5)), some (.ref (2 + 2 * u3))] [] (zadd Z 134 (f_40 Z k ti x5)) Q
          refine zw_run 3 (pc' := 34) (loc' := [some (.ref 133), some (.int k), some (.int (bI ti)), some (.int (bI es)), some (.int x4), some (.int (x5 + 1)), some (.int (f_40 Z k ti x5)), some (.ref (2 + 2 * u3))]) (stk' := []) (fun _ _ _ => rfl) ?_
          refine zw_fgt [true, true, true, true, true, true, false, false] rfl ?_
          exact ih (zadd Z 134 (f_40 Z k ti x5)) x4 (x5 + 1) H
        · rw [if_neg c5] at H
          refine zw_run 2 (pc' := 94) (loc' := [some (.ref 133), some (.int k), some (.int (bI ti)), some (.int (bI es)), some (.int x4), some (.int x5), some (.int (f_40 Z k ti x5)), some (.ref (2 + 2 * u3))]) (stk' := [.ref (2 + 2 * u3), .ref 133]) (fun _ _ _ => rfl) ?_
          obtain ⟨u6, hu6, H⟩ := oq_bind H
          refine zw_callf (As := [.ref 133, .ref (2 + 2 * u3)]) (rest := []) (c_101 hu u3 hu6 (d := d + 0)) rfl rfl rfl rfl ?_
          show zw fm sx (d + 5) 110 97 [some (.ref 133), some (.int k), some (.int (bI ti)), some (.int (bI es)), some (.int x4), some (.int x5), some (.int (f_40 Z k ti x5)), some (.ref (2 + 2 * u3))] [] u6 Q
          refine zw_run 2 (pc' := 34) (loc' := [some (.ref 133), some (.int k), some (.int (bI ti)), some (.int (bI es)), some (.int x4), some (.int (x5 + 1)), some (.int (f_40 Z k ti x5)), some (.ref (2 + 2 * u3))]) (stk' := []) (fun _ _ _ => rfl) ?_
          refine zw_fgt [true, true, true, true, true, true, false, false] rfl ?_
          exact ih u6 x4 (x5 + 1) H
      · rw [if_neg c2] at H
        refine zw_run 3 (pc' := 73) (loc' := [some (.ref 133), some (.int k), some (.int (bI ti)), some (.int (bI es)), some (.int x4), some (.int x5), some (.int (f_40 Z k ti x5)), some (.ref 22)]) (stk' := [.ref 22]) (fun _ _ _ => rfl) ?_
        refine zw_callf (As := [.ref 22]) (rest := []) (c_sem 10 (by decide) (d := d + 4)) rfl rfl rfl rfl ?_
        show zw fm sx (d + 5) 110 76 [some (.ref 133), some (.int k), some (.int (bI ti)), some (.int (bI es)), some (.int x4), some (.int x5), some (.int (f_40 Z k ti x5)), some (.ref 22)] [.int (bI (sem 10))] Z Q
        refine zw_b0 (b := (sem 10)) (t1 := 79) (t2 := 91) (loc' := [some (.ref 133), some (.int k), some (.int (bI ti)), some (.int (bI es)), some (.int x4), some (.int x5), some (.int (f_40 Z k ti x5)), some (.ref 22)]) (stk' := []) (fun _ _ _ => rfl) (fun c8 => ?_) (fun c8 => ?_)
        · rw [if_pos c8] at H
          refine zw_run 1 (pc' := 80) (loc' := [some (.ref 133), some (.int k), some (.int (bI ti)), some (.int (bI es)), some (.int x4), some (.int x5), some (.int (f_40 Z k ti x5)), some (.ref 22)]) (stk' := [.ref 133]) (fun _ _ _ => rfl) ?_
          refine zw_get (v := .ref 134) rfl rfl rfl ?_
          refine zw_run 1 (pc' := 85) (loc' := [some (.ref 133), some (.int k), some (.int (bI ti)), some (.int (bI es)), some (.int x4), some (.int x5), some (.int (f_40 Z k ti x5)), some (.ref 22)]) (stk' := [.int (f_40 Z k ti x5), .ref 134]) (fun _ _ _ => rfl) ?_
          refine zw_callf (As := [.ref 134, .int (f_40 Z k ti x5)]) (rest := []) (c_row_add (id := 134) (by decide) (f_40 Z k ti x5) (d := d + 3)) rfl rfl rfl rfl ?_
          show zw fm sx (d + 5) 110 88 [some (.ref 133), some (.int k), some (.int (bI ti)), some (.int (bI es)), some (.int x4), some (.int x5), some (.int (f_40 Z k ti x5)), some (.ref 22)] [] (zadd Z 134 (f_40 Z k ti x5)) Q
          refine zw_run 3 (pc' := 34) (loc' := [some (.ref 133), some (.int k), some (.int (bI ti)), some (.int (bI es)), some (.int x4), some (.int (x5 + 1)), some (.int (f_40 Z k ti x5)), some (.ref 22)]) (stk' := []) (fun _ _ _ => rfl) ?_
          refine zw_fgt [true, true, true, true, true, true, false, false] rfl ?_
          exact ih (zadd Z 134 (f_40 Z k ti x5)) x4 (x5 + 1) H
        · rw [if_neg c8] at H
          refine zw_run 2 (pc' := 94) (loc' := [some (.ref 133), some (.int k), some (.int (bI ti)), some (.int (bI es)), some (.int x4), some (.int x5), some (.int (f_40 Z k ti x5)), some (.ref 22)]) (stk' := [.ref 22, .ref 133]) (fun _ _ _ => rfl) ?_
          obtain ⟨u9, hu9, H⟩ := oq_bind H
          refine zw_callf (As := [.ref 133, .ref 22]) (rest := []) (c_101 hu 10 hu9 (d := d + 0)) rfl rfl rfl rfl ?_
          show zw fm sx (d + 5) 110 97 [some (.ref 133), some (.int k), some (.int (bI ti)), some (.int (bI es)), some (.int x4), some (.int x5), some (.int (f_40 Z k ti x5)), some (.ref 22)] [] u9 Q
          refine zw_run 2 (pc' := 34) (loc' := [some (.ref 133), some (.int k), some (.int (bI ti)), some (.int (bI es)), some (.int x4), some (.int (x5 + 1)), some (.int (f_40 Z k ti x5)), some (.ref 22)]) (stk' := []) (fun _ _ _ => rfl) ?_
          refine zw_fgt [true, true, true, true, true, true, false, false] rfl ?_
          exact ih u9 x4 (x5 + 1) H
/-- MarkInlines$Writer.addLetters -/
def o_110 (Z : zr_Z) (k : Int32) (ti : Bool) (es : Bool) : Option zr_Z := (olet ((if ti = true then (zt Z 127 k) else (zt Z 123 k) : Int32) : Int32) fun x4 => g_110_34 oF Z k ti es x4 0)
set_option maxRecDepth 100000 in
set_option maxHeartbeats 4000000 in
theorem t_110 {fm : Value} {sx : Nat × (Nat → Int32)} {d : Nat} {Z : zr_Z} {Q : Option Value → zr_Z → Prop} (hu : fm = .null ∨ ∃ q, fm = .ref q) (k : Int32) (ti : Bool) (es : Bool) (H : oq (o_110 Z k ti es) (fun x => Q none x)) : zw fm sx (d + 5) 110 0 [some (.ref 133), some (.int k), some (.int (bI ti)), some (.int (bI es)), none, none, none, none] [] Z Q := by
  unfold o_110 at H
  refine zw_run 1 (pc' := 1) (loc' := [some (.ref 133), some (.int k), some (.int (bI ti)), some (.int (bI es)), none, none, none, none]) (stk' := [.int (bI ti)]) (fun _ _ _ => rfl) ?_
  have J3 : ∀ (v2 : Int32), v2 = (if ti = true then (zt Z 127 k) else (zt Z 123 k) : Int32) → zw fm sx (d + 5) 110 29 [some (.ref 133), some (.int k), some (.int (bI ti)), some (.int (bI es)), none, none, none, none] [.int v2] Z Q := by
    intro v2 ev2
    subst ev2
    refine zw_run 1 (pc' := 31) (loc' := [some (.ref 133), some (.int k), some (.int (bI ti)), some (.int (bI es)), some (.int (if ti = true then (zt Z 127 k) else (zt Z 123 k) : Int32)), none, none, none]) (stk' := []) (fun _ _ _ => rfl) ?_
    obtain ⟨x4, hx4⟩ : ∃ w : Int32, w = (if ti = true then (zt Z 127 k) else (zt Z 123 k) : Int32) := ⟨_, rfl⟩
    rw [← hx4]
    have H := oq_let H x4 hx4
    refine zw_run 2 (pc' := 34) (loc' := [some (.ref 133), some (.int k), some (.int (bI ti)), some (.int (bI es)), some (.int x4), some (.int 0), none, none]) (stk' := []) (fun _ _ _ => rfl) ?_
    exact l_110_34 hu k ti es _ Z x4 0 H
  refine zw_b0 (b := ti) (t1 := 4) (t2 := 18) (loc' := [some (.ref 133), some (.int k), some (.int (bI ti)), some (.int (bI es)), none, none, none, none]) (stk' := []) (fun _ _ _ => rfl) (fun c1 => ?_) (fun c1 => ?_)
  · skip
    refine zw_run 1 (pc' := 5) (loc' := [some (.ref 133), some (.int k), some (.int (bI ti)), some (.int (bI es)), none, none, none, none]) (stk' := [.ref 133]) (fun _ _ _ => rfl) ?_
    refine zw_get (v := .ref 114) rfl rfl rfl ?_
    refine zw_get (v := .ref 127) rfl rfl rfl ?_
    refine zw_run 1 (pc' := 12) (loc' := [some (.ref 133), some (.int k), some (.int (bI ti)), some (.int (bI es)), none, none, none, none]) (stk' := [.int k, .ref 127]) (fun _ _ _ => rfl) ?_
    refine zw_callf (As := [.ref 127, .int k]) (rest := []) (c_row_at (id := 127) (by decide) k (d := d + 4)) rfl rfl rfl rfl ?_
    show zw fm sx (d + 5) 110 15 [some (.ref 133), some (.int k), some (.int (bI ti)), some (.int (bI es)), none, none, none, none] [.int (zt Z 127 k)] Z Q
    refine zw_run 1 (pc' := 29) (loc' := [some (.ref 133), some (.int k), some (.int (bI ti)), some (.int (bI es)), none, none, none, none]) (stk' := [.int (zt Z 127 k)]) (fun _ _ _ => rfl) ?_
    exact J3 _ (by first | (rw [if_pos c1]; done) | (rw [if_pos c1]; rfl) | (clear H J3; simp_all [bI]; done))
  · skip
    refine zw_run 1 (pc' := 19) (loc' := [some (.ref 133), some (.int k), some (.int (bI ti)), some (.int (bI es)), none, none, none, none]) (stk' := [.ref 133]) (fun _ _ _ => rfl) ?_
    refine zw_get (v := .ref 114) rfl rfl rfl ?_
    refine zw_get (v := .ref 123) rfl rfl rfl ?_
    refine zw_run 1 (pc' := 26) (loc' := [some (.ref 133), some (.int k), some (.int (bI ti)), some (.int (bI es)), none, none, none, none]) (stk' := [.int k, .ref 123]) (fun _ _ _ => rfl) ?_
    refine zw_callf (As := [.ref 123, .int k]) (rest := []) (c_row_at (id := 123) (by decide) k (d := d + 4)) rfl rfl rfl rfl ?_
    show zw fm sx (d + 5) 110 29 [some (.ref 133), some (.int k), some (.int (bI ti)), some (.int (bI es)), none, none, none, none] [.int (zt Z 123 k)] Z Q
    exact J3 _ (by first | (rw [if_neg c1]; done) | (rw [if_neg c1]; rfl) | (clear H J3; simp_all [bI]; done))
theorem c_110 {fm : Value} {sx : Nat × (Nat → Int32)} {d : Nat} {Z : zr_Z} (hu : fm = .null ∨ ∃ q, fm = .ref q) (k : Int32) (ti : Bool) (es : Bool) {x : zr_Z} (hx : o_110 Z k ti es = some x) : zl fm sx (d + 6) 110 [.ref 133, .int k, .int (bI ti), .int (bI es)] Z (fun r Z' => r = none ∧ Z' = x) :=
  zl_of (nL := 8) (loc0 := [some (.ref 133), some (.int k), some (.int (bI ti)), some (.int (bI es)), none, none, none, none]) rfl rfl rfl (t_110 hu k ti es ⟨x, hx, rfl, rfl⟩)
/-- MarkInlines$Writer.addPlain, its loop at 12 -/
def g_109_12 : Nat → zr_Z → Int32 → Bool → Int32 → Int32 → Option zr_Z
  | 0, _, _, _, _, _ => none
  | n + 1, Z, k, es, x3, x4 => (if x3 ≤ x4 then some Z else (if (zt Z 115 x4) = 0 then (Option.bind (o_110 Z x4 false es) fun u3 => g_109_12 n u3 k es x3 (x4 + 1)) else (if ¬ (zt Z 115 x4) = 3 then (if (zt Z 115 x4) = 1 then g_109_12 n (zadd Z 134 32) k es x3 (x4 + 1) else (if ¬ (zt Z 115 x4) = 2 then g_109_12 n Z k es x3 (x4 + 1) else g_109_12 n (zadd Z 134 32) k es x3 (x4 + 1))) else (Option.bind (o_110 Z x4 false es) fun u7 => g_109_12 n u7 k es x3 (x4 + 1)))))
set_option maxRecDepth 100000 in
set_option maxHeartbeats 4000000 in
theorem l_109_12 {fm : Value} {sx : Nat × (Nat → Int32)} {d : Nat} {Q : Option Value → zr_Z → Prop} (hu : fm = .null ∨ ∃ q, fm = .ref q) (k : Int32) (es : Bool) : ∀ (n : Nat) (Z : zr_Z) (x3 : Int32) (x4 : Int32), oq (g_109_12 n Z k es x3 x4) (fun x => Q none x) → zw fm sx (d + 6) 109 12 [some (.ref 133), none, some (.int (bI es)), some (.int x3), some (.int x4), none] [] Z Q := by
  intro n
  induction n with
  | zero => intro Z x3 x4 H; exact absurd H oq_none
  | succ n ih =>
    intro Z x3 x4 H
    unfold g_109_12 at H
    refine zw_run 2 (pc' := 15) (loc' := [some (.ref 133), none, some (.int (bI es)), some (.int x3), some (.int x4), none]) (stk' := [.int x3, .int x4]) (fun _ _ _ => rfl) ?_
    refine zw_br (c := x3 ≤ x4) (t1 := 81) (t2 := 18) (loc' := [some (.ref 133), none, some (.int (bI es)), some (.int x3), some (.int x4), none]) (stk' := []) (fun _ _ _ => rfl) (fun c1 => ?_) (fun c1 => ?_)
    · rw [if_pos c1] at H
      refine zw_retv rfl rfl ?_
      have H := oq_some H
      exact H
    · rw [if_neg c1] at H
      refine zw_run 1 (pc' := 19) (loc' := [some (.ref 133), none, some (.int (bI es)), some (.int x3), some (.int x4), none]) (stk' := [.ref 133]) (fun _ _ _ => rfl) ?_
      refine zw_get (v := .ref 114) rfl rfl rfl ?_
      refine zw_get (v := .ref 115) rfl rfl rfl ?_
      refine zw_run 1 (pc' := 27) (loc' := [some (.ref 133), none, some (.int (bI es)), some (.int x3), some (.int x4), none]) (stk' := [.int x4, .ref 115]) (fun _ _ _ => rfl) ?_
      refine zw_callf (As := [.ref 115, .int x4]) (rest := []) (c_row_at (id := 115) (by decide) x4 (d := d + 5)) rfl rfl rfl rfl ?_
      show zw fm sx (d + 6) 109 30 [some (.ref 133), none, some (.int (bI es)), some (.int x3), some (.int x4), none] [.int (zt Z 115 x4)] Z Q
      refine zw_run 2 (pc' := 34) (loc' := [some (.ref 133), none, some (.int (bI es)), some (.int x3), some (.int x4), some (.int (zt Z 115 x4))]) (stk' := [.int (zt Z 115 x4)]) (fun _ _ _ => rfl) ?_
      refine zw_br (c := (zt Z 115 x4) = 0) (t1 := 43) (t2 := 37) (loc' := [some (.ref 133), none, some (.int (bI es)), some (.int x3), some (.int x4), some (.int (zt Z 115 x4))]) (stk' := []) (fun _ _ _ => rfl) (fun c2 => ?_) (fun c2 => ?_)
      · rw [if_pos c2] at H
        refine zw_run 4 (pc' := 48) (loc' := [some (.ref 133), none, some (.int (bI es)), some (.int x3), some (.int x4), some (.int (zt Z 115 x4))]) (stk' := [.int (bI es), .int 0, .int x4, .ref 133]) (fun _ _ _ => rfl) ?_
        obtain ⟨u3, hu3, H⟩ := oq_bind H
        refine zw_callf (As := [.ref 133, .int x4, .int 0, .int (bI es)]) (rest := []) (c_110 hu x4 false es hu3 (d := d + 0)) rfl rfl rfl rfl ?_
        show zw fm sx (d + 6) 109 51 [some (.ref 133), none, some (.int (bI es)), some (.int x3), some (.int x4), some (.int (zt Z 115 x4))] [] u3 Q
        refine zw_run 3 (pc' := 12) (loc' := [some (.ref 133), none, some (.int (bI es)), some (.int x3), some (.int (x4 + 1)), some (.int (zt Z 115 x4))]) (stk' := []) (fun _ _ _ => rfl) ?_
        refine zw_fgt [true, false, true, true, true, false] rfl ?_
        exact ih u3 x3 (x4 + 1) H
      · rw [if_neg c2] at H
        refine zw_run 2 (pc' := 40) (loc' := [some (.ref 133), none, some (.int (bI es)), some (.int x3), some (.int x4), some (.int (zt Z 115 x4))]) (stk' := [.int 3, .int (zt Z 115 x4)]) (fun _ _ _ => rfl) ?_
        refine zw_br (c := ¬ (zt Z 115 x4) = 3) (t1 := 54) (t2 := 43) (loc' := [some (.ref 133), none, some (.int (bI es)), some (.int x3), some (.int x4), some (.int (zt Z 115 x4))]) (stk' := []) (fun _ _ _ => rfl) (fun c4 => ?_) (fun c4 => ?_)
        · rw [if_pos c4] at H
          refine zw_run 2 (pc' := 57) (loc' := [some (.ref 133), none, some (.int (bI es)), some (.int x3), some (.int x4), some (.int (zt Z 115 x4))]) (stk' := [.int 1, .int (zt Z 115 x4)]) (fun _ _ _ => rfl) ?_
          refine zw_br (c := (zt Z 115 x4) = 1) (t1 := 66) (t2 := 60) (loc' := [some (.ref 133), none, some (.int (bI es)), some (.int x3), some (.int x4), some (.int (zt Z 115 x4))]) (stk' := []) (fun _ _ _ => rfl) (fun c5 => ?_) (fun c5 => ?_)
          · rw [if_pos c5] at H
            refine zw_run 1 (pc' := 67) (loc' := [some (.ref 133), none, some (.int (bI es)), some (.int x3), some (.int x4), some (.int (zt Z 115 x4))]) (stk' := [.ref 133]) (fun _ _ _ => rfl) ?_
            refine zw_get (v := .ref 134) rfl rfl rfl ?_
            refine zw_run 1 (pc' := 72) (loc' := [some (.ref 133), none, some (.int (bI es)), some (.int x3), some (.int x4), some (.int (zt Z 115 x4))]) (stk' := [.int 32, .ref 134]) (fun _ _ _ => rfl) ?_
            refine zw_callf (As := [.ref 134, .int 32]) (rest := []) (c_row_add (id := 134) (by decide) 32 (d := d + 4)) rfl rfl rfl rfl ?_
            show zw fm sx (d + 6) 109 75 [some (.ref 133), none, some (.int (bI es)), some (.int x3), some (.int x4), some (.int (zt Z 115 x4))] [] (zadd Z 134 32) Q
            refine zw_run 2 (pc' := 12) (loc' := [some (.ref 133), none, some (.int (bI es)), some (.int x3), some (.int (x4 + 1)), some (.int (zt Z 115 x4))]) (stk' := []) (fun _ _ _ => rfl) ?_
            refine zw_fgt [true, false, true, true, true, false] rfl ?_
            exact ih (zadd Z 134 32) x3 (x4 + 1) H
          · rw [if_neg c5] at H
            refine zw_run 2 (pc' := 63) (loc' := [some (.ref 133), none, some (.int (bI es)), some (.int x3), some (.int x4), some (.int (zt Z 115 x4))]) (stk' := [.int 2, .int (zt Z 115 x4)]) (fun _ _ _ => rfl) ?_
            refine zw_br (c := ¬ (zt Z 115 x4) = 2) (t1 := 75) (t2 := 66) (loc' := [some (.ref 133), none, some (.int (bI es)), some (.int x3), some (.int x4), some (.int (zt Z 115 x4))]) (stk' := []) (fun _ _ _ => rfl) (fun c6 => ?_) (fun c6 => ?_)
            · rw [if_pos c6] at H
              refine zw_run 2 (pc' := 12) (loc' := [some (.ref 133), none, some (.int (bI es)), some (.int x3), some (.int (x4 + 1)), some (.int (zt Z 115 x4))]) (stk' := []) (fun _ _ _ => rfl) ?_
              refine zw_fgt [true, false, true, true, true, false] rfl ?_
              exact ih Z x3 (x4 + 1) H
            · rw [if_neg c6] at H
              refine zw_run 1 (pc' := 67) (loc' := [some (.ref 133), none, some (.int (bI es)), some (.int x3), some (.int x4), some (.int (zt Z 115 x4))]) (stk' := [.ref 133]) (fun _ _ _ => rfl) ?_
              refine zw_get (v := .ref 134) rfl rfl rfl ?_
              refine zw_run 1 (pc' := 72) (loc' := [some (.ref 133), none, some (.int (bI es)), some (.int x3), some (.int x4), some (.int (zt Z 115 x4))]) (stk' := [.int 32, .ref 134]) (fun _ _ _ => rfl) ?_
              refine zw_callf (As := [.ref 134, .int 32]) (rest := []) (c_row_add (id := 134) (by decide) 32 (d := d + 4)) rfl rfl rfl rfl ?_
              show zw fm sx (d + 6) 109 75 [some (.ref 133), none, some (.int (bI es)), some (.int x3), some (.int x4), some (.int (zt Z 115 x4))] [] (zadd Z 134 32) Q
              refine zw_run 2 (pc' := 12) (loc' := [some (.ref 133), none, some (.int (bI es)), some (.int x3), some (.int (x4 + 1)), some (.int (zt Z 115 x4))]) (stk' := []) (fun _ _ _ => rfl) ?_
              refine zw_fgt [true, false, true, true, true, false] rfl ?_
              exact ih (zadd Z 134 32) x3 (x4 + 1) H
        · rw [if_neg c4] at H
          refine zw_run 4 (pc' := 48) (loc' := [some (.ref 133), none, some (.int (bI es)), some (.int x3), some (.int x4), some (.int (zt Z 115 x4))]) (stk' := [.int (bI es), .int 0, .int x4, .ref 133]) (fun _ _ _ => rfl) ?_
          obtain ⟨u7, hu7, H⟩ := oq_bind H
          refine zw_callf (As := [.ref 133, .int x4, .int 0, .int (bI es)]) (rest := []) (c_110 hu x4 false es hu7 (d := d + 0)) rfl rfl rfl rfl ?_
          show zw fm sx (d + 6) 109 51 [some (.ref 133), none, some (.int (bI es)), some (.int x3), some (.int x4), some (.int (zt Z 115 x4))] [] u7 Q
          refine zw_run 3 (pc' := 12) (loc' := [some (.ref 133), none, some (.int (bI es)), some (.int x3), some (.int (x4 + 1)), some (.int (zt Z 115 x4))]) (stk' := []) (fun _ _ _ => rfl) ?_
          refine zw_fgt [true, false, true, true, true, false] rfl ?_
          exact ih u7 x3 (x4 + 1) H
/-- MarkInlines$Writer.addPlain -/
def o_109 (Z : zr_Z) (k : Int32) (es : Bool) : Option zr_Z := g_109_12 oF Z k es (f_41 Z k) k
set_option maxRecDepth 100000 in
set_option maxHeartbeats 4000000 in
theorem t_109 {fm : Value} {sx : Nat × (Nat → Int32)} {d : Nat} {Z : zr_Z} {Q : Option Value → zr_Z → Prop} (hu : fm = .null ∨ ∃ q, fm = .ref q) (k : Int32) (es : Bool) (H : oq (o_109 Z k es) (fun x => Q none x)) : zw fm sx (d + 6) 109 0 [some (.ref 133), some (.int k), some (.int (bI es)), none, none, none] [] Z Q := by
  unfold o_109 at H
  refine zw_run 1 (pc' := 1) (loc' := [some (.ref 133), some (.int k), some (.int (bI es)), none, none, none]) (stk' := [.ref 133]) (fun _ _ _ => rfl) ?_
  refine zw_get (v := .ref 114) rfl rfl rfl ?_
  refine zw_run 1 (pc' := 5) (loc' := [some (.ref 133), some (.int k), some (.int (bI es)), none, none, none]) (stk' := [.int k, .ref 114]) (fun _ _ _ => rfl) ?_
  refine zw_callf (As := [.ref 114, .int k]) (rest := []) (c_41 k (d := d + 4)) rfl rfl rfl rfl ?_
  show zw fm sx (d + 6) 109 8 [some (.ref 133), some (.int k), some (.int (bI es)), none, none, none] [.int (f_41 Z k)] Z Q
  refine zw_run 3 (pc' := 12) (loc' := [some (.ref 133), some (.int k), some (.int (bI es)), some (.int (f_41 Z k)), some (.int k), none]) (stk' := []) (fun _ _ _ => rfl) ?_
  refine zw_fgt [true, false, true, true, true, false] rfl ?_
  exact l_109_12 hu k es _ Z (f_41 Z k) k H
theorem c_109 {fm : Value} {sx : Nat × (Nat → Int32)} {d : Nat} {Z : zr_Z} (hu : fm = .null ∨ ∃ q, fm = .ref q) (k : Int32) (es : Bool) {x : zr_Z} (hx : o_109 Z k es = some x) : zl fm sx (d + 7) 109 [.ref 133, .int k, .int (bI es)] Z (fun r Z' => r = none ∧ Z' = x) :=
  zl_of (nL := 6) (loc0 := [some (.ref 133), some (.int k), some (.int (bI es)), none, none, none]) rfl rfl rfl (t_109 hu k es ⟨x, hx, rfl, rfl⟩)
/-- MarkInlines$Writer.addTitle -/
def o_108 (Z : zr_Z) (k : Int32) : Option zr_Z := (if (zt Z 127 k) ≤ 0 then some Z else (Option.bind (o_101 Z 22) fun u2 => (Option.bind (o_110 u2 k true true) fun u3 => some u3)))
set_option maxRecDepth 100000 in
set_option maxHeartbeats 4000000 in
theorem t_108 {fm : Value} {sx : Nat × (Nat → Int32)} {d : Nat} {Z : zr_Z} {Q : Option Value → zr_Z → Prop} (hu : fm = .null ∨ ∃ q, fm = .ref q) (k : Int32) (H : oq (o_108 Z k) (fun x => Q none x)) : zw fm sx (d + 6) 108 0 [some (.ref 133), some (.int k)] [] Z Q := by
  unfold o_108 at H
  refine zw_run 1 (pc' := 1) (loc' := [some (.ref 133), some (.int k)]) (stk' := [.ref 133]) (fun _ _ _ => rfl) ?_
  refine zw_get (v := .ref 114) rfl rfl rfl ?_
  refine zw_get (v := .ref 127) rfl rfl rfl ?_
  refine zw_run 1 (pc' := 8) (loc' := [some (.ref 133), some (.int k)]) (stk' := [.int k, .ref 127]) (fun _ _ _ => rfl) ?_
  refine zw_callf (As := [.ref 127, .int k]) (rest := []) (c_row_at (id := 127) (by decide) k (d := d + 5)) rfl rfl rfl rfl ?_
  show zw fm sx (d + 6) 108 11 [some (.ref 133), some (.int k)] [.int (zt Z 127 k)] Z Q
  refine zw_br (c := (zt Z 127 k) ≤ 0) (t1 := 27) (t2 := 14) (loc' := [some (.ref 133), some (.int k)]) (stk' := []) (fun _ _ _ => rfl) (fun c1 => ?_) (fun c1 => ?_)
  · rw [if_pos c1] at H
    refine zw_retv rfl rfl ?_
    have H := oq_some H
    exact H
  · rw [if_neg c1] at H
    refine zw_run 2 (pc' := 17) (loc' := [some (.ref 133), some (.int k)]) (stk' := [.ref 46, .ref 133]) (fun _ _ _ => rfl) ?_
    obtain ⟨u2, hu2, H⟩ := oq_bind H
    refine zw_callf (As := [.ref 133, .ref 46]) (rest := []) (c_101 hu 22 hu2 (d := d + 1)) rfl rfl rfl rfl ?_
    show zw fm sx (d + 6) 108 20 [some (.ref 133), some (.int k)] [] u2 Q
    refine zw_run 4 (pc' := 24) (loc' := [some (.ref 133), some (.int k)]) (stk' := [.int 1, .int 1, .int k, .ref 133]) (fun _ _ _ => rfl) ?_
    obtain ⟨u3, hu3, H⟩ := oq_bind H
    refine zw_callf (As := [.ref 133, .int k, .int 1, .int 1]) (rest := []) (c_110 hu k true true hu3 (d := d + 0)) rfl rfl rfl rfl ?_
    show zw fm sx (d + 6) 108 27 [some (.ref 133), some (.int k)] [] u3 Q
    refine zw_retv rfl rfl ?_
    have H := oq_some H
    exact H
theorem c_108 {fm : Value} {sx : Nat × (Nat → Int32)} {d : Nat} {Z : zr_Z} (hu : fm = .null ∨ ∃ q, fm = .ref q) (k : Int32) {x : zr_Z} (hx : o_108 Z k = some x) : zl fm sx (d + 7) 108 [.ref 133, .int k] Z (fun r Z' => r = none ∧ Z' = x) :=
  zl_of (nL := 2) (loc0 := [some (.ref 133), some (.int k)]) rfl rfl rfl (t_108 hu k ⟨x, hx, rfl, rfl⟩)
/-- MarkInlines$Writer.addTarget -/
def o_107 (Z : zr_Z) (k : Int32) : Option zr_Z := (if ¬ (zt Z 129 k) = (-1) then (if (zt Z 129 k) ≤ 9 then (olet (zadd (zadd Z 134 35) 134 (48 + ((zt Z 129 k) - (zt Z 129 k) / 10 * 10)) : zr_Z) fun Z3 => some Z3) else (olet (zadd (zadd (zadd Z 134 35) 134 (48 + ((zt Z 129 k) / 10))) 134 (48 + ((zt Z 129 k) - (zt Z 129 k) / 10 * 10)) : zr_Z) fun Z4 => some Z4)) else (Option.bind (o_110 Z k false true) fun u5 => some u5))
set_option maxRecDepth 100000 in
set_option maxHeartbeats 4000000 in
theorem t_107 {fm : Value} {sx : Nat × (Nat → Int32)} {d : Nat} {Z : zr_Z} {Q : Option Value → zr_Z → Prop} (hu : fm = .null ∨ ∃ q, fm = .ref q) (k : Int32) (H : oq (o_107 Z k) (fun x => Q none x)) : zw fm sx (d + 6) 107 0 [some (.ref 133), some (.int k), none] [] Z Q := by
  unfold o_107 at H
  refine zw_run 1 (pc' := 1) (loc' := [some (.ref 133), some (.int k), none]) (stk' := [.ref 133]) (fun _ _ _ => rfl) ?_
  refine zw_get (v := .ref 114) rfl rfl rfl ?_
  refine zw_get (v := .ref 129) rfl rfl rfl ?_
  refine zw_run 1 (pc' := 8) (loc' := [some (.ref 133), some (.int k), none]) (stk' := [.int k, .ref 129]) (fun _ _ _ => rfl) ?_
  refine zw_callf (As := [.ref 129, .int k]) (rest := []) (c_row_at (id := 129) (by decide) k (d := d + 5)) rfl rfl rfl rfl ?_
  show zw fm sx (d + 6) 107 11 [some (.ref 133), some (.int k), none] [.int (zt Z 129 k)] Z Q
  refine zw_run 3 (pc' := 14) (loc' := [some (.ref 133), some (.int k), some (.int (zt Z 129 k))]) (stk' := [.int (-1), .int (zt Z 129 k)]) (fun _ _ _ => rfl) ?_
  refine zw_br (c := ¬ (zt Z 129 k) = (-1)) (t1 := 25) (t2 := 17) (loc' := [some (.ref 133), some (.int k), some (.int (zt Z 129 k))]) (stk' := []) (fun _ _ _ => rfl) (fun c1 => ?_) (fun c1 => ?_)
  · rw [if_pos c1] at H
    refine zw_run 1 (pc' := 26) (loc' := [some (.ref 133), some (.int k), some (.int (zt Z 129 k))]) (stk' := [.ref 133]) (fun _ _ _ => rfl) ?_
    refine zw_get (v := .ref 134) rfl rfl rfl ?_
    refine zw_run 1 (pc' := 31) (loc' := [some (.ref 133), some (.int k), some (.int (zt Z 129 k))]) (stk' := [.int 35, .ref 134]) (fun _ _ _ => rfl) ?_
    refine zw_callf (As := [.ref 134, .int 35]) (rest := []) (c_row_add (id := 134) (by decide) 35 (d := d + 4)) rfl rfl rfl rfl ?_
    show zw fm sx (d + 6) 107 34 [some (.ref 133), some (.int k), some (.int (zt Z 129 k))] [] (zadd Z 134 35) Q
    refine zw_run 2 (pc' := 37) (loc' := [some (.ref 133), some (.int k), some (.int (zt Z 129 k))]) (stk' := [.int 9, .int (zt Z 129 k)]) (fun _ _ _ => rfl) ?_
    refine zw_br (c := (zt Z 129 k) ≤ 9) (t1 := 54) (t2 := 40) (loc' := [some (.ref 133), some (.int k), some (.int (zt Z 129 k))]) (stk' := []) (fun _ _ _ => rfl) (fun c2 => ?_) (fun c2 => ?_)
    · rw [if_pos c2] at H
      refine zw_run 1 (pc' := 55) (loc' := [some (.ref 133), some (.int k), some (.int (zt Z 129 k))]) (stk' := [.ref 133]) (fun _ _ _ => rfl) ?_
      refine zw_get (v := .ref 134) rfl rfl rfl ?_
      refine zw_run 5 (pc' := 65) (loc' := [some (.ref 133), some (.int k), some (.int (zt Z 129 k))]) (stk' := [.int (48 + ((zt Z 129 k) - (zt Z 129 k) / 10 * 10)), .ref 134]) (fun _ _ _ => rfl) ?_
      refine zw_callf (As := [.ref 134, .int (48 + ((zt Z 129 k) - (zt Z 129 k) / 10 * 10))]) (rest := []) (c_row_add (id := 134) (by decide) (48 + ((zt Z 129 k) - (zt Z 129 k) / 10 * 10)) (d := d + 4)) rfl rfl rfl rfl ?_
      show zw fm sx (d + 6) 107 68 [some (.ref 133), some (.int k), some (.int (zt Z 129 k))] [] (zadd (zadd Z 134 35) 134 (48 + ((zt Z 129 k) - (zt Z 129 k) / 10 * 10))) Q
      obtain ⟨Z3, hZ3⟩ : ∃ w : zr_Z, w = zadd (zadd Z 134 35) 134 (48 + ((zt Z 129 k) - (zt Z 129 k) / 10 * 10)) := ⟨_, rfl⟩
      rw [← hZ3]
      have H := oq_let H Z3 hZ3
      refine zw_retv rfl rfl ?_
      have H := oq_some H
      exact H
    · rw [if_neg c2] at H
      refine zw_run 1 (pc' := 41) (loc' := [some (.ref 133), some (.int k), some (.int (zt Z 129 k))]) (stk' := [.ref 133]) (fun _ _ _ => rfl) ?_
      refine zw_get (v := .ref 134) rfl rfl rfl ?_
      refine zw_run 5 (pc' := 51) (loc' := [some (.ref 133), some (.int k), some (.int (zt Z 129 k))]) (stk' := [.int (48 + ((zt Z 129 k) / 10)), .ref 134]) (fun _ _ _ => rfl) ?_
      refine zw_callf (As := [.ref 134, .int (48 + ((zt Z 129 k) / 10))]) (rest := []) (c_row_add (id := 134) (by decide) (48 + ((zt Z 129 k) / 10)) (d := d + 4)) rfl rfl rfl rfl ?_
      show zw fm sx (d + 6) 107 54 [some (.ref 133), some (.int k), some (.int (zt Z 129 k))] [] (zadd (zadd Z 134 35) 134 (48 + ((zt Z 129 k) / 10))) Q
      refine zw_run 1 (pc' := 55) (loc' := [some (.ref 133), some (.int k), some (.int (zt Z 129 k))]) (stk' := [.ref 133]) (fun _ _ _ => rfl) ?_
      refine zw_get (v := .ref 134) rfl rfl rfl ?_
      refine zw_run 5 (pc' := 65) (loc' := [some (.ref 133), some (.int k), some (.int (zt Z 129 k))]) (stk' := [.int (48 + ((zt Z 129 k) - (zt Z 129 k) / 10 * 10)), .ref 134]) (fun _ _ _ => rfl) ?_
      refine zw_callf (As := [.ref 134, .int (48 + ((zt Z 129 k) - (zt Z 129 k) / 10 * 10))]) (rest := []) (c_row_add (id := 134) (by decide) (48 + ((zt Z 129 k) - (zt Z 129 k) / 10 * 10)) (d := d + 4)) rfl rfl rfl rfl ?_
      show zw fm sx (d + 6) 107 68 [some (.ref 133), some (.int k), some (.int (zt Z 129 k))] [] (zadd (zadd (zadd Z 134 35) 134 (48 + ((zt Z 129 k) / 10))) 134 (48 + ((zt Z 129 k) - (zt Z 129 k) / 10 * 10))) Q
      obtain ⟨Z4, hZ4⟩ : ∃ w : zr_Z, w = zadd (zadd (zadd Z 134 35) 134 (48 + ((zt Z 129 k) / 10))) 134 (48 + ((zt Z 129 k) - (zt Z 129 k) / 10 * 10)) := ⟨_, rfl⟩
      rw [← hZ4]
      have H := oq_let H Z4 hZ4
      refine zw_retv rfl rfl ?_
      have H := oq_some H
      exact H
  · rw [if_neg c1] at H
    refine zw_run 4 (pc' := 21) (loc' := [some (.ref 133), some (.int k), some (.int (zt Z 129 k))]) (stk' := [.int 1, .int 0, .int k, .ref 133]) (fun _ _ _ => rfl) ?_
    obtain ⟨u5, hu5, H⟩ := oq_bind H
    refine zw_callf (As := [.ref 133, .int k, .int 0, .int 1]) (rest := []) (c_110 hu k false true hu5 (d := d + 0)) rfl rfl rfl rfl ?_
    show zw fm sx (d + 6) 107 24 [some (.ref 133), some (.int k), some (.int (zt Z 129 k))] [] u5 Q
    refine zw_retv rfl rfl ?_
    have H := oq_some H
    exact H
theorem c_107 {fm : Value} {sx : Nat × (Nat → Int32)} {d : Nat} {Z : zr_Z} (hu : fm = .null ∨ ∃ q, fm = .ref q) (k : Int32) {x : zr_Z} (hx : o_107 Z k = some x) : zl fm sx (d + 7) 107 [.ref 133, .int k] Z (fun r Z' => r = none ∧ Z' = x) :=
  zl_of (nL := 3) (loc0 := [some (.ref 133), some (.int k), none]) rfl rfl rfl (t_107 hu k ⟨x, hx, rfl, rfl⟩)
/-- MarkInlines$Writer.begin -/
def o_106 (Z : zr_Z) (k : Int32) : Option zr_Z := (if zt Z 115 k = 0 then (Option.bind (o_110 Z k false true) fun u2 => some u2) else (if zt Z 115 k = 1 then (Option.bind (o_101 Z 15) fun u4 => some u4) else (if zt Z 115 k = 2 then (Option.bind (o_101 Z 16) fun u6 => some u6) else (if zt Z 115 k = 3 then (Option.bind (o_101 Z 17) fun u8 => (Option.bind (o_110 u8 k false true) fun u9 => (Option.bind (o_101 u9 18) fun u10 => some u10))) else (if zt Z 115 k = 4 then (Option.bind (o_101 Z 19) fun u12 => some u12) else (if zt Z 115 k = 5 then (Option.bind (o_101 Z 20) fun u14 => some u14) else (if zt Z 115 k = 6 then (Option.bind (o_101 Z 21) fun u16 => (Option.bind (o_107 u16 k) fun u17 => (Option.bind (o_108 u17 k) fun u18 => (Option.bind (o_101 u18 23) fun u19 => some u19)))) else (if zt Z 115 k = 7 then (Option.bind (o_101 Z 24) fun u21 => (Option.bind (o_107 u21 k) fun u22 => (Option.bind (o_101 u22 25) fun u23 => (Option.bind (o_109 u23 k true) fun u24 => (Option.bind (o_108 u24 k) fun u25 => (Option.bind (o_101 u25 26) fun u26 => some u26)))))) else some Z))))))))
set_option maxRecDepth 100000 in
set_option maxHeartbeats 4000000 in
theorem t_106 {fm : Value} {sx : Nat × (Nat → Int32)} {d : Nat} {Z : zr_Z} {Q : Option Value → zr_Z → Prop} (hu : fm = .null ∨ ∃ q, fm = .ref q) (k : Int32) (H : oq (o_106 Z k) (fun x => Q none x)) : zw fm sx (d + 7) 106 0 [some (.ref 133), some (.int k)] [] Z Q := by
  unfold o_106 at H
  refine zw_run 1 (pc' := 1) (loc' := [some (.ref 133), some (.int k)]) (stk' := [.ref 133]) (fun _ _ _ => rfl) ?_
  refine zw_get (v := .ref 114) rfl rfl rfl ?_
  refine zw_get (v := .ref 115) rfl rfl rfl ?_
  refine zw_run 1 (pc' := 8) (loc' := [some (.ref 133), some (.int k)]) (stk' := [.int k, .ref 115]) (fun _ _ _ => rfl) ?_
  refine zw_callf (As := [.ref 115, .int k]) (rest := []) (c_row_at (id := 115) (by decide) k (d := d + 6)) rfl rfl rfl rfl ?_
  show zw fm sx (d + 7) 106 11 [some (.ref 133), some (.int k)] [.int (zt Z 115 k)] Z Q
  by_cases c1 : zt Z 115 k = 0
  · rw [if_pos c1] at H
    refine zw_run 1 (pc' := 56) (loc' := [some (.ref 133), some (.int k)]) (stk' := []) (fun _ _ _ => by rw [c1]; rfl) ?_
    refine zw_run 4 (pc' := 60) (loc' := [some (.ref 133), some (.int k)]) (stk' := [.int 1, .int 0, .int k, .ref 133]) (fun _ _ _ => rfl) ?_
    obtain ⟨u2, hu2, H⟩ := oq_bind H
    refine zw_callf (As := [.ref 133, .int k, .int 0, .int 1]) (rest := []) (c_110 hu k false true hu2 (d := d + 1)) rfl rfl rfl rfl ?_
    show zw fm sx (d + 7) 106 63 [some (.ref 133), some (.int k)] [] u2 Q
    refine zw_run 1 (pc' := 186) (loc' := [some (.ref 133), some (.int k)]) (stk' := []) (fun _ _ _ => rfl) ?_
    refine zw_retv rfl rfl ?_
    have H := oq_some H
    exact H
  rw [if_neg c1] at H
  by_cases c3 : zt Z 115 k = 1
  · rw [if_pos c3] at H
    refine zw_run 1 (pc' := 66) (loc' := [some (.ref 133), some (.int k)]) (stk' := []) (fun _ _ _ => by rw [c3]; rfl) ?_
    refine zw_run 2 (pc' := 69) (loc' := [some (.ref 133), some (.int k)]) (stk' := [.ref 32, .ref 133]) (fun _ _ _ => rfl) ?_
    obtain ⟨u4, hu4, H⟩ := oq_bind H
    refine zw_callf (As := [.ref 133, .ref 32]) (rest := []) (c_101 hu 15 hu4 (d := d + 2)) rfl rfl rfl rfl ?_
    show zw fm sx (d + 7) 106 72 [some (.ref 133), some (.int k)] [] u4 Q
    refine zw_run 1 (pc' := 186) (loc' := [some (.ref 133), some (.int k)]) (stk' := []) (fun _ _ _ => rfl) ?_
    refine zw_retv rfl rfl ?_
    have H := oq_some H
    exact H
  rw [if_neg c3] at H
  by_cases c5 : zt Z 115 k = 2
  · rw [if_pos c5] at H
    refine zw_run 1 (pc' := 75) (loc' := [some (.ref 133), some (.int k)]) (stk' := []) (fun _ _ _ => by rw [c5]; rfl) ?_
    refine zw_run 2 (pc' := 78) (loc' := [some (.ref 133), some (.int k)]) (stk' := [.ref 34, .ref 133]) (fun _ _ _ => rfl) ?_
    obtain ⟨u6, hu6, H⟩ := oq_bind H
    refine zw_callf (As := [.ref 133, .ref 34]) (rest := []) (c_101 hu 16 hu6 (d := d + 2)) rfl rfl rfl rfl ?_
    show zw fm sx (d + 7) 106 81 [some (.ref 133), some (.int k)] [] u6 Q
    refine zw_run 1 (pc' := 186) (loc' := [some (.ref 133), some (.int k)]) (stk' := []) (fun _ _ _ => rfl) ?_
    refine zw_retv rfl rfl ?_
    have H := oq_some H
    exact H
  rw [if_neg c5] at H
  by_cases c7 : zt Z 115 k = 3
  · rw [if_pos c7] at H
    refine zw_run 1 (pc' := 84) (loc' := [some (.ref 133), some (.int k)]) (stk' := []) (fun _ _ _ => by rw [c7]; rfl) ?_
    refine zw_run 2 (pc' := 87) (loc' := [some (.ref 133), some (.int k)]) (stk' := [.ref 36, .ref 133]) (fun _ _ _ => rfl) ?_
    obtain ⟨u8, hu8, H⟩ := oq_bind H
    refine zw_callf (As := [.ref 133, .ref 36]) (rest := []) (c_101 hu 17 hu8 (d := d + 2)) rfl rfl rfl rfl ?_
    show zw fm sx (d + 7) 106 90 [some (.ref 133), some (.int k)] [] u8 Q
    refine zw_run 4 (pc' := 94) (loc' := [some (.ref 133), some (.int k)]) (stk' := [.int 1, .int 0, .int k, .ref 133]) (fun _ _ _ => rfl) ?_
    obtain ⟨u9, hu9, H⟩ := oq_bind H
    refine zw_callf (As := [.ref 133, .int k, .int 0, .int 1]) (rest := []) (c_110 hu k false true hu9 (d := d + 1)) rfl rfl rfl rfl ?_
    show zw fm sx (d + 7) 106 97 [some (.ref 133), some (.int k)] [] u9 Q
    refine zw_run 2 (pc' := 100) (loc' := [some (.ref 133), some (.int k)]) (stk' := [.ref 38, .ref 133]) (fun _ _ _ => rfl) ?_
    obtain ⟨u10, hu10, H⟩ := oq_bind H
    refine zw_callf (As := [.ref 133, .ref 38]) (rest := []) (c_101 hu 18 hu10 (d := d + 2)) rfl rfl rfl rfl ?_
    show zw fm sx (d + 7) 106 103 [some (.ref 133), some (.int k)] [] u10 Q
    refine zw_run 1 (pc' := 186) (loc' := [some (.ref 133), some (.int k)]) (stk' := []) (fun _ _ _ => rfl) ?_
    refine zw_retv rfl rfl ?_
    have H := oq_some H
    exact H
  rw [if_neg c7] at H
  by_cases c11 : zt Z 115 k = 4
  · rw [if_pos c11] at H
    refine zw_run 1 (pc' := 106) (loc' := [some (.ref 133), some (.int k)]) (stk' := []) (fun _ _ _ => by rw [c11]; rfl) ?_
    refine zw_run 2 (pc' := 109) (loc' := [some (.ref 133), some (.int k)]) (stk' := [.ref 40, .ref 133]) (fun _ _ _ => rfl) ?_
    obtain ⟨u12, hu12, H⟩ := oq_bind H
    refine zw_callf (As := [.ref 133, .ref 40]) (rest := []) (c_101 hu 19 hu12 (d := d + 2)) rfl rfl rfl rfl ?_
    show zw fm sx (d + 7) 106 112 [some (.ref 133), some (.int k)] [] u12 Q
    refine zw_run 1 (pc' := 186) (loc' := [some (.ref 133), some (.int k)]) (stk' := []) (fun _ _ _ => rfl) ?_
    refine zw_retv rfl rfl ?_
    have H := oq_some H
    exact H
  rw [if_neg c11] at H
  by_cases c13 : zt Z 115 k = 5
  · rw [if_pos c13] at H
    refine zw_run 1 (pc' := 115) (loc' := [some (.ref 133), some (.int k)]) (stk' := []) (fun _ _ _ => by rw [c13]; rfl) ?_
    refine zw_run 2 (pc' := 118) (loc' := [some (.ref 133), some (.int k)]) (stk' := [.ref 42, .ref 133]) (fun _ _ _ => rfl) ?_
    obtain ⟨u14, hu14, H⟩ := oq_bind H
    refine zw_callf (As := [.ref 133, .ref 42]) (rest := []) (c_101 hu 20 hu14 (d := d + 2)) rfl rfl rfl rfl ?_
    show zw fm sx (d + 7) 106 121 [some (.ref 133), some (.int k)] [] u14 Q
    refine zw_run 1 (pc' := 186) (loc' := [some (.ref 133), some (.int k)]) (stk' := []) (fun _ _ _ => rfl) ?_
    refine zw_retv rfl rfl ?_
    have H := oq_some H
    exact H
  rw [if_neg c13] at H
  by_cases c15 : zt Z 115 k = 6
  · rw [if_pos c15] at H
    refine zw_run 1 (pc' := 124) (loc' := [some (.ref 133), some (.int k)]) (stk' := []) (fun _ _ _ => by rw [c15]; rfl) ?_
    refine zw_run 2 (pc' := 127) (loc' := [some (.ref 133), some (.int k)]) (stk' := [.ref 44, .ref 133]) (fun _ _ _ => rfl) ?_
    obtain ⟨u16, hu16, H⟩ := oq_bind H
    refine zw_callf (As := [.ref 133, .ref 44]) (rest := []) (c_101 hu 21 hu16 (d := d + 2)) rfl rfl rfl rfl ?_
    show zw fm sx (d + 7) 106 130 [some (.ref 133), some (.int k)] [] u16 Q
    refine zw_run 2 (pc' := 132) (loc' := [some (.ref 133), some (.int k)]) (stk' := [.int k, .ref 133]) (fun _ _ _ => rfl) ?_
    obtain ⟨u17, hu17, H⟩ := oq_bind H
    refine zw_callf (As := [.ref 133, .int k]) (rest := []) (c_107 hu k hu17 (d := d + 0)) rfl rfl rfl rfl ?_
    show zw fm sx (d + 7) 106 135 [some (.ref 133), some (.int k)] [] u17 Q
    refine zw_run 2 (pc' := 137) (loc' := [some (.ref 133), some (.int k)]) (stk' := [.int k, .ref 133]) (fun _ _ _ => rfl) ?_
    obtain ⟨u18, hu18, H⟩ := oq_bind H
    refine zw_callf (As := [.ref 133, .int k]) (rest := []) (c_108 hu k hu18 (d := d + 0)) rfl rfl rfl rfl ?_
    show zw fm sx (d + 7) 106 140 [some (.ref 133), some (.int k)] [] u18 Q
    refine zw_run 2 (pc' := 143) (loc' := [some (.ref 133), some (.int k)]) (stk' := [.ref 48, .ref 133]) (fun _ _ _ => rfl) ?_
    obtain ⟨u19, hu19, H⟩ := oq_bind H
    refine zw_callf (As := [.ref 133, .ref 48]) (rest := []) (c_101 hu 23 hu19 (d := d + 2)) rfl rfl rfl rfl ?_
    show zw fm sx (d + 7) 106 146 [some (.ref 133), some (.int k)] [] u19 Q
    refine zw_run 1 (pc' := 186) (loc' := [some (.ref 133), some (.int k)]) (stk' := []) (fun _ _ _ => rfl) ?_
    refine zw_retv rfl rfl ?_
    have H := oq_some H
    exact H
  rw [if_neg c15] at H
  by_cases c20 : zt Z 115 k = 7
  · rw [if_pos c20] at H
    refine zw_run 1 (pc' := 149) (loc' := [some (.ref 133), some (.int k)]) (stk' := []) (fun _ _ _ => by rw [c20]; rfl) ?_
    refine zw_run 2 (pc' := 152) (loc' := [some (.ref 133), some (.int k)]) (stk' := [.ref 50, .ref 133]) (fun _ _ _ => rfl) ?_
    obtain ⟨u21, hu21, H⟩ := oq_bind H
    refine zw_callf (As := [.ref 133, .ref 50]) (rest := []) (c_101 hu 24 hu21 (d := d + 2)) rfl rfl rfl rfl ?_
    show zw fm sx (d + 7) 106 155 [some (.ref 133), some (.int k)] [] u21 Q
    refine zw_run 2 (pc' := 157) (loc' := [some (.ref 133), some (.int k)]) (stk' := [.int k, .ref 133]) (fun _ _ _ => rfl) ?_
    obtain ⟨u22, hu22, H⟩ := oq_bind H
    refine zw_callf (As := [.ref 133, .int k]) (rest := []) (c_107 hu k hu22 (d := d + 0)) rfl rfl rfl rfl ?_
    show zw fm sx (d + 7) 106 160 [some (.ref 133), some (.int k)] [] u22 Q
    refine zw_run 2 (pc' := 163) (loc' := [some (.ref 133), some (.int k)]) (stk' := [.ref 52, .ref 133]) (fun _ _ _ => rfl) ?_
    obtain ⟨u23, hu23, H⟩ := oq_bind H
    refine zw_callf (As := [.ref 133, .ref 52]) (rest := []) (c_101 hu 25 hu23 (d := d + 2)) rfl rfl rfl rfl ?_
    show zw fm sx (d + 7) 106 166 [some (.ref 133), some (.int k)] [] u23 Q
    refine zw_run 3 (pc' := 169) (loc' := [some (.ref 133), some (.int k)]) (stk' := [.int 1, .int k, .ref 133]) (fun _ _ _ => rfl) ?_
    obtain ⟨u24, hu24, H⟩ := oq_bind H
    refine zw_callf (As := [.ref 133, .int k, .int 1]) (rest := []) (c_109 hu k true hu24 (d := d + 0)) rfl rfl rfl rfl ?_
    show zw fm sx (d + 7) 106 172 [some (.ref 133), some (.int k)] [] u24 Q
    refine zw_run 2 (pc' := 174) (loc' := [some (.ref 133), some (.int k)]) (stk' := [.int k, .ref 133]) (fun _ _ _ => rfl) ?_
    obtain ⟨u25, hu25, H⟩ := oq_bind H
    refine zw_callf (As := [.ref 133, .int k]) (rest := []) (c_108 hu k hu25 (d := d + 0)) rfl rfl rfl rfl ?_
    show zw fm sx (d + 7) 106 177 [some (.ref 133), some (.int k)] [] u25 Q
    refine zw_run 2 (pc' := 180) (loc' := [some (.ref 133), some (.int k)]) (stk' := [.ref 54, .ref 133]) (fun _ _ _ => rfl) ?_
    obtain ⟨u26, hu26, H⟩ := oq_bind H
    refine zw_callf (As := [.ref 133, .ref 54]) (rest := []) (c_101 hu 26 hu26 (d := d + 2)) rfl rfl rfl rfl ?_
    show zw fm sx (d + 7) 106 183 [some (.ref 133), some (.int k)] [] u26 Q
    refine zw_run 1 (pc' := 186) (loc' := [some (.ref 133), some (.int k)]) (stk' := []) (fun _ _ _ => rfl) ?_
    refine zw_retv rfl rfl ?_
    have H := oq_some H
    exact H
  rw [if_neg c20] at H
  refine zw_sw (pc' := 186) (loc' := [some (.ref 133), some (.int k)]) (stk' := []) rfl (am_tswd (fun i h1 h2 => ?_)) ?_
  · rcases (show i = 0 ∨ i = 1 ∨ i = 2 ∨ i = 3 ∨ i = 4 ∨ i = 5 ∨ i = 6 ∨ i = 7 by omega) with rfl | rfl | rfl | rfl | rfl | rfl | rfl | rfl
    · exact fun q => c1 (Int32.toInt_inj.mp q)
    · exact fun q => c3 (Int32.toInt_inj.mp q)
    · exact fun q => c5 (Int32.toInt_inj.mp q)
    · exact fun q => c7 (Int32.toInt_inj.mp q)
    · exact fun q => c11 (Int32.toInt_inj.mp q)
    · exact fun q => c13 (Int32.toInt_inj.mp q)
    · exact fun q => c15 (Int32.toInt_inj.mp q)
    · exact fun q => c20 (Int32.toInt_inj.mp q)
  refine zw_retv rfl rfl ?_
  have H := oq_some H
  exact H
theorem c_106 {fm : Value} {sx : Nat × (Nat → Int32)} {d : Nat} {Z : zr_Z} (hu : fm = .null ∨ ∃ q, fm = .ref q) (k : Int32) {x : zr_Z} (hx : o_106 Z k = some x) : zl fm sx (d + 8) 106 [.ref 133, .int k] Z (fun r Z' => r = none ∧ Z' = x) :=
  zl_of (nL := 2) (loc0 := [some (.ref 133), some (.int k)]) rfl rfl rfl (t_106 hu k ⟨x, hx, rfl, rfl⟩)
/-- MarkInlines$Writer.closeDownTo, its loop at 5 -/
def g_105_5 : Nat → zr_Z → Int32 → Int32 → Int32 → Int32 → Option (Int32 × zr_Z)
  | 0, _, _, _, _, _ => none
  | n + 1, Z, la, ho, x3, x4 => (if 20 ≤ x4 then some (la, Z) else (if x3 = la then some (la, Z) else (if ¬ (zt Z 115 x3) = 4 then (if ¬ (zt Z 115 x3) = 5 then (if ¬ (zt Z 115 x3) = 6 then g_105_5 n Z la ho (zt Z 117 x3) (x4 + 1) else (Option.bind (o_101 Z 14) fun u6 => g_105_5 n u6 la ho (zt u6 117 x3) (x4 + 1))) else (Option.bind (o_101 Z 13) fun u7 => g_105_5 n u7 la ho (zt u7 117 x3) (x4 + 1))) else (Option.bind (o_101 Z 12) fun u8 => g_105_5 n u8 la ho (zt u8 117 x3) (x4 + 1)))))
set_option maxRecDepth 100000 in
set_option maxHeartbeats 4000000 in
theorem l_105_5 {fm : Value} {sx : Nat × (Nat → Int32)} {d : Nat} {Q : Option Value → zr_Z → Prop} (hu : fm = .null ∨ ∃ q, fm = .ref q) (la : Int32) (ho : Int32) : ∀ (n : Nat) (Z : zr_Z) (x3 : Int32) (x4 : Int32), oq (g_105_5 n Z la ho x3 x4) (fun x => Q (some (.int x.1)) x.2) → zw fm sx (d + 5) 105 5 [some (.ref 133), some (.int la), none, some (.int x3), some (.int x4), none] [] Z Q := by
  intro n
  induction n with
  | zero => intro Z x3 x4 H; exact absurd H oq_none
  | succ n ih =>
    intro Z x3 x4 H
    unfold g_105_5 at H
    refine zw_run 2 (pc' := 9) (loc' := [some (.ref 133), some (.int la), none, some (.int x3), some (.int x4), none]) (stk' := [.int 20, .int x4]) (fun _ _ _ => rfl) ?_
    refine zw_br (c := 20 ≤ x4) (t1 := 91) (t2 := 12) (loc' := [some (.ref 133), some (.int la), none, some (.int x3), some (.int x4), none]) (stk' := []) (fun _ _ _ => rfl) (fun c1 => ?_) (fun c1 => ?_)
    · rw [if_pos c1] at H
      refine zw_run 1 (pc' := 92) (loc' := [some (.ref 133), some (.int la), none, some (.int x3), some (.int x4), none]) (stk' := [.int la]) (fun _ _ _ => rfl) ?_
      refine zw_reti (i := .nop) rfl rfl ?_
      have H := oq_some H
      exact H
    · rw [if_neg c1] at H
      refine zw_run 2 (pc' := 14) (loc' := [some (.ref 133), some (.int la), none, some (.int x3), some (.int x4), none]) (stk' := [.int la, .int x3]) (fun _ _ _ => rfl) ?_
      refine zw_br (c := x3 = la) (t1 := 91) (t2 := 17) (loc' := [some (.ref 133), some (.int la), none, some (.int x3), some (.int x4), none]) (stk' := []) (fun _ _ _ => rfl) (fun c2 => ?_) (fun c2 => ?_)
      · rw [if_pos c2] at H
        refine zw_run 1 (pc' := 92) (loc' := [some (.ref 133), some (.int la), none, some (.int x3), some (.int x4), none]) (stk' := [.int la]) (fun _ _ _ => rfl) ?_
        refine zw_reti (i := .nop) rfl rfl ?_
        have H := oq_some H
        exact H
      · rw [if_neg c2] at H
        refine zw_run 1 (pc' := 18) (loc' := [some (.ref 133), some (.int la), none, some (.int x3), some (.int x4), none]) (stk' := [.ref 133]) (fun _ _ _ => rfl) ?_
        refine zw_get (v := .ref 114) rfl rfl rfl ?_
        refine zw_get (v := .ref 115) rfl rfl rfl ?_
        refine zw_run 1 (pc' := 25) (loc' := [some (.ref 133), some (.int la), none, some (.int x3), some (.int x4), none]) (stk' := [.int x3, .ref 115]) (fun _ _ _ => rfl) ?_
        refine zw_callf (As := [.ref 115, .int x3]) (rest := []) (c_row_at (id := 115) (by decide) x3 (d := d + 4)) rfl rfl rfl rfl ?_
        show zw fm sx (d + 5) 105 28 [some (.ref 133), some (.int la), none, some (.int x3), some (.int x4), none] [.int (zt Z 115 x3)] Z Q
        refine zw_run 3 (pc' := 33) (loc' := [some (.ref 133), some (.int la), none, some (.int x3), some (.int x4), some (.int (zt Z 115 x3))]) (stk' := [.int 4, .int (zt Z 115 x3)]) (fun _ _ _ => rfl) ?_
        refine zw_br (c := ¬ (zt Z 115 x3) = 4) (t1 := 45) (t2 := 36) (loc' := [some (.ref 133), some (.int la), none, some (.int x3), some (.int x4), some (.int (zt Z 115 x3))]) (stk' := []) (fun _ _ _ => rfl) (fun c3 => ?_) (fun c3 => ?_)
        · rw [if_pos c3] at H
          refine zw_run 2 (pc' := 48) (loc' := [some (.ref 133), some (.int la), none, some (.int x3), some (.int x4), some (.int (zt Z 115 x3))]) (stk' := [.int 5, .int (zt Z 115 x3)]) (fun _ _ _ => rfl) ?_
          refine zw_br (c := ¬ (zt Z 115 x3) = 5) (t1 := 60) (t2 := 51) (loc' := [some (.ref 133), some (.int la), none, some (.int x3), some (.int x4), some (.int (zt Z 115 x3))]) (stk' := []) (fun _ _ _ => rfl) (fun c4 => ?_) (fun c4 => ?_)
          · rw [if_pos c4] at H
            refine zw_run 2 (pc' := 64) (loc' := [some (.ref 133), some (.int la), none, some (.int x3), some (.int x4), some (.int (zt Z 115 x3))]) (stk' := [.int 6, .int (zt Z 115 x3)]) (fun _ _ _ => rfl) ?_
            refine zw_br (c := ¬ (zt Z 115 x3) = 6) (t1 := 73) (t2 := 67) (loc' := [some (.ref 133), some (.int la), none, some (.int x3), some (.int x4), some (.int (zt Z 115 x3))]) (stk' := []) (fun _ _ _ => rfl) (fun c5 => ?_) (fun c5 => ?_)
            · rw [if_pos c5] at H
              refine zw_run 1 (pc' := 74) (loc' := [some (.ref 133), some (.int la), none, some (.int x3), some (.int x4), some (.int (zt Z 115 x3))]) (stk' := [.ref 133]) (fun _ _ _ => rfl) ?_
              refine zw_get (v := .ref 114) rfl rfl rfl ?_
              refine zw_get (v := .ref 117) rfl rfl rfl ?_
              refine zw_run 1 (pc' := 81) (loc' := [some (.ref 133), some (.int la), none, some (.int x3), some (.int x4), some (.int (zt Z 115 x3))]) (stk' := [.int x3, .ref 117]) (fun _ _ _ => rfl) ?_
              refine zw_callf (As := [.ref 117, .int x3]) (rest := []) (c_row_at (id := 117) (by decide) x3 (d := d + 4)) rfl rfl rfl rfl ?_
              show zw fm sx (d + 5) 105 84 [some (.ref 133), some (.int la), none, some (.int x3), some (.int x4), some (.int (zt Z 115 x3))] [.int (zt Z 117 x3)] Z Q
              refine zw_run 3 (pc' := 5) (loc' := [some (.ref 133), some (.int la), none, some (.int (zt Z 117 x3)), some (.int (x4 + 1)), some (.int (zt Z 115 x3))]) (stk' := []) (fun _ _ _ => rfl) ?_
              refine zw_fgt [true, true, false, true, true, false] rfl ?_
              exact ih Z (zt Z 117 x3) (x4 + 1) H
            · rw [if_neg c5] at H
              refine zw_run 2 (pc' := 70) (loc' := [some (.ref 133), some (.int la), none, some (.int x3), some (.int x4), some (.int (zt Z 115 x3))]) (stk' := [.ref 30, .ref 133]) (fun _ _ _ => rfl) ?_
              obtain ⟨u6, hu6, H⟩ := oq_bind H
              refine zw_callf (As := [.ref 133, .ref 30]) (rest := []) (c_101 hu 14 hu6 (d := d + 0)) rfl rfl rfl rfl ?_
              show zw fm sx (d + 5) 105 73 [some (.ref 133), some (.int la), none, some (.int x3), some (.int x4), some (.int (zt Z 115 x3))] [] u6 Q
              refine zw_run 1 (pc' := 74) (loc' := [some (.ref 133), some (.int la), none, some (.int x3), some (.int x4), some (.int (zt Z 115 x3))]) (stk' := [.ref 133]) (fun _ _ _ => rfl) ?_
              refine zw_get (v := .ref 114) rfl rfl rfl ?_
              refine zw_get (v := .ref 117) rfl rfl rfl ?_
              refine zw_run 1 (pc' := 81) (loc' := [some (.ref 133), some (.int la), none, some (.int x3), some (.int x4), some (.int (zt Z 115 x3))]) (stk' := [.int x3, .ref 117]) (fun _ _ _ => rfl) ?_
              refine zw_callf (As := [.ref 117, .int x3]) (rest := []) (c_row_at (id := 117) (by decide) x3 (d := d + 4)) rfl rfl rfl rfl ?_
              show zw fm sx (d + 5) 105 84 [some (.ref 133), some (.int la), none, some (.int x3), some (.int x4), some (.int (zt Z 115 x3))] [.int (zt u6 117 x3)] u6 Q
              refine zw_run 3 (pc' := 5) (loc' := [some (.ref 133), some (.int la), none, some (.int (zt u6 117 x3)), some (.int (x4 + 1)), some (.int (zt Z 115 x3))]) (stk' := []) (fun _ _ _ => rfl) ?_
              refine zw_fgt [true, true, false, true, true, false] rfl ?_
              exact ih u6 (zt u6 117 x3) (x4 + 1) H
          · rw [if_neg c4] at H
            refine zw_run 2 (pc' := 54) (loc' := [some (.ref 133), some (.int la), none, some (.int x3), some (.int x4), some (.int (zt Z 115 x3))]) (stk' := [.ref 28, .ref 133]) (fun _ _ _ => rfl) ?_
            obtain ⟨u7, hu7, H⟩ := oq_bind H
            refine zw_callf (As := [.ref 133, .ref 28]) (rest := []) (c_101 hu 13 hu7 (d := d + 0)) rfl rfl rfl rfl ?_
            show zw fm sx (d + 5) 105 57 [some (.ref 133), some (.int la), none, some (.int x3), some (.int x4), some (.int (zt Z 115 x3))] [] u7 Q
            refine zw_run 2 (pc' := 74) (loc' := [some (.ref 133), some (.int la), none, some (.int x3), some (.int x4), some (.int (zt Z 115 x3))]) (stk' := [.ref 133]) (fun _ _ _ => rfl) ?_
            refine zw_get (v := .ref 114) rfl rfl rfl ?_
            refine zw_get (v := .ref 117) rfl rfl rfl ?_
            refine zw_run 1 (pc' := 81) (loc' := [some (.ref 133), some (.int la), none, some (.int x3), some (.int x4), some (.int (zt Z 115 x3))]) (stk' := [.int x3, .ref 117]) (fun _ _ _ => rfl) ?_
            refine zw_callf (As := [.ref 117, .int x3]) (rest := []) (c_row_at (id := 117) (by decide) x3 (d := d + 4)) rfl rfl rfl rfl ?_
            show zw fm sx (d + 5) 105 84 [some (.ref 133), some (.int la), none, some (.int x3), some (.int x4), some (.int (zt Z 115 x3))] [.int (zt u7 117 x3)] u7 Q
            refine zw_run 3 (pc' := 5) (loc' := [some (.ref 133), some (.int la), none, some (.int (zt u7 117 x3)), some (.int (x4 + 1)), some (.int (zt Z 115 x3))]) (stk' := []) (fun _ _ _ => rfl) ?_
            refine zw_fgt [true, true, false, true, true, false] rfl ?_
            exact ih u7 (zt u7 117 x3) (x4 + 1) H
        · rw [if_neg c3] at H
          refine zw_run 2 (pc' := 39) (loc' := [some (.ref 133), some (.int la), none, some (.int x3), some (.int x4), some (.int (zt Z 115 x3))]) (stk' := [.ref 26, .ref 133]) (fun _ _ _ => rfl) ?_
          obtain ⟨u8, hu8, H⟩ := oq_bind H
          refine zw_callf (As := [.ref 133, .ref 26]) (rest := []) (c_101 hu 12 hu8 (d := d + 0)) rfl rfl rfl rfl ?_
          show zw fm sx (d + 5) 105 42 [some (.ref 133), some (.int la), none, some (.int x3), some (.int x4), some (.int (zt Z 115 x3))] [] u8 Q
          refine zw_run 2 (pc' := 74) (loc' := [some (.ref 133), some (.int la), none, some (.int x3), some (.int x4), some (.int (zt Z 115 x3))]) (stk' := [.ref 133]) (fun _ _ _ => rfl) ?_
          refine zw_get (v := .ref 114) rfl rfl rfl ?_
          refine zw_get (v := .ref 117) rfl rfl rfl ?_
          refine zw_run 1 (pc' := 81) (loc' := [some (.ref 133), some (.int la), none, some (.int x3), some (.int x4), some (.int (zt Z 115 x3))]) (stk' := [.int x3, .ref 117]) (fun _ _ _ => rfl) ?_
          refine zw_callf (As := [.ref 117, .int x3]) (rest := []) (c_row_at (id := 117) (by decide) x3 (d := d + 4)) rfl rfl rfl rfl ?_
          show zw fm sx (d + 5) 105 84 [some (.ref 133), some (.int la), none, some (.int x3), some (.int x4), some (.int (zt Z 115 x3))] [.int (zt u8 117 x3)] u8 Q
          refine zw_run 3 (pc' := 5) (loc' := [some (.ref 133), some (.int la), none, some (.int (zt u8 117 x3)), some (.int (x4 + 1)), some (.int (zt Z 115 x3))]) (stk' := []) (fun _ _ _ => rfl) ?_
          refine zw_fgt [true, true, false, true, true, false] rfl ?_
          exact ih u8 (zt u8 117 x3) (x4 + 1) H
/-- MarkInlines$Writer.closeDownTo -/
def o_105 (Z : zr_Z) (la : Int32) (ho : Int32) : Option (Int32 × zr_Z) := g_105_5 oF Z la ho ho 0
set_option maxRecDepth 100000 in
set_option maxHeartbeats 4000000 in
theorem t_105 {fm : Value} {sx : Nat × (Nat → Int32)} {d : Nat} {Z : zr_Z} {Q : Option Value → zr_Z → Prop} (hu : fm = .null ∨ ∃ q, fm = .ref q) (la : Int32) (ho : Int32) (H : oq (o_105 Z la ho) (fun x => Q (some (.int x.1)) x.2)) : zw fm sx (d + 5) 105 0 [some (.ref 133), some (.int la), some (.int ho), none, none, none] [] Z Q := by
  unfold o_105 at H
  refine zw_run 4 (pc' := 5) (loc' := [some (.ref 133), some (.int la), some (.int ho), some (.int ho), some (.int 0), none]) (stk' := []) (fun _ _ _ => rfl) ?_
  refine zw_fgt [true, true, false, true, true, false] rfl ?_
  exact l_105_5 hu la ho _ Z ho 0 H
theorem c_105 {fm : Value} {sx : Nat × (Nat → Int32)} {d : Nat} {Z : zr_Z} (hu : fm = .null ∨ ∃ q, fm = .ref q) (la : Int32) (ho : Int32) {x : Int32 × zr_Z} (hx : o_105 Z la ho = some x) : zl fm sx (d + 6) 105 [.ref 133, .int la, .int ho] Z (fun r Z' => r = some (.int x.1) ∧ Z' = x.2) :=
  zl_of (nL := 6) (loc0 := [some (.ref 133), some (.int la), some (.int ho), none, none, none]) rfl rfl rfl (t_105 hu la ho ⟨x, hx, rfl, rfl⟩)
/-- MarkInlines$Writer.makeWritten, its loop at 12 -/
def g_104_12 : Nat → zr_Z → Int32 → Int32 → Option zr_Z
  | 0, _, _, _ => none
  | n + 1, Z, x1, x2 => (if (f_44 Z) ≤ x2 then (Option.bind (o_105 Z (-1) x1) fun u2 => some u2.2) else (Option.bind (o_105 Z (zt Z 117 x2) x1) fun u3 => (Option.bind (o_106 u3.2 x2) fun u4 => (olet ((if (zt u4 115 x2) = 4 then x2 else (if (zt u4 115 x2) = 5 then x2 else (if ¬ (zt u4 115 x2) = 6 then u3.1 else x2 : Int32) : Int32) : Int32) : Int32) fun x10 => (olet (zmax (x2 + 1) (if ¬ (zt u4 115 x2) = 7 then 0 else (f_41 u4 x2) : Int32) : Int32) fun x14 => g_104_12 n u4 x10 x14)))))
set_option maxRecDepth 100000 in
set_option maxHeartbeats 4000000 in
theorem l_104_12 {fm : Value} {sx : Nat × (Nat → Int32)} {d : Nat} {Q : Option Value → zr_Z → Prop} (hu : fm = .null ∨ ∃ q, fm = .ref q)  : ∀ (n : Nat) (Z : zr_Z) (x1 : Int32) (x2 : Int32), oq (g_104_12 n Z x1 x2) (fun x => Q none x) → zw fm sx (d + 8) 104 12 [some (.ref 133), some (.int x1), some (.int x2), none] [] Z Q := by
  intro n
  induction n with
  | zero => intro Z x1 x2 H; exact absurd H oq_none
  | succ n ih =>
    intro Z x1 x2 H
    unfold g_104_12 at H
    refine zw_run 2 (pc' := 14) (loc' := [some (.ref 133), some (.int x1), some (.int x2), none]) (stk' := [.ref 133, .int x2]) (fun _ _ _ => rfl) ?_
    refine zw_get (v := .ref 114) rfl rfl rfl ?_
    refine zw_callf (As := [.ref 114]) (rest := [.int x2]) (c_44 (d := d + 6)) rfl rfl rfl rfl ?_
    show zw fm sx (d + 8) 104 20 [some (.ref 133), some (.int x1), some (.int x2), none] [.int (f_44 Z), .int x2] Z Q
    refine zw_br (c := (f_44 Z) ≤ x2) (t1 := 107) (t2 := 23) (loc' := [some (.ref 133), some (.int x1), some (.int x2), none]) (stk' := []) (fun _ _ _ => rfl) (fun c1 => ?_) (fun c1 => ?_)
    · rw [if_pos c1] at H
      refine zw_run 3 (pc' := 110) (loc' := [some (.ref 133), some (.int x1), some (.int x2), none]) (stk' := [.int x1, .int (-1), .ref 133]) (fun _ _ _ => rfl) ?_
      obtain ⟨u2, hu2, H⟩ := oq_bind H
      refine zw_callf (As := [.ref 133, .int (-1), .int x1]) (rest := []) (c_105 hu (-1) x1 hu2 (d := d + 2)) rfl rfl rfl rfl ?_
      show zw fm sx (d + 8) 104 113 [some (.ref 133), some (.int x1), some (.int x2), none] [.int u2.1] u2.2 Q
      refine zw_run 1 (pc' := 114) (loc' := [some (.ref 133), some (.int x1), some (.int x2), none]) (stk' := []) (fun _ _ _ => rfl) ?_
      refine zw_retv rfl rfl ?_
      have H := oq_some H
      exact H
    · rw [if_neg c1] at H
      refine zw_run 2 (pc' := 25) (loc' := [some (.ref 133), some (.int x1), some (.int x2), none]) (stk' := [.ref 133, .ref 133]) (fun _ _ _ => rfl) ?_
      refine zw_get (v := .ref 114) rfl rfl rfl ?_
      refine zw_get (v := .ref 117) rfl rfl rfl ?_
      refine zw_run 1 (pc' := 32) (loc' := [some (.ref 133), some (.int x1), some (.int x2), none]) (stk' := [.int x2, .ref 117, .ref 133]) (fun _ _ _ => rfl) ?_
      refine zw_callf (As := [.ref 117, .int x2]) (rest := [.ref 133]) (c_row_at (id := 117) (by decide) x2 (d := d + 7)) rfl rfl rfl rfl ?_
      show zw fm sx (d + 8) 104 35 [some (.ref 133), some (.int x1), some (.int x2), none] [.int (zt Z 117 x2), .ref 133] Z Q
      refine zw_run 1 (pc' := 36) (loc' := [some (.ref 133), some (.int x1), some (.int x2), none]) (stk' := [.int x1, .int (zt Z 117 x2), .ref 133]) (fun _ _ _ => rfl) ?_
      obtain ⟨u3, hu3, H⟩ := oq_bind H
      refine zw_callf (As := [.ref 133, .int (zt Z 117 x2), .int x1]) (rest := []) (c_105 hu (zt Z 117 x2) x1 hu3 (d := d + 2)) rfl rfl rfl rfl ?_
      show zw fm sx (d + 8) 104 39 [some (.ref 133), some (.int x1), some (.int x2), none] [.int u3.1] u3.2 Q
      refine zw_run 3 (pc' := 42) (loc' := [some (.ref 133), some (.int u3.1), some (.int x2), none]) (stk' := [.int x2, .ref 133]) (fun _ _ _ => rfl) ?_
      obtain ⟨u4, hu4, H⟩ := oq_bind H
      refine zw_callf (As := [.ref 133, .int x2]) (rest := []) (c_106 hu x2 hu4 (d := d + 0)) rfl rfl rfl rfl ?_
      show zw fm sx (d + 8) 104 45 [some (.ref 133), some (.int u3.1), some (.int x2), none] [] u4 Q
      refine zw_run 1 (pc' := 46) (loc' := [some (.ref 133), some (.int u3.1), some (.int x2), none]) (stk' := [.ref 133]) (fun _ _ _ => rfl) ?_
      refine zw_get (v := .ref 114) rfl rfl rfl ?_
      refine zw_get (v := .ref 115) rfl rfl rfl ?_
      refine zw_run 1 (pc' := 53) (loc' := [some (.ref 133), some (.int u3.1), some (.int x2), none]) (stk' := [.int x2, .ref 115]) (fun _ _ _ => rfl) ?_
      refine zw_callf (As := [.ref 115, .int x2]) (rest := []) (c_row_at (id := 115) (by decide) x2 (d := d + 7)) rfl rfl rfl rfl ?_
      show zw fm sx (d + 8) 104 56 [some (.ref 133), some (.int u3.1), some (.int x2), none] [.int (zt u4 115 x2)] u4 Q
      refine zw_run 3 (pc' := 59) (loc' := [some (.ref 133), some (.int u3.1), some (.int x2), some (.int (zt u4 115 x2))]) (stk' := [.int 4, .int (zt u4 115 x2)]) (fun _ _ _ => rfl) ?_
      have J9 : ∀ (v8 : Int32), v8 = (if (zt u4 115 x2) = 4 then x2 else (if (zt u4 115 x2) = 5 then x2 else (if ¬ (zt u4 115 x2) = 6 then u3.1 else x2 : Int32) : Int32) : Int32) → zw fm sx (d + 8) 104 78 [some (.ref 133), some (.int u3.1), some (.int x2), some (.int (zt u4 115 x2))] [.int v8] u4 Q := by
        intro v8 ev8
        subst ev8
        refine zw_run 1 (pc' := 79) (loc' := [some (.ref 133), some (.int (if (zt u4 115 x2) = 4 then x2 else (if (zt u4 115 x2) = 5 then x2 else (if ¬ (zt u4 115 x2) = 6 then u3.1 else x2 : Int32) : Int32) : Int32)), some (.int x2), some (.int (zt u4 115 x2))]) (stk' := []) (fun _ _ _ => rfl) ?_
        obtain ⟨x10, hx10⟩ : ∃ w : Int32, w = (if (zt u4 115 x2) = 4 then x2 else (if (zt u4 115 x2) = 5 then x2 else (if ¬ (zt u4 115 x2) = 6 then u3.1 else x2 : Int32) : Int32) : Int32) := ⟨_, rfl⟩
        rw [← hx10]
        have H := oq_let H x10 hx10
        refine zw_run 5 (pc' := 85) (loc' := [some (.ref 133), some (.int x10), some (.int x2), some (.int (zt u4 115 x2))]) (stk' := [.int 7, .int (zt u4 115 x2), .int (x2 + 1)]) (fun _ _ _ => rfl) ?_
        have J13 : ∀ (v12 : Int32), v12 = (if ¬ (zt u4 115 x2) = 7 then 0 else (f_41 u4 x2) : Int32) → zw fm sx (d + 8) 104 100 [some (.ref 133), some (.int x10), some (.int x2), some (.int (zt u4 115 x2))] [.int v12, .int (x2 + 1)] u4 Q := by
          intro v12 ev12
          subst ev12
          refine zw_max rfl rfl ?_
          show zw fm sx (d + 8) 104 103 [some (.ref 133), some (.int x10), some (.int x2), some (.int (zt u4 115 x2))] [.int (zmax (x2 + 1) (if ¬ (zt u4 115 x2) = 7 then 0 else (f_41 u4 x2) : Int32))] u4 Q
          refine zw_run 1 (pc' := 104) (loc' := [some (.ref 133), some (.int x10), some (.int (zmax (x2 + 1) (if ¬ (zt u4 115 x2) = 7 then 0 else (f_41 u4 x2) : Int32))), some (.int (zt u4 115 x2))]) (stk' := []) (fun _ _ _ => rfl) ?_
          obtain ⟨x14, hx14⟩ : ∃ w : Int32, w = zmax (x2 + 1) (if ¬ (zt u4 115 x2) = 7 then 0 else (f_41 u4 x2) : Int32) := ⟨_, rfl⟩
          rw [← hx14]
          have H := oq_let H x14 hx14
          refine zw_run 1 (pc' := 12) (loc' := [some (.ref 133), some (.int x10), some (.int x14), some (.int (zt u4 115 x2))]) (stk' := []) (fun _ _ _ => rfl) ?_
          refine zw_fgt [true, true, true, false] rfl ?_
          exact ih u4 x10 x14 H
        refine zw_br (c := ¬ (zt u4 115 x2) = 7) (t1 := 99) (t2 := 88) (loc' := [some (.ref 133), some (.int x10), some (.int x2), some (.int (zt u4 115 x2))]) (stk' := [.int (x2 + 1)]) (fun _ _ _ => rfl) (fun c11 => ?_) (fun c11 => ?_)
        · skip
          refine zw_run 1 (pc' := 100) (loc' := [some (.ref 133), some (.int x10), some (.int x2), some (.int (zt u4 115 x2))]) (stk' := [.int 0, .int (x2 + 1)]) (fun _ _ _ => rfl) ?_
          exact J13 _ (by first | (rw [if_pos c11]; done) | (rw [if_pos c11]; rfl) | (clear H J13; simp_all [bI]; done))
        · skip
          refine zw_run 1 (pc' := 89) (loc' := [some (.ref 133), some (.int x10), some (.int x2), some (.int (zt u4 115 x2))]) (stk' := [.ref 133, .int (x2 + 1)]) (fun _ _ _ => rfl) ?_
          refine zw_get (v := .ref 114) rfl rfl rfl ?_
          refine zw_run 1 (pc' := 93) (loc' := [some (.ref 133), some (.int x10), some (.int x2), some (.int (zt u4 115 x2))]) (stk' := [.int x2, .ref 114, .int (x2 + 1)]) (fun _ _ _ => rfl) ?_
          refine zw_callf (As := [.ref 114, .int x2]) (rest := [.int (x2 + 1)]) (c_41 x2 (d := d + 6)) rfl rfl rfl rfl ?_
          show zw fm sx (d + 8) 104 96 [some (.ref 133), some (.int x10), some (.int x2), some (.int (zt u4 115 x2))] [.int (f_41 u4 x2), .int (x2 + 1)] u4 Q
          refine zw_run 1 (pc' := 100) (loc' := [some (.ref 133), some (.int x10), some (.int x2), some (.int (zt u4 115 x2))]) (stk' := [.int (f_41 u4 x2), .int (x2 + 1)]) (fun _ _ _ => rfl) ?_
          exact J13 _ (by first | (rw [if_neg c11]; done) | (rw [if_neg c11]; rfl) | (clear H J13; simp_all [bI]; done))
      refine zw_br (c := (zt u4 115 x2) = 4) (t1 := 73) (t2 := 62) (loc' := [some (.ref 133), some (.int u3.1), some (.int x2), some (.int (zt u4 115 x2))]) (stk' := []) (fun _ _ _ => rfl) (fun c5 => ?_) (fun c5 => ?_)
      · skip
        refine zw_run 2 (pc' := 78) (loc' := [some (.ref 133), some (.int u3.1), some (.int x2), some (.int (zt u4 115 x2))]) (stk' := [.int x2]) (fun _ _ _ => rfl) ?_
        exact J9 _ (by first | (rw [if_pos c5]; done) | (rw [if_pos c5]; rfl) | (clear H J9; simp_all [bI]; done))
      · skip
        refine zw_run 2 (pc' := 64) (loc' := [some (.ref 133), some (.int u3.1), some (.int x2), some (.int (zt u4 115 x2))]) (stk' := [.int 5, .int (zt u4 115 x2)]) (fun _ _ _ => rfl) ?_
        refine zw_br (c := (zt u4 115 x2) = 5) (t1 := 73) (t2 := 67) (loc' := [some (.ref 133), some (.int u3.1), some (.int x2), some (.int (zt u4 115 x2))]) (stk' := []) (fun _ _ _ => rfl) (fun c6 => ?_) (fun c6 => ?_)
        · skip
          refine zw_run 2 (pc' := 78) (loc' := [some (.ref 133), some (.int u3.1), some (.int x2), some (.int (zt u4 115 x2))]) (stk' := [.int x2]) (fun _ _ _ => rfl) ?_
          exact J9 _ (by first | (rw [if_neg c5, if_pos c6]; done) | (rw [if_neg c5, if_pos c6]; rfl) | (clear H J9; simp_all [bI]; done))
        · skip
          refine zw_run 2 (pc' := 70) (loc' := [some (.ref 133), some (.int u3.1), some (.int x2), some (.int (zt u4 115 x2))]) (stk' := [.int 6, .int (zt u4 115 x2)]) (fun _ _ _ => rfl) ?_
          refine zw_br (c := ¬ (zt u4 115 x2) = 6) (t1 := 77) (t2 := 73) (loc' := [some (.ref 133), some (.int u3.1), some (.int x2), some (.int (zt u4 115 x2))]) (stk' := []) (fun _ _ _ => rfl) (fun c7 => ?_) (fun c7 => ?_)
          · skip
            refine zw_run 1 (pc' := 78) (loc' := [some (.ref 133), some (.int u3.1), some (.int x2), some (.int (zt u4 115 x2))]) (stk' := [.int u3.1]) (fun _ _ _ => rfl) ?_
            exact J9 _ (by first | (rw [if_neg c5, if_neg c6, if_pos c7]; done) | (rw [if_neg c5, if_neg c6, if_pos c7]; rfl) | (clear H J9; simp_all [bI]; done))
          · skip
            refine zw_run 2 (pc' := 78) (loc' := [some (.ref 133), some (.int u3.1), some (.int x2), some (.int (zt u4 115 x2))]) (stk' := [.int x2]) (fun _ _ _ => rfl) ?_
            exact J9 _ (by first | (rw [if_neg c5, if_neg c6, if_neg c7]; done) | (rw [if_neg c5, if_neg c6, if_neg c7]; rfl) | (clear H J9; simp_all [bI]; done))
/-- MarkInlines$Writer.makeWritten -/
def o_104 (Z : zr_Z)  : Option zr_Z := g_104_12 oF (zcut Z 134 0) (-1) 0
set_option maxRecDepth 100000 in
set_option maxHeartbeats 4000000 in
theorem t_104 {fm : Value} {sx : Nat × (Nat → Int32)} {d : Nat} {Z : zr_Z} {Q : Option Value → zr_Z → Prop} (hu : fm = .null ∨ ∃ q, fm = .ref q)  (H : oq (o_104 Z) (fun x => Q none x)) : zw fm sx (d + 8) 104 0 [some (.ref 133), none, none, none] [] Z Q := by
  unfold o_104 at H
  refine zw_run 1 (pc' := 1) (loc' := [some (.ref 133), none, none, none]) (stk' := [.ref 133]) (fun _ _ _ => rfl) ?_
  refine zw_get (v := .ref 134) rfl rfl rfl ?_
  refine zw_run 1 (pc' := 5) (loc' := [some (.ref 133), none, none, none]) (stk' := [.int 0, .ref 134]) (fun _ _ _ => rfl) ?_
  refine zw_callf (As := [.ref 134, .int 0]) (rest := []) (c_row_cut (id := 134) (by decide) 0 (d := d + 7)) rfl rfl rfl rfl ?_
  show zw fm sx (d + 8) 104 8 [some (.ref 133), none, none, none] [] (zcut Z 134 0) Q
  refine zw_run 4 (pc' := 12) (loc' := [some (.ref 133), some (.int (-1)), some (.int 0), none]) (stk' := []) (fun _ _ _ => rfl) ?_
  exact l_104_12 hu _ (zcut Z 134 0) (-1) 0 H
theorem c_104 {fm : Value} {sx : Nat × (Nat → Int32)} {d : Nat} {Z : zr_Z} (hu : fm = .null ∨ ∃ q, fm = .ref q)  {x : zr_Z} (hx : o_104 Z = some x) : zl fm sx (d + 9) 104 [.ref 133] Z (fun r Z' => r = none ∧ Z' = x) :=
  zl_of (nL := 4) (loc0 := [some (.ref 133), none, none, none]) rfl rfl rfl (t_104 hu ⟨x, hx, rfl, rfl⟩)
/-- MarkInlines$Writer.makePlain -/
def o_103 (Z : zr_Z) (k : Int32) : Option zr_Z := (Option.bind (o_109 (zcut Z 134 0) k false) fun u1 => some u1)
set_option maxRecDepth 100000 in
set_option maxHeartbeats 4000000 in
theorem t_103 {fm : Value} {sx : Nat × (Nat → Int32)} {d : Nat} {Z : zr_Z} {Q : Option Value → zr_Z → Prop} (hu : fm = .null ∨ ∃ q, fm = .ref q) (k : Int32) (H : oq (o_103 Z k) (fun x => Q none x)) : zw fm sx (d + 7) 103 0 [some (.ref 133), some (.int k)] [] Z Q := by
  unfold o_103 at H
  refine zw_run 1 (pc' := 1) (loc' := [some (.ref 133), some (.int k)]) (stk' := [.ref 133]) (fun _ _ _ => rfl) ?_
  refine zw_get (v := .ref 134) rfl rfl rfl ?_
  refine zw_run 1 (pc' := 5) (loc' := [some (.ref 133), some (.int k)]) (stk' := [.int 0, .ref 134]) (fun _ _ _ => rfl) ?_
  refine zw_callf (As := [.ref 134, .int 0]) (rest := []) (c_row_cut (id := 134) (by decide) 0 (d := d + 6)) rfl rfl rfl rfl ?_
  show zw fm sx (d + 7) 103 8 [some (.ref 133), some (.int k)] [] (zcut Z 134 0) Q
  refine zw_run 3 (pc' := 11) (loc' := [some (.ref 133), some (.int k)]) (stk' := [.int 0, .int k, .ref 133]) (fun _ _ _ => rfl) ?_
  obtain ⟨u1, hu1, H⟩ := oq_bind H
  refine zw_callf (As := [.ref 133, .int k, .int 0]) (rest := []) (c_109 hu k false hu1 (d := d + 0)) rfl rfl rfl rfl ?_
  show zw fm sx (d + 7) 103 14 [some (.ref 133), some (.int k)] [] u1 Q
  refine zw_retv rfl rfl ?_
  have H := oq_some H
  exact H
theorem c_103 {fm : Value} {sx : Nat × (Nat → Int32)} {d : Nat} {Z : zr_Z} (hu : fm = .null ∨ ∃ q, fm = .ref q) (k : Int32) {x : zr_Z} (hx : o_103 Z k = some x) : zl fm sx (d + 8) 103 [.ref 133, .int k] Z (fun r Z' => r = none ∧ Z' = x) :=
  zl_of (nL := 2) (loc0 := [some (.ref 133), some (.int k)]) rfl rfl rfl (t_103 hu k ⟨x, hx, rfl, rfl⟩)
