/-! the face, the simple ones; markLineEnd, laterRow; walks written by wip/whole/gen_class.py -/
theorem zmax_ge (x a : Int32) : x.toInt ≤ (zmax x a).toInt := by
  unfold zmax
  split
  · rename_i h; have := i32_lt.mp h; omega
  · exact Int.le_refl _
/-- MarkInlines.makeReady, its loop at 2 -/
def g_9_2 : Nat → zr_Z → Int32 → Int32 → Int32 → zr_Z
  | 0, Z, _, _, _ => Z
  | n + 1, Z, a, four, i => (if 4 ≤ i then Z else g_9_2 n (zput Z 58 (a + i) (((Int32.toUInt32 four >>> (Int32.toUInt32 (24 - (8 * i)) &&& Int32.toUInt32 31)).toInt32) &&& 255)) a four (i + 1))
set_option maxRecDepth 100000 in
set_option maxHeartbeats 2000000 in
theorem b_9_2 {fm : Value} {sx : Nat × (Nat → Int32)} {d : Nat} {Z : zr_Z} {Q : Option Value → zr_Z → Prop} (a : Int32) (four : Int32) (i : Int32) (H : (if 4 ≤ i then Q none Z else zw fm sx (d + 1) 9 2 [some (.ref 57), some (.int a), some (.int four), some (.int (i + 1))] [] (zput Z 58 (a + i) (((Int32.toUInt32 four >>> (Int32.toUInt32 (24 - (8 * i)) &&& Int32.toUInt32 31)).toInt32) &&& 255)) Q)) : zw fm sx (d + 1) 9 2 [some (.ref 57), some (.int a), some (.int four), some (.int i)] [] Z Q := by
  refine zw_run 2 (pc' := 4) (loc' := [some (.ref 57), some (.int a), some (.int four), some (.int i)]) (stk' := [.int 4, .int i]) (fun _ _ _ => rfl) ?_
  refine zw_br (c := 4 ≤ i) (t1 := 36) (t2 := 7) (loc' := [some (.ref 57), some (.int a), some (.int four), some (.int i)]) (stk' := []) (fun _ _ _ => rfl) (fun c1 => ?_) (fun c1 => ?_)
  · rw [if_pos c1] at H
    refine zw_retv rfl rfl ?_
    exact H
  · rw [if_neg c1] at H
    refine zw_run 1 (pc' := 8) (loc' := [some (.ref 57), some (.int a), some (.int four), some (.int i)]) (stk' := [.ref 57]) (fun _ _ _ => rfl) ?_
    refine zw_get (v := .ref 58) rfl rfl rfl ?_
    refine zw_run 12 (pc' := 27) (loc' := [some (.ref 57), some (.int a), some (.int four), some (.int i)]) (stk' := [.int (((Int32.toUInt32 four >>> (Int32.toUInt32 (24 - (8 * i)) &&& Int32.toUInt32 31)).toInt32) &&& 255), .int (a + i), .ref 58]) (fun _ _ _ => rfl) ?_
    refine zw_callf (As := [.ref 58, .int (a + i), .int (((Int32.toUInt32 four >>> (Int32.toUInt32 (24 - (8 * i)) &&& Int32.toUInt32 31)).toInt32) &&& 255)]) (rest := []) (c_row_put (id := 58) (by decide) (a + i) (((Int32.toUInt32 four >>> (Int32.toUInt32 (24 - (8 * i)) &&& Int32.toUInt32 31)).toInt32) &&& 255) (d := d + 0)) rfl rfl rfl rfl ?_
    show zw fm sx (d + 1) 9 30 [some (.ref 57), some (.int a), some (.int four), some (.int i)] [] (zput Z 58 (a + i) (((Int32.toUInt32 four >>> (Int32.toUInt32 (24 - (8 * i)) &&& Int32.toUInt32 31)).toInt32) &&& 255)) Q
    refine zw_run 2 (pc' := 2) (loc' := [some (.ref 57), some (.int a), some (.int four), some (.int (i + 1))]) (stk' := []) (fun _ _ _ => rfl) ?_
    exact H
theorem l_9_2 {fm : Value} {sx : Nat × (Nat → Int32)} {d : Nat} {Q : Option Value → zr_Z → Prop} (a : Int32) (four : Int32) : ∀ (n : Nat) (Z : zr_Z) (i : Int32), ((4 : Int32).toInt - i.toInt).toNat < n → Q none (g_9_2 n Z a four i) → zw fm sx (d + 1) 9 2 [some (.ref 57), some (.int a), some (.int four), some (.int i)] [] Z Q := by
  intro n
  induction n with
  | zero => intro Z i hn; exact absurd hn (Nat.not_lt_zero _)
  | succ n ih =>
    intro Z i hn HQ
    refine zw_most fun hm => b_9_2 a four i ?_
    unfold g_9_2 at HQ
    by_cases c51 : 4 ≤ i
    · rw [if_pos c51] at HQ ⊢
      exact HQ
    · rw [if_neg c51] at HQ ⊢
      refine ih (zput Z 58 (a + i) (((Int32.toUInt32 four >>> (Int32.toUInt32 (24 - (8 * i)) &&& Int32.toUInt32 31)).toInt32) &&& 255)) (i + 1) ?_ HQ
      have u0 := i32_lt.mp (Int32.not_le.mp c51)
      have u1 := i32_rng 4
      have u2 := i32_rng i
      have u3 : (1 : Int32).toInt = 1 := (by decide)
      have u4 := i32_add (q := i) (k := 1) (by omega) (by omega)
      omega
/-- MarkInlines.makeReady -/
def f_9 (Z : zr_Z) (a : Int32) (four : Int32) : zr_Z := g_9_2 (((4 : Int32).toInt - (0 : Int32).toInt).toNat + 1) Z a four 0
set_option maxRecDepth 100000 in
set_option maxHeartbeats 1000000 in
theorem b_9 {fm : Value} {sx : Nat × (Nat → Int32)} {d : Nat} {Z : zr_Z} {Q : Option Value → zr_Z → Prop} (a : Int32) (four : Int32) (H : zw fm sx (d + 1) 9 2 [some (.ref 57), some (.int a), some (.int four), some (.int 0)] [] Z Q) : zw fm sx (d + 1) 9 0 [some (.ref 57), some (.int a), some (.int four), none] [] Z Q := by
  refine zw_run 2 (pc' := 2) (loc' := [some (.ref 57), some (.int a), some (.int four), some (.int 0)]) (stk' := []) (fun _ _ _ => rfl) ?_
  exact H
theorem t_9 {fm : Value} {sx : Nat × (Nat → Int32)} {d : Nat} {Z : zr_Z} {Q : Option Value → zr_Z → Prop} (a : Int32) (four : Int32) (HQ : Q none (f_9 Z a four)) : zw fm sx (d + 1) 9 0 [some (.ref 57), some (.int a), some (.int four), none] [] Z Q := by
  refine b_9 a four ?_
  unfold f_9 at HQ
  exact l_9_2 a four _ _ _ (Nat.lt_succ_self _) HQ
theorem c_9 {fm : Value} {sx : Nat × (Nat → Int32)} {d : Nat} {Z : zr_Z} (a : Int32) (four : Int32) : zl fm sx (d + 2) 9 [.ref 57, .int a, .int four] Z (fun r Z' => r = none ∧ Z' = (f_9 Z a four)) :=
  zl_of (nL := 4) (loc0 := [some (.ref 57), some (.int a), some (.int four), none]) rfl rfl rfl (t_9 a four ⟨rfl, rfl⟩)
/-- MarkInlines.feed -/
def f_8 (Z : zr_Z) (w0 : Int32) (w1 : Int32) (w2 : Int32) (w3 : Int32) (w4 : Int32) : zr_Z := (f_9 (f_9 (f_9 (f_9 (f_9 Z 0 w0) 4 w1) 8 w2) 12 w3) 16 w4)
set_option maxRecDepth 100000 in
set_option maxHeartbeats 1000000 in
theorem b_8 {fm : Value} {sx : Nat × (Nat → Int32)} {d : Nat} {Z : zr_Z} {Q : Option Value → zr_Z → Prop} (w0 : Int32) (w1 : Int32) (w2 : Int32) (w3 : Int32) (w4 : Int32) (H : Q none (f_9 (f_9 (f_9 (f_9 (f_9 Z 0 w0) 4 w1) 8 w2) 12 w3) 16 w4)) : zw fm sx (d + 2) 8 0 [some (.ref 57), some (.int w0), some (.int w1), some (.int w2), some (.int w3), some (.int w4)] [] Z Q := by
  refine zw_run 3 (pc' := 3) (loc' := [some (.ref 57), some (.int w0), some (.int w1), some (.int w2), some (.int w3), some (.int w4)]) (stk' := [.int w0, .int 0, .ref 57]) (fun _ _ _ => rfl) ?_
  refine zw_callf (As := [.ref 57, .int 0, .int w0]) (rest := []) (c_9 0 w0 (d := d + 0)) rfl rfl rfl rfl ?_
  show zw fm sx (d + 2) 8 6 [some (.ref 57), some (.int w0), some (.int w1), some (.int w2), some (.int w3), some (.int w4)] [] (f_9 Z 0 w0) Q
  refine zw_run 3 (pc' := 9) (loc' := [some (.ref 57), some (.int w0), some (.int w1), some (.int w2), some (.int w3), some (.int w4)]) (stk' := [.int w1, .int 4, .ref 57]) (fun _ _ _ => rfl) ?_
  refine zw_callf (As := [.ref 57, .int 4, .int w1]) (rest := []) (c_9 4 w1 (d := d + 0)) rfl rfl rfl rfl ?_
  show zw fm sx (d + 2) 8 12 [some (.ref 57), some (.int w0), some (.int w1), some (.int w2), some (.int w3), some (.int w4)] [] (f_9 (f_9 Z 0 w0) 4 w1) Q
  refine zw_run 3 (pc' := 16) (loc' := [some (.ref 57), some (.int w0), some (.int w1), some (.int w2), some (.int w3), some (.int w4)]) (stk' := [.int w2, .int 8, .ref 57]) (fun _ _ _ => rfl) ?_
  refine zw_callf (As := [.ref 57, .int 8, .int w2]) (rest := []) (c_9 8 w2 (d := d + 0)) rfl rfl rfl rfl ?_
  show zw fm sx (d + 2) 8 19 [some (.ref 57), some (.int w0), some (.int w1), some (.int w2), some (.int w3), some (.int w4)] [] (f_9 (f_9 (f_9 Z 0 w0) 4 w1) 8 w2) Q
  refine zw_run 3 (pc' := 24) (loc' := [some (.ref 57), some (.int w0), some (.int w1), some (.int w2), some (.int w3), some (.int w4)]) (stk' := [.int w3, .int 12, .ref 57]) (fun _ _ _ => rfl) ?_
  refine zw_callf (As := [.ref 57, .int 12, .int w3]) (rest := []) (c_9 12 w3 (d := d + 0)) rfl rfl rfl rfl ?_
  show zw fm sx (d + 2) 8 27 [some (.ref 57), some (.int w0), some (.int w1), some (.int w2), some (.int w3), some (.int w4)] [] (f_9 (f_9 (f_9 (f_9 Z 0 w0) 4 w1) 8 w2) 12 w3) Q
  refine zw_run 3 (pc' := 32) (loc' := [some (.ref 57), some (.int w0), some (.int w1), some (.int w2), some (.int w3), some (.int w4)]) (stk' := [.int w4, .int 16, .ref 57]) (fun _ _ _ => rfl) ?_
  refine zw_callf (As := [.ref 57, .int 16, .int w4]) (rest := []) (c_9 16 w4 (d := d + 0)) rfl rfl rfl rfl ?_
  show zw fm sx (d + 2) 8 35 [some (.ref 57), some (.int w0), some (.int w1), some (.int w2), some (.int w3), some (.int w4)] [] (f_9 (f_9 (f_9 (f_9 (f_9 Z 0 w0) 4 w1) 8 w2) 12 w3) 16 w4) Q
  refine zw_retv rfl rfl ?_
  exact H
theorem t_8 {fm : Value} {sx : Nat × (Nat → Int32)} {d : Nat} {Z : zr_Z} {Q : Option Value → zr_Z → Prop} (w0 : Int32) (w1 : Int32) (w2 : Int32) (w3 : Int32) (w4 : Int32) (HQ : Q none (f_8 Z w0 w1 w2 w3 w4)) : zw fm sx (d + 2) 8 0 [some (.ref 57), some (.int w0), some (.int w1), some (.int w2), some (.int w3), some (.int w4)] [] Z Q := by
  refine b_8 w0 w1 w2 w3 w4 ?_
  unfold f_8 at HQ
  exact HQ
theorem c_8 {fm : Value} {sx : Nat × (Nat → Int32)} {d : Nat} {Z : zr_Z} (w0 : Int32) (w1 : Int32) (w2 : Int32) (w3 : Int32) (w4 : Int32) : zl fm sx (d + 3) 8 [.ref 57, .int w0, .int w1, .int w2, .int w3, .int w4] Z (fun r Z' => r = none ∧ Z' = (f_8 Z w0 w1 w2 w3 w4)) :=
  zl_of (nL := 6) (loc0 := [some (.ref 57), some (.int w0), some (.int w1), some (.int w2), some (.int w3), some (.int w4)]) rfl rfl rfl (t_8 w0 w1 w2 w3 w4 ⟨rfl, rfl⟩)
/-- MarkInlines.end, its loop at 29 -/
def g_10_29 : Nat → zr_Z → Int32 → Int32 → Int32 × zr_Z
  | 0, Z, _, _ => (0, Z)
  | n + 1, Z, m, i => (if m ≤ i then (zs (zfill Z 58 20 0) 61, zfill Z 58 20 0) else g_10_29 n (zadd Z 61 (zt Z 58 i)) m (i + 1))
set_option maxRecDepth 100000 in
set_option maxHeartbeats 2000000 in
theorem b_10_29 {fm : Value} {sx : Nat × (Nat → Int32)} {d : Nat} {Z : zr_Z} {Q : Option Value → zr_Z → Prop} (m : Int32) (i : Int32) (H : (if m ≤ i then Q (some (.int (zs (zfill Z 58 20 0) 61))) (zfill Z 58 20 0) else zw fm sx (d + 3) 10 29 [some (.ref 57), some (.int m), some (.int (i + 1))] [] (zadd Z 61 (zt Z 58 i)) Q)) : zw fm sx (d + 3) 10 29 [some (.ref 57), some (.int m), some (.int i)] [] Z Q := by
  refine zw_run 2 (pc' := 31) (loc' := [some (.ref 57), some (.int m), some (.int i)]) (stk' := [.int m, .int i]) (fun _ _ _ => rfl) ?_
  refine zw_br (c := m ≤ i) (t1 := 55) (t2 := 34) (loc' := [some (.ref 57), some (.int m), some (.int i)]) (stk' := []) (fun _ _ _ => rfl) (fun c1 => ?_) (fun c1 => ?_)
  · rw [if_pos c1] at H
    refine zw_run 1 (pc' := 56) (loc' := [some (.ref 57), some (.int m), some (.int i)]) (stk' := [.ref 57]) (fun _ _ _ => rfl) ?_
    refine zw_get (v := .ref 58) rfl rfl rfl ?_
    refine zw_run 2 (pc' := 62) (loc' := [some (.ref 57), some (.int m), some (.int i)]) (stk' := [.int 0, .int 20, .ref 58]) (fun _ _ _ => rfl) ?_
    refine zw_callf (As := [.ref 58, .int 20, .int 0]) (rest := []) (c_row_refill (id := 58) (by decide) 20 0 (d := d + 0)) rfl rfl rfl rfl ?_
    show zw fm sx (d + 3) 10 65 [some (.ref 57), some (.int m), some (.int i)] [] (zfill Z 58 20 0) Q
    refine zw_run 1 (pc' := 66) (loc' := [some (.ref 57), some (.int m), some (.int i)]) (stk' := [.ref 57]) (fun _ _ _ => rfl) ?_
    refine zw_get (v := .ref 61) rfl rfl rfl ?_
    refine zw_callf (As := [.ref 61]) (rest := []) (c_row_size (id := 61) (by decide) (d := d + 2)) rfl rfl rfl rfl ?_
    show zw fm sx (d + 3) 10 72 [some (.ref 57), some (.int m), some (.int i)] [.int (zs (zfill Z 58 20 0) 61)] (zfill Z 58 20 0) Q
    refine zw_reti (i := .nop) rfl rfl ?_
    exact H
  · rw [if_neg c1] at H
    refine zw_run 1 (pc' := 35) (loc' := [some (.ref 57), some (.int m), some (.int i)]) (stk' := [.ref 57]) (fun _ _ _ => rfl) ?_
    refine zw_get (v := .ref 61) rfl rfl rfl ?_
    refine zw_run 1 (pc' := 39) (loc' := [some (.ref 57), some (.int m), some (.int i)]) (stk' := [.ref 57, .ref 61]) (fun _ _ _ => rfl) ?_
    refine zw_get (v := .ref 58) rfl rfl rfl ?_
    refine zw_run 1 (pc' := 43) (loc' := [some (.ref 57), some (.int m), some (.int i)]) (stk' := [.int i, .ref 58, .ref 61]) (fun _ _ _ => rfl) ?_
    refine zw_callf (As := [.ref 58, .int i]) (rest := [.ref 61]) (c_row_at (id := 58) (by decide) i (d := d + 2)) rfl rfl rfl rfl ?_
    show zw fm sx (d + 3) 10 46 [some (.ref 57), some (.int m), some (.int i)] [.int (zt Z 58 i), .ref 61] Z Q
    refine zw_callf (As := [.ref 61, .int (zt Z 58 i)]) (rest := []) (c_row_add (id := 61) (by decide) (zt Z 58 i) (d := d + 1)) rfl rfl rfl rfl ?_
    show zw fm sx (d + 3) 10 49 [some (.ref 57), some (.int m), some (.int i)] [] (zadd Z 61 (zt Z 58 i)) Q
    refine zw_run 2 (pc' := 29) (loc' := [some (.ref 57), some (.int m), some (.int (i + 1))]) (stk' := []) (fun _ _ _ => rfl) ?_
    exact H
theorem l_10_29 {fm : Value} {sx : Nat × (Nat → Int32)} {d : Nat} {Q : Option Value → zr_Z → Prop} (m : Int32) : ∀ (n : Nat) (Z : zr_Z) (i : Int32), (m.toInt - i.toInt).toNat < n → Q (some (.int (g_10_29 n Z m i).1)) (g_10_29 n Z m i).2 → zw fm sx (d + 3) 10 29 [some (.ref 57), some (.int m), some (.int i)] [] Z Q := by
  intro n
  induction n with
  | zero => intro Z i hn; exact absurd hn (Nat.not_lt_zero _)
  | succ n ih =>
    intro Z i hn HQ
    refine zw_most fun hm => b_10_29 m i ?_
    unfold g_10_29 at HQ
    by_cases c51 : m ≤ i
    · rw [if_pos c51] at HQ ⊢
      exact HQ
    · rw [if_neg c51] at HQ ⊢
      refine ih (zadd Z 61 (zt Z 58 i)) (i + 1) ?_ HQ
      have u0 := i32_lt.mp (Int32.not_le.mp c51)
      have u1 := i32_rng m
      have u2 := i32_rng i
      have u3 : (1 : Int32).toInt = 1 := (by decide)
      have u4 := i32_add (q := i) (k := 1) (by omega) (by omega)
      omega
/-- MarkInlines.end -/
def f_10 (Z : zr_Z) (m : Int32) : Int32 × zr_Z := (if m < 0 then ((-1), Z) else (if 20 < m then ((-1), Z) else (if ((zs Z 61) + m) ≤ 1500 then g_10_29 ((m.toInt - (0 : Int32).toInt).toNat + 1) Z m 0 else ((-1), Z))))
set_option maxRecDepth 100000 in
set_option maxHeartbeats 1000000 in
theorem b_10 {fm : Value} {sx : Nat × (Nat → Int32)} {d : Nat} {Z : zr_Z} {Q : Option Value → zr_Z → Prop} (m : Int32) (H : (if m < 0 then Q (some (.int (-1))) Z else (if 20 < m then Q (some (.int (-1))) Z else (if ((zs Z 61) + m) ≤ 1500 then zw fm sx (d + 3) 10 29 [some (.ref 57), some (.int m), some (.int 0)] [] Z Q else Q (some (.int (-1))) Z)))) : zw fm sx (d + 3) 10 0 [some (.ref 57), some (.int m), none] [] Z Q := by
  refine zw_run 1 (pc' := 1) (loc' := [some (.ref 57), some (.int m), none]) (stk' := [.int m]) (fun _ _ _ => rfl) ?_
  refine zw_br (c := m < 0) (t1 := 25) (t2 := 4) (loc' := [some (.ref 57), some (.int m), none]) (stk' := []) (fun _ _ _ => rfl) (fun c1 => ?_) (fun c1 => ?_)
  · rw [if_pos c1] at H
    refine zw_run 1 (pc' := 26) (loc' := [some (.ref 57), some (.int m), none]) (stk' := [.int (-1)]) (fun _ _ _ => rfl) ?_
    refine zw_reti (i := .nop) rfl rfl ?_
    exact H
  · rw [if_neg c1] at H
    refine zw_run 2 (pc' := 7) (loc' := [some (.ref 57), some (.int m), none]) (stk' := [.int 20, .int m]) (fun _ _ _ => rfl) ?_
    refine zw_br (c := 20 < m) (t1 := 25) (t2 := 10) (loc' := [some (.ref 57), some (.int m), none]) (stk' := []) (fun _ _ _ => rfl) (fun c2 => ?_) (fun c2 => ?_)
    · rw [if_pos c2] at H
      refine zw_run 1 (pc' := 26) (loc' := [some (.ref 57), some (.int m), none]) (stk' := [.int (-1)]) (fun _ _ _ => rfl) ?_
      refine zw_reti (i := .nop) rfl rfl ?_
      exact H
    · rw [if_neg c2] at H
      refine zw_run 1 (pc' := 11) (loc' := [some (.ref 57), some (.int m), none]) (stk' := [.ref 57]) (fun _ _ _ => rfl) ?_
      refine zw_get (v := .ref 61) rfl rfl rfl ?_
      refine zw_callf (As := [.ref 61]) (rest := []) (c_row_size (id := 61) (by decide) (d := d + 2)) rfl rfl rfl rfl ?_
      show zw fm sx (d + 3) 10 17 [some (.ref 57), some (.int m), none] [.int (zs Z 61)] Z Q
      refine zw_run 3 (pc' := 22) (loc' := [some (.ref 57), some (.int m), none]) (stk' := [.int 1500, .int ((zs Z 61) + m)]) (fun _ _ _ => rfl) ?_
      refine zw_br (c := ((zs Z 61) + m) ≤ 1500) (t1 := 27) (t2 := 25) (loc' := [some (.ref 57), some (.int m), none]) (stk' := []) (fun _ _ _ => rfl) (fun c3 => ?_) (fun c3 => ?_)
      · rw [if_pos c3] at H
        refine zw_run 2 (pc' := 29) (loc' := [some (.ref 57), some (.int m), some (.int 0)]) (stk' := []) (fun _ _ _ => rfl) ?_
        exact H
      · rw [if_neg c3] at H
        refine zw_run 1 (pc' := 26) (loc' := [some (.ref 57), some (.int m), none]) (stk' := [.int (-1)]) (fun _ _ _ => rfl) ?_
        refine zw_reti (i := .nop) rfl rfl ?_
        exact H
theorem t_10 {fm : Value} {sx : Nat × (Nat → Int32)} {d : Nat} {Z : zr_Z} {Q : Option Value → zr_Z → Prop} (m : Int32) (HQ : Q (some (.int (f_10 Z m).1)) (f_10 Z m).2) : zw fm sx (d + 3) 10 0 [some (.ref 57), some (.int m), none] [] Z Q := by
  refine b_10 m ?_
  unfold f_10 at HQ
  by_cases c1 : m < 0
  · rw [if_pos c1] at HQ ⊢
    exact HQ
  · rw [if_neg c1] at HQ ⊢
    by_cases c2 : 20 < m
    · rw [if_pos c2] at HQ ⊢
      exact HQ
    · rw [if_neg c2] at HQ ⊢
      by_cases c3 : ((zs Z 61) + m) ≤ 1500
      · rw [if_pos c3] at HQ ⊢
        exact l_10_29 m _ _ _ (Nat.lt_succ_self _) HQ
      · rw [if_neg c3] at HQ ⊢
        exact HQ
theorem c_10 {fm : Value} {sx : Nat × (Nat → Int32)} {d : Nat} {Z : zr_Z} (m : Int32) : zl fm sx (d + 4) 10 [.ref 57, .int m] Z (fun r Z' => r = some (.int (f_10 Z m).1) ∧ Z' = (f_10 Z m).2) :=
  zl_of (nL := 3) (loc0 := [some (.ref 57), some (.int m), none]) rfl rfl rfl (t_10 m ⟨rfl, rfl⟩)
/-- MarkInlines.wipe -/
def f_11 (Z : zr_Z)  : zr_Z := (zcut Z 61 0)
set_option maxRecDepth 100000 in
set_option maxHeartbeats 1000000 in
theorem b_11 {fm : Value} {sx : Nat × (Nat → Int32)} {d : Nat} {Z : zr_Z} {Q : Option Value → zr_Z → Prop}  (H : Q none (zcut Z 61 0)) : zw fm sx (d + 1) 11 0 [some (.ref 57)] [] Z Q := by
  refine zw_run 1 (pc' := 1) (loc' := [some (.ref 57)]) (stk' := [.ref 57]) (fun _ _ _ => rfl) ?_
  refine zw_get (v := .ref 61) rfl rfl rfl ?_
  refine zw_run 1 (pc' := 5) (loc' := [some (.ref 57)]) (stk' := [.int 0, .ref 61]) (fun _ _ _ => rfl) ?_
  refine zw_callf (As := [.ref 61, .int 0]) (rest := []) (c_row_cut (id := 61) (by decide) 0 (d := d + 0)) rfl rfl rfl rfl ?_
  show zw fm sx (d + 1) 11 8 [some (.ref 57)] [] (zcut Z 61 0) Q
  refine zw_retv rfl rfl ?_
  exact H
theorem t_11 {fm : Value} {sx : Nat × (Nat → Int32)} {d : Nat} {Z : zr_Z} {Q : Option Value → zr_Z → Prop}  (HQ : Q none (f_11 Z)) : zw fm sx (d + 1) 11 0 [some (.ref 57)] [] Z Q := by
  refine b_11 ?_
  unfold f_11 at HQ
  exact HQ
theorem c_11 {fm : Value} {sx : Nat × (Nat → Int32)} {d : Nat} {Z : zr_Z}  : zl fm sx (d + 2) 11 [.ref 57] Z (fun r Z' => r = none ∧ Z' = (f_11 Z)) :=
  zl_of (nL := 1) (loc0 := [some (.ref 57)]) rfl rfl rfl (t_11 ⟨rfl, rfl⟩)
/-- MarkInlines.drop -/
def f_13 (Z : zr_Z)  : zr_Z := (f_18 Z)
set_option maxRecDepth 100000 in
set_option maxHeartbeats 1000000 in
theorem b_13 {fm : Value} {sx : Nat × (Nat → Int32)} {d : Nat} {Z : zr_Z} {Q : Option Value → zr_Z → Prop}  (H : Q none (f_18 Z)) : zw fm sx (d + 2) 13 0 [some (.ref 57)] [] Z Q := by
  refine zw_run 1 (pc' := 1) (loc' := [some (.ref 57)]) (stk' := [.ref 57]) (fun _ _ _ => rfl) ?_
  refine zw_get (v := .ref 82) rfl rfl rfl ?_
  refine zw_callf (As := [.ref 82]) (rest := []) (c_18 (d := d + 0)) rfl rfl rfl rfl ?_
  show zw fm sx (d + 2) 13 7 [some (.ref 57)] [] (f_18 Z) Q
  refine zw_retv rfl rfl ?_
  exact H
theorem t_13 {fm : Value} {sx : Nat × (Nat → Int32)} {d : Nat} {Z : zr_Z} {Q : Option Value → zr_Z → Prop}  (HQ : Q none (f_13 Z)) : zw fm sx (d + 2) 13 0 [some (.ref 57)] [] Z Q := by
  refine b_13 ?_
  unfold f_13 at HQ
  exact HQ
theorem c_13 {fm : Value} {sx : Nat × (Nat → Int32)} {d : Nat} {Z : zr_Z}  : zl fm sx (d + 3) 13 [.ref 57] Z (fun r Z' => r = none ∧ Z' = (f_13 Z)) :=
  zl_of (nL := 1) (loc0 := [some (.ref 57)]) rfl rfl rfl (t_13 ⟨rfl, rfl⟩)
/-- MarkInlines.node -/
def f_1 (Z : zr_Z) (k : Int32) (wh : Int32) : Int32 := (f_39 Z k wh)
set_option maxRecDepth 100000 in
set_option maxHeartbeats 1000000 in
theorem b_1 {fm : Value} {sx : Nat × (Nat → Int32)} {d : Nat} {Z : zr_Z} {Q : Option Value → zr_Z → Prop} (k : Int32) (wh : Int32) (H : Q (some (.int (f_39 Z k wh))) Z) : zw fm sx (d + 2) 1 0 [some (.ref 57), some (.int k), some (.int wh)] [] Z Q := by
  refine zw_run 1 (pc' := 1) (loc' := [some (.ref 57), some (.int k), some (.int wh)]) (stk' := [.ref 57]) (fun _ _ _ => rfl) ?_
  refine zw_get (v := .ref 114) rfl rfl rfl ?_
  refine zw_run 2 (pc' := 6) (loc' := [some (.ref 57), some (.int k), some (.int wh)]) (stk' := [.int wh, .int k, .ref 114]) (fun _ _ _ => rfl) ?_
  refine zw_callf (As := [.ref 114, .int k, .int wh]) (rest := []) (c_39 k wh (d := d + 0)) rfl rfl rfl rfl ?_
  show zw fm sx (d + 2) 1 9 [some (.ref 57), some (.int k), some (.int wh)] [.int (f_39 Z k wh)] Z Q
  refine zw_reti (i := .nop) rfl rfl ?_
  exact H
theorem t_1 {fm : Value} {sx : Nat × (Nat → Int32)} {d : Nat} {Z : zr_Z} {Q : Option Value → zr_Z → Prop} (k : Int32) (wh : Int32) (HQ : Q (some (.int (f_1 Z k wh))) Z) : zw fm sx (d + 2) 1 0 [some (.ref 57), some (.int k), some (.int wh)] [] Z Q := by
  refine b_1 k wh ?_
  unfold f_1 at HQ
  exact HQ
theorem c_1 {fm : Value} {sx : Nat × (Nat → Int32)} {d : Nat} {Z : zr_Z} (k : Int32) (wh : Int32) : zl fm sx (d + 3) 1 [.ref 57, .int k, .int wh] Z (fun r Z' => r = some (.int (f_1 Z k wh)) ∧ Z' = Z) :=
  zl_of (nL := 3) (loc0 := [some (.ref 57), some (.int k), some (.int wh)]) rfl rfl rfl (t_1 k wh ⟨rfl, rfl⟩)
/-- MarkInlines.letter -/
def f_2 (Z : zr_Z) (k : Int32) (ti : Bool) (i : Int32) : Int32 := (f_40 Z k ti i)
set_option maxRecDepth 100000 in
set_option maxHeartbeats 1000000 in
theorem b_2 {fm : Value} {sx : Nat × (Nat → Int32)} {d : Nat} {Z : zr_Z} {Q : Option Value → zr_Z → Prop} (k : Int32) (ti : Bool) (i : Int32) (H : Q (some (.int (f_40 Z k ti i))) Z) : zw fm sx (d + 2) 2 0 [some (.ref 57), some (.int k), some (.int (bI ti)), some (.int i)] [] Z Q := by
  refine zw_run 1 (pc' := 1) (loc' := [some (.ref 57), some (.int k), some (.int (bI ti)), some (.int i)]) (stk' := [.ref 57]) (fun _ _ _ => rfl) ?_
  refine zw_get (v := .ref 114) rfl rfl rfl ?_
  refine zw_run 3 (pc' := 7) (loc' := [some (.ref 57), some (.int k), some (.int (bI ti)), some (.int i)]) (stk' := [.int i, .int (bI ti), .int k, .ref 114]) (fun _ _ _ => rfl) ?_
  refine zw_callf (As := [.ref 114, .int k, .int (bI ti), .int i]) (rest := []) (c_40 k ti i (d := d + 0)) rfl rfl rfl rfl ?_
  show zw fm sx (d + 2) 2 10 [some (.ref 57), some (.int k), some (.int (bI ti)), some (.int i)] [.int (f_40 Z k ti i)] Z Q
  refine zw_reti (i := .nop) rfl rfl ?_
  exact H
theorem t_2 {fm : Value} {sx : Nat × (Nat → Int32)} {d : Nat} {Z : zr_Z} {Q : Option Value → zr_Z → Prop} (k : Int32) (ti : Bool) (i : Int32) (HQ : Q (some (.int (f_2 Z k ti i))) Z) : zw fm sx (d + 2) 2 0 [some (.ref 57), some (.int k), some (.int (bI ti)), some (.int i)] [] Z Q := by
  refine b_2 k ti i ?_
  unfold f_2 at HQ
  exact HQ
theorem c_2 {fm : Value} {sx : Nat × (Nat → Int32)} {d : Nat} {Z : zr_Z} (k : Int32) (ti : Bool) (i : Int32) : zl fm sx (d + 3) 2 [.ref 57, .int k, .int (bI ti), .int i] Z (fun r Z' => r = some (.int (f_2 Z k ti i)) ∧ Z' = Z) :=
  zl_of (nL := 4) (loc0 := [some (.ref 57), some (.int k), some (.int (bI ti)), some (.int i)]) rfl rfl rfl (t_2 k ti i ⟨rfl, rfl⟩)
/-- MarkInlines.output -/
def f_5 (Z : zr_Z) (i : Int32) : Int32 := (zt Z 134 i)
set_option maxRecDepth 100000 in
set_option maxHeartbeats 1000000 in
theorem b_5 {fm : Value} {sx : Nat × (Nat → Int32)} {d : Nat} {Z : zr_Z} {Q : Option Value → zr_Z → Prop} (i : Int32) (H : Q (some (.int (zt Z 134 i))) Z) : zw fm sx (d + 1) 5 0 [some (.ref 57), some (.int i)] [] Z Q := by
  refine zw_run 1 (pc' := 1) (loc' := [some (.ref 57), some (.int i)]) (stk' := [.ref 57]) (fun _ _ _ => rfl) ?_
  refine zw_get (v := .ref 133) rfl rfl rfl ?_
  refine zw_get (v := .ref 134) rfl rfl rfl ?_
  refine zw_run 1 (pc' := 8) (loc' := [some (.ref 57), some (.int i)]) (stk' := [.int i, .ref 134]) (fun _ _ _ => rfl) ?_
  refine zw_callf (As := [.ref 134, .int i]) (rest := []) (c_row_at (id := 134) (by decide) i (d := d + 0)) rfl rfl rfl rfl ?_
  show zw fm sx (d + 1) 5 11 [some (.ref 57), some (.int i)] [.int (zt Z 134 i)] Z Q
  refine zw_reti (i := .nop) rfl rfl ?_
  exact H
theorem t_5 {fm : Value} {sx : Nat × (Nat → Int32)} {d : Nat} {Z : zr_Z} {Q : Option Value → zr_Z → Prop} (i : Int32) (HQ : Q (some (.int (f_5 Z i))) Z) : zw fm sx (d + 1) 5 0 [some (.ref 57), some (.int i)] [] Z Q := by
  refine b_5 i ?_
  unfold f_5 at HQ
  exact HQ
theorem c_5 {fm : Value} {sx : Nat × (Nat → Int32)} {d : Nat} {Z : zr_Z} (i : Int32) : zl fm sx (d + 2) 5 [.ref 57, .int i] Z (fun r Z' => r = some (.int (f_5 Z i)) ∧ Z' = Z) :=
  zl_of (nL := 2) (loc0 := [some (.ref 57), some (.int i)]) rfl rfl rfl (t_5 i ⟨rfl, rfl⟩)
/-- MarkInlines.about -/
def f_6 (Z : zr_Z) (wh : Int32) : Int32 := (if wh = 0 then (zs Z 61) else (if wh = 1 then (f_17 Z) else (if wh = 2 then (f_44 Z) else (if wh = 3 then (zs Z 134) else (-1)))))
set_option maxRecDepth 100000 in
set_option maxHeartbeats 1000000 in
theorem b_6 {fm : Value} {sx : Nat × (Nat → Int32)} {d : Nat} {Z : zr_Z} {Q : Option Value → zr_Z → Prop} (wh : Int32) (H : (if wh = 0 then Q (some (.int (zs Z 61))) Z else (if wh = 1 then Q (some (.int (f_17 Z))) Z else (if wh = 2 then Q (some (.int (f_44 Z))) Z else (if wh = 3 then Q (some (.int (zs Z 134))) Z else Q (some (.int (-1))) Z))))) : zw fm sx (d + 2) 6 0 [some (.ref 57), some (.int wh)] [] Z Q := by
  refine zw_run 1 (pc' := 1) (loc' := [some (.ref 57), some (.int wh)]) (stk' := [.int wh]) (fun _ _ _ => rfl) ?_
  by_cases c1 : wh = 0
  · rw [if_pos c1] at H
    refine zw_run 1 (pc' := 32) (loc' := [some (.ref 57), some (.int wh)]) (stk' := []) (fun _ _ _ => by rw [c1]; rfl) ?_
    refine zw_run 1 (pc' := 33) (loc' := [some (.ref 57), some (.int wh)]) (stk' := [.ref 57]) (fun _ _ _ => rfl) ?_
    refine zw_get (v := .ref 61) rfl rfl rfl ?_
    refine zw_callf (As := [.ref 61]) (rest := []) (c_row_size (id := 61) (by decide) (d := d + 1)) rfl rfl rfl rfl ?_
    show zw fm sx (d + 2) 6 39 [some (.ref 57), some (.int wh)] [.int (zs Z 61)] Z Q
    refine zw_reti (i := .nop) rfl rfl ?_
    exact H
  rw [if_neg c1] at H
  by_cases c2 : wh = 1
  · rw [if_pos c2] at H
    refine zw_run 1 (pc' := 40) (loc' := [some (.ref 57), some (.int wh)]) (stk' := []) (fun _ _ _ => by rw [c2]; rfl) ?_
    refine zw_run 1 (pc' := 41) (loc' := [some (.ref 57), some (.int wh)]) (stk' := [.ref 57]) (fun _ _ _ => rfl) ?_
    refine zw_get (v := .ref 82) rfl rfl rfl ?_
    refine zw_callf (As := [.ref 82]) (rest := []) (c_17 (d := d + 0)) rfl rfl rfl rfl ?_
    show zw fm sx (d + 2) 6 47 [some (.ref 57), some (.int wh)] [.int (f_17 Z)] Z Q
    refine zw_reti (i := .nop) rfl rfl ?_
    exact H
  rw [if_neg c2] at H
  by_cases c3 : wh = 2
  · rw [if_pos c3] at H
    refine zw_run 1 (pc' := 48) (loc' := [some (.ref 57), some (.int wh)]) (stk' := []) (fun _ _ _ => by rw [c3]; rfl) ?_
    refine zw_run 1 (pc' := 49) (loc' := [some (.ref 57), some (.int wh)]) (stk' := [.ref 57]) (fun _ _ _ => rfl) ?_
    refine zw_get (v := .ref 114) rfl rfl rfl ?_
    refine zw_callf (As := [.ref 114]) (rest := []) (c_44 (d := d + 0)) rfl rfl rfl rfl ?_
    show zw fm sx (d + 2) 6 55 [some (.ref 57), some (.int wh)] [.int (f_44 Z)] Z Q
    refine zw_reti (i := .nop) rfl rfl ?_
    exact H
  rw [if_neg c3] at H
  by_cases c4 : wh = 3
  · rw [if_pos c4] at H
    refine zw_run 1 (pc' := 56) (loc' := [some (.ref 57), some (.int wh)]) (stk' := []) (fun _ _ _ => by rw [c4]; rfl) ?_
    refine zw_run 1 (pc' := 57) (loc' := [some (.ref 57), some (.int wh)]) (stk' := [.ref 57]) (fun _ _ _ => rfl) ?_
    refine zw_get (v := .ref 133) rfl rfl rfl ?_
    refine zw_get (v := .ref 134) rfl rfl rfl ?_
    refine zw_callf (As := [.ref 134]) (rest := []) (c_row_size (id := 134) (by decide) (d := d + 1)) rfl rfl rfl rfl ?_
    show zw fm sx (d + 2) 6 66 [some (.ref 57), some (.int wh)] [.int (zs Z 134)] Z Q
    refine zw_reti (i := .nop) rfl rfl ?_
    exact H
  rw [if_neg c4] at H
  refine zw_sw (pc' := 67) (loc' := [some (.ref 57), some (.int wh)]) (stk' := []) rfl (am_tswd (fun i h1 h2 => ?_)) ?_
  · rcases (show i = 0 ∨ i = 1 ∨ i = 2 ∨ i = 3 by omega) with rfl | rfl | rfl | rfl
    · exact fun q => c1 (Int32.toInt_inj.mp q)
    · exact fun q => c2 (Int32.toInt_inj.mp q)
    · exact fun q => c3 (Int32.toInt_inj.mp q)
    · exact fun q => c4 (Int32.toInt_inj.mp q)
  refine zw_run 1 (pc' := 68) (loc' := [some (.ref 57), some (.int wh)]) (stk' := [.int (-1)]) (fun _ _ _ => rfl) ?_
  refine zw_reti (i := .nop) rfl rfl ?_
  exact H
theorem t_6 {fm : Value} {sx : Nat × (Nat → Int32)} {d : Nat} {Z : zr_Z} {Q : Option Value → zr_Z → Prop} (wh : Int32) (HQ : Q (some (.int (f_6 Z wh))) Z) : zw fm sx (d + 2) 6 0 [some (.ref 57), some (.int wh)] [] Z Q := by
  refine b_6 wh ?_
  unfold f_6 at HQ
  by_cases c1 : wh = 0
  · rw [if_pos c1] at HQ ⊢
    exact HQ
  rw [if_neg c1] at HQ ⊢
  by_cases c2 : wh = 1
  · rw [if_pos c2] at HQ ⊢
    exact HQ
  rw [if_neg c2] at HQ ⊢
  by_cases c3 : wh = 2
  · rw [if_pos c3] at HQ ⊢
    exact HQ
  rw [if_neg c3] at HQ ⊢
  by_cases c4 : wh = 3
  · rw [if_pos c4] at HQ ⊢
    exact HQ
  rw [if_neg c4] at HQ ⊢
  exact HQ
theorem c_6 {fm : Value} {sx : Nat × (Nat → Int32)} {d : Nat} {Z : zr_Z} (wh : Int32) : zl fm sx (d + 3) 6 [.ref 57, .int wh] Z (fun r Z' => r = some (.int (f_6 Z wh)) ∧ Z' = Z) :=
  zl_of (nL := 2) (loc0 := [some (.ref 57), some (.int wh)]) rfl rfl rfl (t_6 wh ⟨rfl, rfl⟩)
/-- MarkInlines.fault -/
def f_15 (Z : zr_Z) (wh : Int32) : Int32 := (if wh = 0 then (zc Z 4) else (if wh = 1 then (zc Z 3) else (-1)))
set_option maxRecDepth 100000 in
set_option maxHeartbeats 1000000 in
theorem b_15 {fm : Value} {sx : Nat × (Nat → Int32)} {d : Nat} {Z : zr_Z} {Q : Option Value → zr_Z → Prop} (wh : Int32) (H : (if wh = 0 then Q (some (.int (zc Z 4))) Z else (if wh = 1 then Q (some (.int (zc Z 3))) Z else Q (some (.int (-1))) Z))) : zw fm sx (d + 0) 15 0 [some (.ref 57), some (.int wh)] [] Z Q := by
  refine zw_run 1 (pc' := 1) (loc' := [some (.ref 57), some (.int wh)]) (stk' := [.int wh]) (fun _ _ _ => rfl) ?_
  by_cases c1 : wh = 0
  · rw [if_pos c1] at H
    refine zw_run 1 (pc' := 28) (loc' := [some (.ref 57), some (.int wh)]) (stk' := []) (fun _ _ _ => by rw [c1]; rfl) ?_
    refine zw_run 1 (pc' := 29) (loc' := [some (.ref 57), some (.int wh)]) (stk' := [.ref 57]) (fun _ _ _ => rfl) ?_
    refine zw_get (v := .int (zc Z 4)) rfl rfl rfl ?_
    refine zw_reti (i := .nop) rfl rfl ?_
    exact H
  rw [if_neg c1] at H
  by_cases c2 : wh = 1
  · rw [if_pos c2] at H
    refine zw_run 1 (pc' := 33) (loc' := [some (.ref 57), some (.int wh)]) (stk' := []) (fun _ _ _ => by rw [c2]; rfl) ?_
    refine zw_run 1 (pc' := 34) (loc' := [some (.ref 57), some (.int wh)]) (stk' := [.ref 57]) (fun _ _ _ => rfl) ?_
    refine zw_get (v := .ref 89) rfl rfl rfl ?_
    refine zw_get (v := .int (zc Z 3)) rfl rfl rfl ?_
    refine zw_reti (i := .nop) rfl rfl ?_
    exact H
  rw [if_neg c2] at H
  refine zw_lk (pc' := 41) (loc' := [some (.ref 57), some (.int wh)]) (stk' := []) rfl (am_lkd (fun q hq => ?_)) rfl ?_
  · simp only [List.mem_cons, List.not_mem_nil, or_false] at hq
    rcases hq with rfl | rfl
    · exact fun q => c1 (Int32.toInt_inj.mp q.symm)
    · exact fun q => c2 (Int32.toInt_inj.mp q.symm)
  refine zw_run 1 (pc' := 42) (loc' := [some (.ref 57), some (.int wh)]) (stk' := [.int (-1)]) (fun _ _ _ => rfl) ?_
  refine zw_reti (i := .nop) rfl rfl ?_
  exact H
theorem t_15 {fm : Value} {sx : Nat × (Nat → Int32)} {d : Nat} {Z : zr_Z} {Q : Option Value → zr_Z → Prop} (wh : Int32) (HQ : Q (some (.int (f_15 Z wh))) Z) : zw fm sx (d + 0) 15 0 [some (.ref 57), some (.int wh)] [] Z Q := by
  refine b_15 wh ?_
  unfold f_15 at HQ
  by_cases c1 : wh = 0
  · rw [if_pos c1] at HQ ⊢
    exact HQ
  rw [if_neg c1] at HQ ⊢
  by_cases c2 : wh = 1
  · rw [if_pos c2] at HQ ⊢
    exact HQ
  rw [if_neg c2] at HQ ⊢
  exact HQ
theorem c_15 {fm : Value} {sx : Nat × (Nat → Int32)} {d : Nat} {Z : zr_Z} (wh : Int32) : zl fm sx (d + 1) 15 [.ref 57, .int wh] Z (fun r Z' => r = some (.int (f_15 Z wh)) ∧ Z' = Z) :=
  zl_of (nL := 2) (loc0 := [some (.ref 57), some (.int wh)]) rfl rfl rfl (t_15 wh ⟨rfl, rfl⟩)
/-- MarkInlines$Reader.markLineEnd, its loop at 2 -/
def g_56_2 : Nat → zr_Z → Int32 → Int32 → zr_Z
  | 0, Z, _, _ => Z
  | n + 1, Z, p, q => (if q ≤ 0 then (zput (f_35 Z q p) 66 p (if (p - q) < 2 then 1 else 2 : Int32)) else (if ¬ (zt Z 61 (q - 1)) = 32 then (zput (f_35 Z q p) 66 p (if (p - q) < 2 then 1 else 2 : Int32)) else g_56_2 n Z p (q + (-1))))
set_option maxRecDepth 100000 in
set_option maxHeartbeats 2000000 in
theorem b_56_2 {fm : Value} {sx : Nat × (Nat → Int32)} {d : Nat} {Z : zr_Z} {Q : Option Value → zr_Z → Prop} (p : Int32) (q : Int32) (H : (if q ≤ 0 then Q none (zput (f_35 Z q p) 66 p (if (p - q) < 2 then 1 else 2 : Int32)) else (if ¬ (zt Z 61 (q - 1)) = 32 then Q none (zput (f_35 Z q p) 66 p (if (p - q) < 2 then 1 else 2 : Int32)) else zw fm sx (d + 2) 56 2 [some (.ref 89), some (.int p), some (.int (q + (-1)))] [] Z Q))) : zw fm sx (d + 2) 56 2 [some (.ref 89), some (.int p), some (.int q)] [] Z Q := by
  refine zw_run 1 (pc' := 3) (loc' := [some (.ref 89), some (.int p), some (.int q)]) (stk' := [.int q]) (fun _ _ _ => rfl) ?_
  refine zw_br (c := q ≤ 0) (t1 := 27) (t2 := 6) (loc' := [some (.ref 89), some (.int p), some (.int q)]) (stk' := []) (fun _ _ _ => rfl) (fun c1 => ?_) (fun c1 => ?_)
  · rw [if_pos c1] at H
    refine zw_run 1 (pc' := 28) (loc' := [some (.ref 89), some (.int p), some (.int q)]) (stk' := [.ref 89]) (fun _ _ _ => rfl) ?_
    refine zw_get (v := .ref 65) rfl rfl rfl ?_
    refine zw_run 2 (pc' := 33) (loc' := [some (.ref 89), some (.int p), some (.int q)]) (stk' := [.int p, .int q, .ref 65]) (fun _ _ _ => rfl) ?_
    refine zw_callf (As := [.ref 65, .int q, .int p]) (rest := []) (c_35 q p (d := d + 0)) rfl rfl rfl rfl ?_
    show zw fm sx (d + 2) 56 36 [some (.ref 89), some (.int p), some (.int q)] [] (f_35 Z q p) Q
    refine zw_run 1 (pc' := 37) (loc' := [some (.ref 89), some (.int p), some (.int q)]) (stk' := [.ref 89]) (fun _ _ _ => rfl) ?_
    refine zw_get (v := .ref 65) rfl rfl rfl ?_
    refine zw_get (v := .ref 66) rfl rfl rfl ?_
    refine zw_run 5 (pc' := 48) (loc' := [some (.ref 89), some (.int p), some (.int q)]) (stk' := [.int 2, .int (p - q), .int p, .ref 66]) (fun _ _ _ => rfl) ?_
    have J4 : ∀ (v3 : Int32), v3 = (if (p - q) < 2 then 1 else 2 : Int32) → zw fm sx (d + 2) 56 56 [some (.ref 89), some (.int p), some (.int q)] [.int v3, .int p, .ref 66] (f_35 Z q p) Q := by
      intro v3 ev3
      subst ev3
      refine zw_callf (As := [.ref 66, .int p, .int (if (p - q) < 2 then 1 else 2 : Int32)]) (rest := []) (c_row_put (id := 66) (by decide) p (if (p - q) < 2 then 1 else 2 : Int32) (d := d + 1)) rfl rfl rfl rfl ?_
      show zw fm sx (d + 2) 56 59 [some (.ref 89), some (.int p), some (.int q)] [] (zput (f_35 Z q p) 66 p (if (p - q) < 2 then 1 else 2 : Int32)) Q
      refine zw_retv rfl rfl ?_
      exact H
    refine zw_br (c := (p - q) < 2) (t1 := 55) (t2 := 51) (loc' := [some (.ref 89), some (.int p), some (.int q)]) (stk' := [.int p, .ref 66]) (fun _ _ _ => rfl) (fun c2 => ?_) (fun c2 => ?_)
    · skip
      refine zw_run 1 (pc' := 56) (loc' := [some (.ref 89), some (.int p), some (.int q)]) (stk' := [.int 1, .int p, .ref 66]) (fun _ _ _ => rfl) ?_
      exact J4 _ (by first | (rw [if_pos c2]; done) | (clear H J4; simp_all [bI]; done))
    · skip
      refine zw_run 2 (pc' := 56) (loc' := [some (.ref 89), some (.int p), some (.int q)]) (stk' := [.int 2, .int p, .ref 66]) (fun _ _ _ => rfl) ?_
      exact J4 _ (by first | (rw [if_neg c2]; done) | (clear H J4; simp_all [bI]; done))
  · rw [if_neg c1] at H
    refine zw_run 1 (pc' := 7) (loc' := [some (.ref 89), some (.int p), some (.int q)]) (stk' := [.ref 89]) (fun _ _ _ => rfl) ?_
    refine zw_get (v := .ref 61) rfl rfl rfl ?_
    refine zw_run 3 (pc' := 13) (loc' := [some (.ref 89), some (.int p), some (.int q)]) (stk' := [.int (q - 1), .ref 61]) (fun _ _ _ => rfl) ?_
    refine zw_callf (As := [.ref 61, .int (q - 1)]) (rest := []) (c_row_at (id := 61) (by decide) (q - 1) (d := d + 1)) rfl rfl rfl rfl ?_
    show zw fm sx (d + 2) 56 16 [some (.ref 89), some (.int p), some (.int q)] [.int (zt Z 61 (q - 1))] Z Q
    refine zw_run 1 (pc' := 18) (loc' := [some (.ref 89), some (.int p), some (.int q)]) (stk' := [.int 32, .int (zt Z 61 (q - 1))]) (fun _ _ _ => rfl) ?_
    refine zw_br (c := ¬ (zt Z 61 (q - 1)) = 32) (t1 := 27) (t2 := 21) (loc' := [some (.ref 89), some (.int p), some (.int q)]) (stk' := []) (fun _ _ _ => rfl) (fun c5 => ?_) (fun c5 => ?_)
    · rw [if_pos c5] at H
      refine zw_run 1 (pc' := 28) (loc' := [some (.ref 89), some (.int p), some (.int q)]) (stk' := [.ref 89]) (fun _ _ _ => rfl) ?_
      refine zw_get (v := .ref 65) rfl rfl rfl ?_
      refine zw_run 2 (pc' := 33) (loc' := [some (.ref 89), some (.int p), some (.int q)]) (stk' := [.int p, .int q, .ref 65]) (fun _ _ _ => rfl) ?_
      refine zw_callf (As := [.ref 65, .int q, .int p]) (rest := []) (c_35 q p (d := d + 0)) rfl rfl rfl rfl ?_
      show zw fm sx (d + 2) 56 36 [some (.ref 89), some (.int p), some (.int q)] [] (f_35 Z q p) Q
      refine zw_run 1 (pc' := 37) (loc' := [some (.ref 89), some (.int p), some (.int q)]) (stk' := [.ref 89]) (fun _ _ _ => rfl) ?_
      refine zw_get (v := .ref 65) rfl rfl rfl ?_
      refine zw_get (v := .ref 66) rfl rfl rfl ?_
      refine zw_run 5 (pc' := 48) (loc' := [some (.ref 89), some (.int p), some (.int q)]) (stk' := [.int 2, .int (p - q), .int p, .ref 66]) (fun _ _ _ => rfl) ?_
      have J8 : ∀ (v7 : Int32), v7 = (if (p - q) < 2 then 1 else 2 : Int32) → zw fm sx (d + 2) 56 56 [some (.ref 89), some (.int p), some (.int q)] [.int v7, .int p, .ref 66] (f_35 Z q p) Q := by
        intro v7 ev7
        subst ev7
        refine zw_callf (As := [.ref 66, .int p, .int (if (p - q) < 2 then 1 else 2 : Int32)]) (rest := []) (c_row_put (id := 66) (by decide) p (if (p - q) < 2 then 1 else 2 : Int32) (d := d + 1)) rfl rfl rfl rfl ?_
        show zw fm sx (d + 2) 56 59 [some (.ref 89), some (.int p), some (.int q)] [] (zput (f_35 Z q p) 66 p (if (p - q) < 2 then 1 else 2 : Int32)) Q
        refine zw_retv rfl rfl ?_
        exact H
      refine zw_br (c := (p - q) < 2) (t1 := 55) (t2 := 51) (loc' := [some (.ref 89), some (.int p), some (.int q)]) (stk' := [.int p, .ref 66]) (fun _ _ _ => rfl) (fun c6 => ?_) (fun c6 => ?_)
      · skip
        refine zw_run 1 (pc' := 56) (loc' := [some (.ref 89), some (.int p), some (.int q)]) (stk' := [.int 1, .int p, .ref 66]) (fun _ _ _ => rfl) ?_
        exact J8 _ (by first | (rw [if_pos c6]; done) | (clear H J8; simp_all [bI]; done))
      · skip
        refine zw_run 2 (pc' := 56) (loc' := [some (.ref 89), some (.int p), some (.int q)]) (stk' := [.int 2, .int p, .ref 66]) (fun _ _ _ => rfl) ?_
        exact J8 _ (by first | (rw [if_neg c6]; done) | (clear H J8; simp_all [bI]; done))
    · rw [if_neg c5] at H
      refine zw_run 2 (pc' := 2) (loc' := [some (.ref 89), some (.int p), some (.int (q + (-1)))]) (stk' := []) (fun _ _ _ => rfl) ?_
      exact H
theorem l_56_2 {fm : Value} {sx : Nat × (Nat → Int32)} {d : Nat} {Q : Option Value → zr_Z → Prop} (p : Int32) : ∀ (n : Nat) (Z : zr_Z) (q : Int32), (q.toInt).toNat < n → Q none (g_56_2 n Z p q) → zw fm sx (d + 2) 56 2 [some (.ref 89), some (.int p), some (.int q)] [] Z Q := by
  intro n
  induction n with
  | zero => intro Z q hn; exact absurd hn (Nat.not_lt_zero _)
  | succ n ih =>
    intro Z q hn HQ
    refine zw_most fun hm => b_56_2 p q ?_
    unfold g_56_2 at HQ
    by_cases c51 : q ≤ 0
    · rw [if_pos c51] at HQ ⊢
      exact HQ
    · rw [if_neg c51] at HQ ⊢
      by_cases c55 : ¬ (zt Z 61 (q - 1)) = 32
      · rw [if_pos c55] at HQ ⊢
        exact HQ
      · rw [if_neg c55] at HQ ⊢
        refine ih Z (q + (-1)) ?_ HQ
        have u0 := i32_lt.mp (Int32.not_le.mp c51)
        have u1 := i32_rng q
        have u2 : (-1 : Int32).toInt = -1 := (by decide)
        have u5 : (0 : Int32).toInt = 0 := (by decide)
        have u3 := i32_add (q := q) (k := -1) (by omega) (by omega)
        omega
/-- MarkInlines$Reader.markLineEnd -/
def f_56 (Z : zr_Z) (p : Int32) : zr_Z := g_56_2 (((p : Int32).toInt).toNat + 1) Z p p
set_option maxRecDepth 100000 in
set_option maxHeartbeats 1000000 in
theorem b_56 {fm : Value} {sx : Nat × (Nat → Int32)} {d : Nat} {Z : zr_Z} {Q : Option Value → zr_Z → Prop} (p : Int32) (H : zw fm sx (d + 2) 56 2 [some (.ref 89), some (.int p), some (.int p)] [] Z Q) : zw fm sx (d + 2) 56 0 [some (.ref 89), some (.int p), none] [] Z Q := by
  refine zw_run 2 (pc' := 2) (loc' := [some (.ref 89), some (.int p), some (.int p)]) (stk' := []) (fun _ _ _ => rfl) ?_
  exact H
theorem t_56 {fm : Value} {sx : Nat × (Nat → Int32)} {d : Nat} {Z : zr_Z} {Q : Option Value → zr_Z → Prop} (p : Int32) (HQ : Q none (f_56 Z p)) : zw fm sx (d + 2) 56 0 [some (.ref 89), some (.int p), none] [] Z Q := by
  refine b_56 p ?_
  unfold f_56 at HQ
  exact l_56_2 p _ _ _ (Nat.lt_succ_self _) HQ
theorem c_56 {fm : Value} {sx : Nat × (Nat → Int32)} {d : Nat} {Z : zr_Z} (p : Int32) : zl fm sx (d + 3) 56 [.ref 89, .int p] Z (fun r Z' => r = none ∧ Z' = (f_56 Z p)) :=
  zl_of (nL := 3) (loc0 := [some (.ref 89), some (.int p), none]) rfl rfl rfl (t_56 p ⟨rfl, rfl⟩)
/-- MarkInlines$Reader.laterRow, its loop at 2 -/
def g_59_2 : Nat → zr_Z → Int32 → Int32 → Int32 → Int32
  | 0, Z, _, _, _ => 0
  | n + 1, Z, a, len, q => (if (zs Z 61) ≤ q then (-1) else (if ¬ (zt Z 61 q) = 96 then g_59_2 n Z a len (zmax (q + 1) (f_93 Z q)) else (if ¬ ((f_93 Z q) - q) = len then g_59_2 n Z a len (zmax (q + 1) (f_93 Z q)) else q)))
set_option maxRecDepth 100000 in
set_option maxHeartbeats 2000000 in
theorem b_59_2 {fm : Value} {sx : Nat × (Nat → Int32)} {d : Nat} {Z : zr_Z} {Q : Option Value → zr_Z → Prop} (a : Int32) (len : Int32) (q : Int32) (H : (if (zs Z 61) ≤ q then Q (some (.int (-1))) Z else (if ¬ (zt Z 61 q) = 96 then zw fm sx (d + 2) 59 2 [some (.ref 89), none, some (.int len), some (.int (zmax (q + 1) (f_93 Z q))), none] [] Z Q else (if ¬ ((f_93 Z q) - q) = len then zw fm sx (d + 2) 59 2 [some (.ref 89), none, some (.int len), some (.int (zmax (q + 1) (f_93 Z q))), none] [] Z Q else Q (some (.int q)) Z)))) : zw fm sx (d + 2) 59 2 [some (.ref 89), none, some (.int len), some (.int q), none] [] Z Q := by
  refine zw_run 2 (pc' := 4) (loc' := [some (.ref 89), none, some (.int len), some (.int q), none]) (stk' := [.ref 89, .int q]) (fun _ _ _ => rfl) ?_
  refine zw_get (v := .ref 61) rfl rfl rfl ?_
  refine zw_callf (As := [.ref 61]) (rest := [.int q]) (c_row_size (id := 61) (by decide) (d := d + 1)) rfl rfl rfl rfl ?_
  show zw fm sx (d + 2) 59 10 [some (.ref 89), none, some (.int len), some (.int q), none] [.int (zs Z 61), .int q] Z Q
  refine zw_br (c := (zs Z 61) ≤ q) (t1 := 58) (t2 := 13) (loc' := [some (.ref 89), none, some (.int len), some (.int q), none]) (stk' := []) (fun _ _ _ => rfl) (fun c1 => ?_) (fun c1 => ?_)
  · rw [if_pos c1] at H
    refine zw_run 1 (pc' := 59) (loc' := [some (.ref 89), none, some (.int len), some (.int q), none]) (stk' := [.int (-1)]) (fun _ _ _ => rfl) ?_
    refine zw_reti (i := .nop) rfl rfl ?_
    exact H
  · rw [if_neg c1] at H
    refine zw_run 1 (pc' := 14) (loc' := [some (.ref 89), none, some (.int len), some (.int q), none]) (stk' := [.ref 89]) (fun _ _ _ => rfl) ?_
    refine zw_get (v := .ref 63) rfl rfl rfl ?_
    refine zw_run 1 (pc' := 18) (loc' := [some (.ref 89), none, some (.int len), some (.int q), none]) (stk' := [.int q, .ref 63]) (fun _ _ _ => rfl) ?_
    refine zw_callf (As := [.ref 63, .int q]) (rest := []) (c_93 q (d := d + 0)) rfl rfl rfl rfl ?_
    show zw fm sx (d + 2) 59 21 [some (.ref 89), none, some (.int len), some (.int q), none] [.int (f_93 Z q)] Z Q
    refine zw_run 2 (pc' := 24) (loc' := [some (.ref 89), none, some (.int len), some (.int q), some (.int (f_93 Z q))]) (stk' := [.ref 89]) (fun _ _ _ => rfl) ?_
    refine zw_get (v := .ref 61) rfl rfl rfl ?_
    refine zw_run 1 (pc' := 28) (loc' := [some (.ref 89), none, some (.int len), some (.int q), some (.int (f_93 Z q))]) (stk' := [.int q, .ref 61]) (fun _ _ _ => rfl) ?_
    refine zw_callf (As := [.ref 61, .int q]) (rest := []) (c_row_at (id := 61) (by decide) q (d := d + 1)) rfl rfl rfl rfl ?_
    show zw fm sx (d + 2) 59 31 [some (.ref 89), none, some (.int len), some (.int q), some (.int (f_93 Z q))] [.int (zt Z 61 q)] Z Q
    refine zw_run 1 (pc' := 33) (loc' := [some (.ref 89), none, some (.int len), some (.int q), some (.int (f_93 Z q))]) (stk' := [.int 96, .int (zt Z 61 q)]) (fun _ _ _ => rfl) ?_
    refine zw_br (c := ¬ (zt Z 61 q) = 96) (t1 := 46) (t2 := 36) (loc' := [some (.ref 89), none, some (.int len), some (.int q), some (.int (f_93 Z q))]) (stk' := []) (fun _ _ _ => rfl) (fun c2 => ?_) (fun c2 => ?_)
    · rw [if_pos c2] at H
      refine zw_run 4 (pc' := 51) (loc' := [some (.ref 89), none, some (.int len), some (.int q), some (.int (f_93 Z q))]) (stk' := [.int (f_93 Z q), .int (q + 1)]) (fun _ _ _ => rfl) ?_
      refine zw_mm (Z := Z) rfl (Or.inl rfl) rfl ?_
      show zw fm sx (d + 2) 59 54 [some (.ref 89), none, some (.int len), some (.int q), some (.int (f_93 Z q))] [.int (zmax (q + 1) (f_93 Z q))] Z Q
      refine zw_run 2 (pc' := 2) (loc' := [some (.ref 89), none, some (.int len), some (.int (zmax (q + 1) (f_93 Z q))), some (.int (f_93 Z q))]) (stk' := []) (fun _ _ _ => rfl) ?_
      refine zw_fgt [true, false, true, true, false] rfl ?_
      exact H
    · rw [if_neg c2] at H
      refine zw_run 4 (pc' := 41) (loc' := [some (.ref 89), none, some (.int len), some (.int q), some (.int (f_93 Z q))]) (stk' := [.int len, .int ((f_93 Z q) - q)]) (fun _ _ _ => rfl) ?_
      refine zw_br (c := ¬ ((f_93 Z q) - q) = len) (t1 := 46) (t2 := 44) (loc' := [some (.ref 89), none, some (.int len), some (.int q), some (.int (f_93 Z q))]) (stk' := []) (fun _ _ _ => rfl) (fun c3 => ?_) (fun c3 => ?_)
      · rw [if_pos c3] at H
        refine zw_run 4 (pc' := 51) (loc' := [some (.ref 89), none, some (.int len), some (.int q), some (.int (f_93 Z q))]) (stk' := [.int (f_93 Z q), .int (q + 1)]) (fun _ _ _ => rfl) ?_
        refine zw_mm (Z := Z) rfl (Or.inl rfl) rfl ?_
        show zw fm sx (d + 2) 59 54 [some (.ref 89), none, some (.int len), some (.int q), some (.int (f_93 Z q))] [.int (zmax (q + 1) (f_93 Z q))] Z Q
        refine zw_run 2 (pc' := 2) (loc' := [some (.ref 89), none, some (.int len), some (.int (zmax (q + 1) (f_93 Z q))), some (.int (f_93 Z q))]) (stk' := []) (fun _ _ _ => rfl) ?_
        refine zw_fgt [true, false, true, true, false] rfl ?_
        exact H
      · rw [if_neg c3] at H
        refine zw_run 1 (pc' := 45) (loc' := [some (.ref 89), none, some (.int len), some (.int q), some (.int (f_93 Z q))]) (stk' := [.int q]) (fun _ _ _ => rfl) ?_
        refine zw_reti (i := .nop) rfl rfl ?_
        exact H
theorem l_59_2 {fm : Value} {sx : Nat × (Nat → Int32)} {d : Nat} {Q : Option Value → zr_Z → Prop} (a : Int32) (len : Int32) : ∀ (n : Nat) (Z : zr_Z) (q : Int32), ((zs Z 61).toInt - q.toInt).toNat < n → Q (some (.int (g_59_2 n Z a len q))) Z → zw fm sx (d + 2) 59 2 [some (.ref 89), none, some (.int len), some (.int q), none] [] Z Q := by
  intro n
  induction n with
  | zero => intro Z q hn; exact absurd hn (Nat.not_lt_zero _)
  | succ n ih =>
    intro Z q hn HQ
    refine zw_most fun hm => b_59_2 a len q ?_
    unfold g_59_2 at HQ
    by_cases c51 : (zs Z 61) ≤ q
    · rw [if_pos c51] at HQ ⊢
      exact HQ
    · rw [if_neg c51] at HQ ⊢
      by_cases c52 : ¬ (zt Z 61 q) = 96
      · rw [if_pos c52] at HQ ⊢
        refine ih Z (zmax (q + 1) (f_93 Z q)) ?_ HQ
        have u0 := Int32.not_le.mp c51
        have u1 := i32_up (by decide) hm u0 1 (by decide)
        have u2 := i32_lt.mp u0
        have u3 : (1 : Int32).toInt = 1 := (by decide)
        have u4 := zmax_ge (q + 1) (f_93 Z q)
        omega
      · rw [if_neg c52] at HQ ⊢
        by_cases c53 : ¬ ((f_93 Z q) - q) = len
        · rw [if_pos c53] at HQ ⊢
          refine ih Z (zmax (q + 1) (f_93 Z q)) ?_ HQ
          have u0 := Int32.not_le.mp c51
          have u1 := i32_up (by decide) hm u0 1 (by decide)
          have u2 := i32_lt.mp u0
          have u3 : (1 : Int32).toInt = 1 := (by decide)
          have u4 := zmax_ge (q + 1) (f_93 Z q)
          omega
        · rw [if_neg c53] at HQ ⊢
          exact HQ
/-- MarkInlines$Reader.laterRow -/
def f_59 (Z : zr_Z) (a : Int32) (len : Int32) : Int32 := g_59_2 (((zs Z 61).toInt - (a : Int32).toInt).toNat + 1) Z a len a
set_option maxRecDepth 100000 in
set_option maxHeartbeats 1000000 in
theorem b_59 {fm : Value} {sx : Nat × (Nat → Int32)} {d : Nat} {Z : zr_Z} {Q : Option Value → zr_Z → Prop} (a : Int32) (len : Int32) (H : zw fm sx (d + 2) 59 2 [some (.ref 89), none, some (.int len), some (.int a), none] [] Z Q) : zw fm sx (d + 2) 59 0 [some (.ref 89), some (.int a), some (.int len), none, none] [] Z Q := by
  refine zw_run 2 (pc' := 2) (loc' := [some (.ref 89), some (.int a), some (.int len), some (.int a), none]) (stk' := []) (fun _ _ _ => rfl) ?_
  refine zw_fgt [true, false, true, true, false] rfl ?_
  exact H
theorem t_59 {fm : Value} {sx : Nat × (Nat → Int32)} {d : Nat} {Z : zr_Z} {Q : Option Value → zr_Z → Prop} (a : Int32) (len : Int32) (HQ : Q (some (.int (f_59 Z a len))) Z) : zw fm sx (d + 2) 59 0 [some (.ref 89), some (.int a), some (.int len), none, none] [] Z Q := by
  refine b_59 a len ?_
  unfold f_59 at HQ
  exact l_59_2 a len _ _ _ (Nat.lt_succ_self _) HQ
theorem c_59 {fm : Value} {sx : Nat × (Nat → Int32)} {d : Nat} {Z : zr_Z} (a : Int32) (len : Int32) : zl fm sx (d + 3) 59 [.ref 89, .int a, .int len] Z (fun r Z' => r = some (.int (f_59 Z a len)) ∧ Z' = Z) :=
  zl_of (nL := 5) (loc0 := [some (.ref 89), some (.int a), some (.int len), none, none]) rfl rfl rfl (t_59 a len ⟨rfl, rfl⟩)
