/-! MarkInlines.Scan, the rest; walks written by wip/whole/gen_scan.py -/
/-- MarkInlines$Scan.bareTargetEnd, its loop at 4 -/
def g_84_4 : Nat → zr_Z → Int32 → Int32 → Int32 → Int32
  | 0, Z, _, _, _ => 0
  | n + 1, Z, p, op, q => (if (zs Z 61) ≤ q then (if q ≤ p then (-1) else (if ¬ op = 0 then (-1) else q : Int32) : Int32) else (if (zt Z 61 q) ≤ 32 then (if q ≤ p then (-1) else (if ¬ op = 0 then (-1) else q : Int32) : Int32) else (if (zt Z 61 q) = 127 then (if q ≤ p then (-1) else (if ¬ op = 0 then (-1) else q : Int32) : Int32) else (if ¬ (zt Z 61 q) = 41 then g_84_4 n Z p (if ¬ (zt Z 61 q) = 40 then (if ¬ (zt Z 61 q) = 41 then op else (op + (-1)) : Int32) else (op + 1) : Int32) (q + (if (f_92 Z q) = true then 2 else 1 : Int32)) else (if ¬ op = 0 then g_84_4 n Z p (if ¬ (zt Z 61 q) = 40 then (if ¬ (zt Z 61 q) = 41 then op else (op + (-1)) : Int32) else (op + 1) : Int32) (q + (if (f_92 Z q) = true then 2 else 1 : Int32)) else (if q ≤ p then (-1) else (if ¬ op = 0 then (-1) else q : Int32) : Int32))))))
set_option maxRecDepth 100000 in
set_option maxHeartbeats 2000000 in
theorem b_84_4 {fm : Value} {sx : Nat × (Nat → Int32)} {d : Nat} {Z : zr_Z} {Q : Option Value → zr_Z → Prop} (p : Int32) (op : Int32) (q : Int32) (H : (if (zs Z 61) ≤ q then Q (some (.int (if q ≤ p then (-1) else (if ¬ op = 0 then (-1) else q : Int32) : Int32))) Z else (if (zt Z 61 q) ≤ 32 then Q (some (.int (if q ≤ p then (-1) else (if ¬ op = 0 then (-1) else q : Int32) : Int32))) Z else (if (zt Z 61 q) = 127 then Q (some (.int (if q ≤ p then (-1) else (if ¬ op = 0 then (-1) else q : Int32) : Int32))) Z else (if ¬ (zt Z 61 q) = 41 then zw fm sx (d + 2) 84 4 [some (.ref 63), some (.int p), some (.int (if ¬ (zt Z 61 q) = 40 then (if ¬ (zt Z 61 q) = 41 then op else (op + (-1)) : Int32) else (op + 1) : Int32)), some (.int (q + (if (f_92 Z q) = true then 2 else 1 : Int32))), none] [] Z Q else (if ¬ op = 0 then zw fm sx (d + 2) 84 4 [some (.ref 63), some (.int p), some (.int (if ¬ (zt Z 61 q) = 40 then (if ¬ (zt Z 61 q) = 41 then op else (op + (-1)) : Int32) else (op + 1) : Int32)), some (.int (q + (if (f_92 Z q) = true then 2 else 1 : Int32))), none] [] Z Q else Q (some (.int (if q ≤ p then (-1) else (if ¬ op = 0 then (-1) else q : Int32) : Int32))) Z)))))) : zw fm sx (d + 2) 84 4 [some (.ref 63), some (.int p), some (.int op), some (.int q), none] [] Z Q := by
  refine zw_run 2 (pc' := 6) (loc' := [some (.ref 63), some (.int p), some (.int op), some (.int q), none]) (stk' := [.ref 63, .int q]) (fun _ _ _ => rfl) ?_
  refine zw_get (v := .ref 61) rfl rfl rfl ?_
  refine zw_callf (As := [.ref 61]) (rest := [.int q]) (c_row_size (id := 61) (by decide) (d := d + 1)) rfl rfl rfl rfl ?_
  show zw fm sx (d + 2) 84 12 [some (.ref 63), some (.int p), some (.int op), some (.int q), none] [.int (zs Z 61), .int q] Z Q
  refine zw_br (c := (zs Z 61) ≤ q) (t1 := 95) (t2 := 15) (loc' := [some (.ref 63), some (.int p), some (.int op), some (.int q), none]) (stk' := []) (fun _ _ _ => rfl) (fun c1 => ?_) (fun c1 => ?_)
  · rw [if_pos c1] at H
    refine zw_run 2 (pc' := 97) (loc' := [some (.ref 63), some (.int p), some (.int op), some (.int q), none]) (stk' := [.int p, .int q]) (fun _ _ _ => rfl) ?_
    have J5 : ∀ (v4 : Int32), v4 = (if q ≤ p then (-1) else (if ¬ op = 0 then (-1) else q : Int32) : Int32) → zw fm sx (d + 2) 84 109 [some (.ref 63), some (.int p), some (.int op), some (.int q), none] [.int v4] Z Q := by
      intro v4 ev4
      subst ev4
      refine zw_reti (i := .nop) rfl rfl ?_
      exact H
    refine zw_br (c := q ≤ p) (t1 := 108) (t2 := 100) (loc' := [some (.ref 63), some (.int p), some (.int op), some (.int q), none]) (stk' := []) (fun _ _ _ => rfl) (fun c2 => ?_) (fun c2 => ?_)
    · skip
      refine zw_run 1 (pc' := 109) (loc' := [some (.ref 63), some (.int p), some (.int op), some (.int q), none]) (stk' := [.int (-1)]) (fun _ _ _ => rfl) ?_
      exact J5 _ (by first | (rw [if_pos c2]; done) | (clear H J5; simp_all [bI]; done))
    · skip
      refine zw_run 1 (pc' := 101) (loc' := [some (.ref 63), some (.int p), some (.int op), some (.int q), none]) (stk' := [.int op]) (fun _ _ _ => rfl) ?_
      refine zw_br (c := ¬ op = 0) (t1 := 108) (t2 := 104) (loc' := [some (.ref 63), some (.int p), some (.int op), some (.int q), none]) (stk' := []) (fun _ _ _ => rfl) (fun c3 => ?_) (fun c3 => ?_)
      · skip
        refine zw_run 1 (pc' := 109) (loc' := [some (.ref 63), some (.int p), some (.int op), some (.int q), none]) (stk' := [.int (-1)]) (fun _ _ _ => rfl) ?_
        exact J5 _ (by first | (rw [if_neg c2, if_pos c3]; done) | (clear H J5; simp_all [bI]; done))
      · skip
        refine zw_run 2 (pc' := 109) (loc' := [some (.ref 63), some (.int p), some (.int op), some (.int q), none]) (stk' := [.int q]) (fun _ _ _ => rfl) ?_
        exact J5 _ (by first | (rw [if_neg c2, if_neg c3]; done) | (clear H J5; simp_all [bI]; done))
  · rw [if_neg c1] at H
    refine zw_run 1 (pc' := 16) (loc' := [some (.ref 63), some (.int p), some (.int op), some (.int q), none]) (stk' := [.ref 63]) (fun _ _ _ => rfl) ?_
    refine zw_get (v := .ref 61) rfl rfl rfl ?_
    refine zw_run 1 (pc' := 20) (loc' := [some (.ref 63), some (.int p), some (.int op), some (.int q), none]) (stk' := [.int q, .ref 61]) (fun _ _ _ => rfl) ?_
    refine zw_callf (As := [.ref 61, .int q]) (rest := []) (c_row_at (id := 61) (by decide) q (d := d + 1)) rfl rfl rfl rfl ?_
    show zw fm sx (d + 2) 84 23 [some (.ref 63), some (.int p), some (.int op), some (.int q), none] [.int (zt Z 61 q)] Z Q
    refine zw_run 3 (pc' := 29) (loc' := [some (.ref 63), some (.int p), some (.int op), some (.int q), some (.int (zt Z 61 q))]) (stk' := [.int 32, .int (zt Z 61 q)]) (fun _ _ _ => rfl) ?_
    refine zw_br (c := (zt Z 61 q) ≤ 32) (t1 := 95) (t2 := 32) (loc' := [some (.ref 63), some (.int p), some (.int op), some (.int q), some (.int (zt Z 61 q))]) (stk' := []) (fun _ _ _ => rfl) (fun c6 => ?_) (fun c6 => ?_)
    · rw [if_pos c6] at H
      refine zw_run 2 (pc' := 97) (loc' := [some (.ref 63), some (.int p), some (.int op), some (.int q), some (.int (zt Z 61 q))]) (stk' := [.int p, .int q]) (fun _ _ _ => rfl) ?_
      have J10 : ∀ (v9 : Int32), v9 = (if q ≤ p then (-1) else (if ¬ op = 0 then (-1) else q : Int32) : Int32) → zw fm sx (d + 2) 84 109 [some (.ref 63), some (.int p), some (.int op), some (.int q), some (.int (zt Z 61 q))] [.int v9] Z Q := by
        intro v9 ev9
        subst ev9
        refine zw_reti (i := .nop) rfl rfl ?_
        exact H
      refine zw_br (c := q ≤ p) (t1 := 108) (t2 := 100) (loc' := [some (.ref 63), some (.int p), some (.int op), some (.int q), some (.int (zt Z 61 q))]) (stk' := []) (fun _ _ _ => rfl) (fun c7 => ?_) (fun c7 => ?_)
      · skip
        refine zw_run 1 (pc' := 109) (loc' := [some (.ref 63), some (.int p), some (.int op), some (.int q), some (.int (zt Z 61 q))]) (stk' := [.int (-1)]) (fun _ _ _ => rfl) ?_
        exact J10 _ (by first | (rw [if_pos c7]; done) | (clear H J10; simp_all [bI]; done))
      · skip
        refine zw_run 1 (pc' := 101) (loc' := [some (.ref 63), some (.int p), some (.int op), some (.int q), some (.int (zt Z 61 q))]) (stk' := [.int op]) (fun _ _ _ => rfl) ?_
        refine zw_br (c := ¬ op = 0) (t1 := 108) (t2 := 104) (loc' := [some (.ref 63), some (.int p), some (.int op), some (.int q), some (.int (zt Z 61 q))]) (stk' := []) (fun _ _ _ => rfl) (fun c8 => ?_) (fun c8 => ?_)
        · skip
          refine zw_run 1 (pc' := 109) (loc' := [some (.ref 63), some (.int p), some (.int op), some (.int q), some (.int (zt Z 61 q))]) (stk' := [.int (-1)]) (fun _ _ _ => rfl) ?_
          exact J10 _ (by first | (rw [if_neg c7, if_pos c8]; done) | (clear H J10; simp_all [bI]; done))
        · skip
          refine zw_run 2 (pc' := 109) (loc' := [some (.ref 63), some (.int p), some (.int op), some (.int q), some (.int (zt Z 61 q))]) (stk' := [.int q]) (fun _ _ _ => rfl) ?_
          exact J10 _ (by first | (rw [if_neg c7, if_neg c8]; done) | (clear H J10; simp_all [bI]; done))
    · rw [if_neg c6] at H
      refine zw_run 2 (pc' := 36) (loc' := [some (.ref 63), some (.int p), some (.int op), some (.int q), some (.int (zt Z 61 q))]) (stk' := [.int 127, .int (zt Z 61 q)]) (fun _ _ _ => rfl) ?_
      refine zw_br (c := (zt Z 61 q) = 127) (t1 := 95) (t2 := 39) (loc' := [some (.ref 63), some (.int p), some (.int op), some (.int q), some (.int (zt Z 61 q))]) (stk' := []) (fun _ _ _ => rfl) (fun c11 => ?_) (fun c11 => ?_)
      · rw [if_pos c11] at H
        refine zw_run 2 (pc' := 97) (loc' := [some (.ref 63), some (.int p), some (.int op), some (.int q), some (.int (zt Z 61 q))]) (stk' := [.int p, .int q]) (fun _ _ _ => rfl) ?_
        have J15 : ∀ (v14 : Int32), v14 = (if q ≤ p then (-1) else (if ¬ op = 0 then (-1) else q : Int32) : Int32) → zw fm sx (d + 2) 84 109 [some (.ref 63), some (.int p), some (.int op), some (.int q), some (.int (zt Z 61 q))] [.int v14] Z Q := by
          intro v14 ev14
          subst ev14
          refine zw_reti (i := .nop) rfl rfl ?_
          exact H
        refine zw_br (c := q ≤ p) (t1 := 108) (t2 := 100) (loc' := [some (.ref 63), some (.int p), some (.int op), some (.int q), some (.int (zt Z 61 q))]) (stk' := []) (fun _ _ _ => rfl) (fun c12 => ?_) (fun c12 => ?_)
        · skip
          refine zw_run 1 (pc' := 109) (loc' := [some (.ref 63), some (.int p), some (.int op), some (.int q), some (.int (zt Z 61 q))]) (stk' := [.int (-1)]) (fun _ _ _ => rfl) ?_
          exact J15 _ (by first | (rw [if_pos c12]; done) | (clear H J15; simp_all [bI]; done))
        · skip
          refine zw_run 1 (pc' := 101) (loc' := [some (.ref 63), some (.int p), some (.int op), some (.int q), some (.int (zt Z 61 q))]) (stk' := [.int op]) (fun _ _ _ => rfl) ?_
          refine zw_br (c := ¬ op = 0) (t1 := 108) (t2 := 104) (loc' := [some (.ref 63), some (.int p), some (.int op), some (.int q), some (.int (zt Z 61 q))]) (stk' := []) (fun _ _ _ => rfl) (fun c13 => ?_) (fun c13 => ?_)
          · skip
            refine zw_run 1 (pc' := 109) (loc' := [some (.ref 63), some (.int p), some (.int op), some (.int q), some (.int (zt Z 61 q))]) (stk' := [.int (-1)]) (fun _ _ _ => rfl) ?_
            exact J15 _ (by first | (rw [if_neg c12, if_pos c13]; done) | (clear H J15; simp_all [bI]; done))
          · skip
            refine zw_run 2 (pc' := 109) (loc' := [some (.ref 63), some (.int p), some (.int op), some (.int q), some (.int (zt Z 61 q))]) (stk' := [.int q]) (fun _ _ _ => rfl) ?_
            exact J15 _ (by first | (rw [if_neg c12, if_neg c13]; done) | (clear H J15; simp_all [bI]; done))
      · rw [if_neg c11] at H
        refine zw_run 2 (pc' := 43) (loc' := [some (.ref 63), some (.int p), some (.int op), some (.int q), some (.int (zt Z 61 q))]) (stk' := [.int 41, .int (zt Z 61 q)]) (fun _ _ _ => rfl) ?_
        refine zw_br (c := ¬ (zt Z 61 q) = 41) (t1 := 53) (t2 := 46) (loc' := [some (.ref 63), some (.int p), some (.int op), some (.int q), some (.int (zt Z 61 q))]) (stk' := []) (fun _ _ _ => rfl) (fun c16 => ?_) (fun c16 => ?_)
        · rw [if_pos c16] at H
          refine zw_run 2 (pc' := 57) (loc' := [some (.ref 63), some (.int p), some (.int op), some (.int q), some (.int (zt Z 61 q))]) (stk' := [.int 40, .int (zt Z 61 q)]) (fun _ _ _ => rfl) ?_
          have J20 : ∀ (v19 : Int32), v19 = (if ¬ (zt Z 61 q) = 40 then (if ¬ (zt Z 61 q) = 41 then op else (op + (-1)) : Int32) else (op + 1) : Int32) → zw fm sx (d + 2) 84 76 [some (.ref 63), some (.int p), some (.int v19), some (.int q), some (.int (zt Z 61 q))] [] Z Q := by
            intro v19 ev19
            subst ev19
            refine zw_run 3 (pc' := 79) (loc' := [some (.ref 63), some (.int p), some (.int (if ¬ (zt Z 61 q) = 40 then (if ¬ (zt Z 61 q) = 41 then op else (op + (-1)) : Int32) else (op + 1) : Int32)), some (.int q), some (.int (zt Z 61 q))]) (stk' := [.int q, .ref 63, .int q]) (fun _ _ _ => rfl) ?_
            refine zw_callf (As := [.ref 63, .int q]) (rest := [.int q]) (c_92 q (d := d + 0)) rfl rfl rfl rfl ?_
            show zw fm sx (d + 2) 84 82 [some (.ref 63), some (.int p), some (.int (if ¬ (zt Z 61 q) = 40 then (if ¬ (zt Z 61 q) = 41 then op else (op + (-1)) : Int32) else (op + 1) : Int32)), some (.int q), some (.int (zt Z 61 q))] [.int (bI (f_92 Z q)), .int q] Z Q
            have J23 : ∀ (v22 : Int32), v22 = (if (f_92 Z q) = true then 2 else 1 : Int32) → zw fm sx (d + 2) 84 90 [some (.ref 63), some (.int p), some (.int (if ¬ (zt Z 61 q) = 40 then (if ¬ (zt Z 61 q) = 41 then op else (op + (-1)) : Int32) else (op + 1) : Int32)), some (.int q), some (.int (zt Z 61 q))] [.int v22, .int q] Z Q := by
              intro v22 ev22
              subst ev22
              refine zw_run 3 (pc' := 4) (loc' := [some (.ref 63), some (.int p), some (.int (if ¬ (zt Z 61 q) = 40 then (if ¬ (zt Z 61 q) = 41 then op else (op + (-1)) : Int32) else (op + 1) : Int32)), some (.int (q + (if (f_92 Z q) = true then 2 else 1 : Int32))), some (.int (zt Z 61 q))]) (stk' := []) (fun _ _ _ => rfl) ?_
              refine zw_fgt [true, true, true, true, false] rfl ?_
              exact H
            refine zw_b0 (b := (f_92 Z q)) (t1 := 85) (t2 := 89) (loc' := [some (.ref 63), some (.int p), some (.int (if ¬ (zt Z 61 q) = 40 then (if ¬ (zt Z 61 q) = 41 then op else (op + (-1)) : Int32) else (op + 1) : Int32)), some (.int q), some (.int (zt Z 61 q))]) (stk' := [.int q]) (fun _ _ _ => rfl) (fun c21 => ?_) (fun c21 => ?_)
            · skip
              refine zw_run 2 (pc' := 90) (loc' := [some (.ref 63), some (.int p), some (.int (if ¬ (zt Z 61 q) = 40 then (if ¬ (zt Z 61 q) = 41 then op else (op + (-1)) : Int32) else (op + 1) : Int32)), some (.int q), some (.int (zt Z 61 q))]) (stk' := [.int 2, .int q]) (fun _ _ _ => rfl) ?_
              exact J23 _ (by first | (rw [if_pos c21]; done) | (clear H J23; simp_all [bI]; done))
            · skip
              refine zw_run 1 (pc' := 90) (loc' := [some (.ref 63), some (.int p), some (.int (if ¬ (zt Z 61 q) = 40 then (if ¬ (zt Z 61 q) = 41 then op else (op + (-1)) : Int32) else (op + 1) : Int32)), some (.int q), some (.int (zt Z 61 q))]) (stk' := [.int 1, .int q]) (fun _ _ _ => rfl) ?_
              exact J23 _ (by first | (rw [if_neg c21]; done) | (clear H J23; simp_all [bI]; done))
          refine zw_br (c := ¬ (zt Z 61 q) = 40) (t1 := 66) (t2 := 60) (loc' := [some (.ref 63), some (.int p), some (.int op), some (.int q), some (.int (zt Z 61 q))]) (stk' := []) (fun _ _ _ => rfl) (fun c17 => ?_) (fun c17 => ?_)
          · skip
            refine zw_run 2 (pc' := 70) (loc' := [some (.ref 63), some (.int p), some (.int op), some (.int q), some (.int (zt Z 61 q))]) (stk' := [.int 41, .int (zt Z 61 q)]) (fun _ _ _ => rfl) ?_
            refine zw_br (c := ¬ (zt Z 61 q) = 41) (t1 := 76) (t2 := 73) (loc' := [some (.ref 63), some (.int p), some (.int op), some (.int q), some (.int (zt Z 61 q))]) (stk' := []) (fun _ _ _ => rfl) (fun c18 => ?_) (fun c18 => ?_)
            · skip
              exact J20 _ (by first | (rw [if_pos c17, if_pos c18]; done) | (clear H J20; simp_all [bI]; done))
            · skip
              refine zw_run 1 (pc' := 76) (loc' := [some (.ref 63), some (.int p), some (.int (op + (-1))), some (.int q), some (.int (zt Z 61 q))]) (stk' := []) (fun _ _ _ => rfl) ?_
              exact J20 _ (by first | (rw [if_pos c17, if_neg c18]; done) | (clear H J20; simp_all [bI]; done))
          · skip
            refine zw_run 2 (pc' := 76) (loc' := [some (.ref 63), some (.int p), some (.int (op + 1)), some (.int q), some (.int (zt Z 61 q))]) (stk' := []) (fun _ _ _ => rfl) ?_
            exact J20 _ (by first | (rw [if_neg c17]; done) | (clear H J20; simp_all [bI]; done))
        · rw [if_neg c16] at H
          refine zw_run 1 (pc' := 47) (loc' := [some (.ref 63), some (.int p), some (.int op), some (.int q), some (.int (zt Z 61 q))]) (stk' := [.int op]) (fun _ _ _ => rfl) ?_
          refine zw_br (c := ¬ op = 0) (t1 := 53) (t2 := 50) (loc' := [some (.ref 63), some (.int p), some (.int op), some (.int q), some (.int (zt Z 61 q))]) (stk' := []) (fun _ _ _ => rfl) (fun c24 => ?_) (fun c24 => ?_)
          · rw [if_pos c24] at H
            refine zw_run 2 (pc' := 57) (loc' := [some (.ref 63), some (.int p), some (.int op), some (.int q), some (.int (zt Z 61 q))]) (stk' := [.int 40, .int (zt Z 61 q)]) (fun _ _ _ => rfl) ?_
            have J28 : ∀ (v27 : Int32), v27 = (if ¬ (zt Z 61 q) = 40 then (if ¬ (zt Z 61 q) = 41 then op else (op + (-1)) : Int32) else (op + 1) : Int32) → zw fm sx (d + 2) 84 76 [some (.ref 63), some (.int p), some (.int v27), some (.int q), some (.int (zt Z 61 q))] [] Z Q := by
              intro v27 ev27
              subst ev27
              refine zw_run 3 (pc' := 79) (loc' := [some (.ref 63), some (.int p), some (.int (if ¬ (zt Z 61 q) = 40 then (if ¬ (zt Z 61 q) = 41 then op else (op + (-1)) : Int32) else (op + 1) : Int32)), some (.int q), some (.int (zt Z 61 q))]) (stk' := [.int q, .ref 63, .int q]) (fun _ _ _ => rfl) ?_
              refine zw_callf (As := [.ref 63, .int q]) (rest := [.int q]) (c_92 q (d := d + 0)) rfl rfl rfl rfl ?_
              show zw fm sx (d + 2) 84 82 [some (.ref 63), some (.int p), some (.int (if ¬ (zt Z 61 q) = 40 then (if ¬ (zt Z 61 q) = 41 then op else (op + (-1)) : Int32) else (op + 1) : Int32)), some (.int q), some (.int (zt Z 61 q))] [.int (bI (f_92 Z q)), .int q] Z Q
              have J31 : ∀ (v30 : Int32), v30 = (if (f_92 Z q) = true then 2 else 1 : Int32) → zw fm sx (d + 2) 84 90 [some (.ref 63), some (.int p), some (.int (if ¬ (zt Z 61 q) = 40 then (if ¬ (zt Z 61 q) = 41 then op else (op + (-1)) : Int32) else (op + 1) : Int32)), some (.int q), some (.int (zt Z 61 q))] [.int v30, .int q] Z Q := by
                intro v30 ev30
                subst ev30
                refine zw_run 3 (pc' := 4) (loc' := [some (.ref 63), some (.int p), some (.int (if ¬ (zt Z 61 q) = 40 then (if ¬ (zt Z 61 q) = 41 then op else (op + (-1)) : Int32) else (op + 1) : Int32)), some (.int (q + (if (f_92 Z q) = true then 2 else 1 : Int32))), some (.int (zt Z 61 q))]) (stk' := []) (fun _ _ _ => rfl) ?_
                refine zw_fgt [true, true, true, true, false] rfl ?_
                exact H
              refine zw_b0 (b := (f_92 Z q)) (t1 := 85) (t2 := 89) (loc' := [some (.ref 63), some (.int p), some (.int (if ¬ (zt Z 61 q) = 40 then (if ¬ (zt Z 61 q) = 41 then op else (op + (-1)) : Int32) else (op + 1) : Int32)), some (.int q), some (.int (zt Z 61 q))]) (stk' := [.int q]) (fun _ _ _ => rfl) (fun c29 => ?_) (fun c29 => ?_)
              · skip
                refine zw_run 2 (pc' := 90) (loc' := [some (.ref 63), some (.int p), some (.int (if ¬ (zt Z 61 q) = 40 then (if ¬ (zt Z 61 q) = 41 then op else (op + (-1)) : Int32) else (op + 1) : Int32)), some (.int q), some (.int (zt Z 61 q))]) (stk' := [.int 2, .int q]) (fun _ _ _ => rfl) ?_
                exact J31 _ (by first | (rw [if_pos c29]; done) | (clear H J31; simp_all [bI]; done))
              · skip
                refine zw_run 1 (pc' := 90) (loc' := [some (.ref 63), some (.int p), some (.int (if ¬ (zt Z 61 q) = 40 then (if ¬ (zt Z 61 q) = 41 then op else (op + (-1)) : Int32) else (op + 1) : Int32)), some (.int q), some (.int (zt Z 61 q))]) (stk' := [.int 1, .int q]) (fun _ _ _ => rfl) ?_
                exact J31 _ (by first | (rw [if_neg c29]; done) | (clear H J31; simp_all [bI]; done))
            refine zw_br (c := ¬ (zt Z 61 q) = 40) (t1 := 66) (t2 := 60) (loc' := [some (.ref 63), some (.int p), some (.int op), some (.int q), some (.int (zt Z 61 q))]) (stk' := []) (fun _ _ _ => rfl) (fun c25 => ?_) (fun c25 => ?_)
            · skip
              refine zw_run 2 (pc' := 70) (loc' := [some (.ref 63), some (.int p), some (.int op), some (.int q), some (.int (zt Z 61 q))]) (stk' := [.int 41, .int (zt Z 61 q)]) (fun _ _ _ => rfl) ?_
              refine zw_br (c := ¬ (zt Z 61 q) = 41) (t1 := 76) (t2 := 73) (loc' := [some (.ref 63), some (.int p), some (.int op), some (.int q), some (.int (zt Z 61 q))]) (stk' := []) (fun _ _ _ => rfl) (fun c26 => ?_) (fun c26 => ?_)
              · skip
                exact J28 _ (by first | (rw [if_pos c25, if_pos c26]; done) | (clear H J28; simp_all [bI]; done))
              · skip
                refine zw_run 1 (pc' := 76) (loc' := [some (.ref 63), some (.int p), some (.int (op + (-1))), some (.int q), some (.int (zt Z 61 q))]) (stk' := []) (fun _ _ _ => rfl) ?_
                exact J28 _ (by first | (rw [if_pos c25, if_neg c26]; done) | (clear H J28; simp_all [bI]; done))
            · skip
              refine zw_run 2 (pc' := 76) (loc' := [some (.ref 63), some (.int p), some (.int (op + 1)), some (.int q), some (.int (zt Z 61 q))]) (stk' := []) (fun _ _ _ => rfl) ?_
              exact J28 _ (by first | (rw [if_neg c25]; done) | (clear H J28; simp_all [bI]; done))
          · rw [if_neg c24] at H
            refine zw_run 3 (pc' := 97) (loc' := [some (.ref 63), some (.int p), some (.int op), some (.int q), some (.int (zt Z 61 q))]) (stk' := [.int p, .int q]) (fun _ _ _ => rfl) ?_
            have J35 : ∀ (v34 : Int32), v34 = (if q ≤ p then (-1) else (if ¬ op = 0 then (-1) else q : Int32) : Int32) → zw fm sx (d + 2) 84 109 [some (.ref 63), some (.int p), some (.int op), some (.int q), some (.int (zt Z 61 q))] [.int v34] Z Q := by
              intro v34 ev34
              subst ev34
              refine zw_reti (i := .nop) rfl rfl ?_
              exact H
            refine zw_br (c := q ≤ p) (t1 := 108) (t2 := 100) (loc' := [some (.ref 63), some (.int p), some (.int op), some (.int q), some (.int (zt Z 61 q))]) (stk' := []) (fun _ _ _ => rfl) (fun c32 => ?_) (fun c32 => ?_)
            · skip
              refine zw_run 1 (pc' := 109) (loc' := [some (.ref 63), some (.int p), some (.int op), some (.int q), some (.int (zt Z 61 q))]) (stk' := [.int (-1)]) (fun _ _ _ => rfl) ?_
              exact J35 _ (by first | (rw [if_pos c32]; done) | (clear H J35; simp_all [bI]; done))
            · skip
              refine zw_run 1 (pc' := 101) (loc' := [some (.ref 63), some (.int p), some (.int op), some (.int q), some (.int (zt Z 61 q))]) (stk' := [.int op]) (fun _ _ _ => rfl) ?_
              refine zw_br (c := ¬ op = 0) (t1 := 108) (t2 := 104) (loc' := [some (.ref 63), some (.int p), some (.int op), some (.int q), some (.int (zt Z 61 q))]) (stk' := []) (fun _ _ _ => rfl) (fun c33 => ?_) (fun c33 => ?_)
              · skip
                refine zw_run 1 (pc' := 109) (loc' := [some (.ref 63), some (.int p), some (.int op), some (.int q), some (.int (zt Z 61 q))]) (stk' := [.int (-1)]) (fun _ _ _ => rfl) ?_
                exact J35 _ (by first | (rw [if_neg c32, if_pos c33]; done) | (clear H J35; simp_all [bI]; done))
              · skip
                refine zw_run 2 (pc' := 109) (loc' := [some (.ref 63), some (.int p), some (.int op), some (.int q), some (.int (zt Z 61 q))]) (stk' := [.int q]) (fun _ _ _ => rfl) ?_
                exact J35 _ (by first | (rw [if_neg c32, if_neg c33]; done) | (clear H J35; simp_all [bI]; done))
theorem l_84_4 {fm : Value} {sx : Nat × (Nat → Int32)} {d : Nat} {Q : Option Value → zr_Z → Prop} (p : Int32) : ∀ (n : Nat) (Z : zr_Z) (op : Int32) (q : Int32), ((zs Z 61).toInt - q.toInt).toNat < n → Q (some (.int (g_84_4 n Z p op q))) Z → zw fm sx (d + 2) 84 4 [some (.ref 63), some (.int p), some (.int op), some (.int q), none] [] Z Q := by
  intro n
  induction n with
  | zero => intro Z op q hn; exact absurd hn (Nat.not_lt_zero _)
  | succ n ih =>
    intro Z op q hn HQ
    refine zw_most fun hm => b_84_4 p op q ?_
    unfold g_84_4 at HQ
    by_cases c51 : (zs Z 61) ≤ q
    · rw [if_pos c51] at HQ ⊢
      exact HQ
    · rw [if_neg c51] at HQ ⊢
      by_cases c56 : (zt Z 61 q) ≤ 32
      · rw [if_pos c56] at HQ ⊢
        exact HQ
      · rw [if_neg c56] at HQ ⊢
        by_cases c61 : (zt Z 61 q) = 127
        · rw [if_pos c61] at HQ ⊢
          exact HQ
        · rw [if_neg c61] at HQ ⊢
          by_cases c66 : ¬ (zt Z 61 q) = 41
          · rw [if_pos c66] at HQ ⊢
            refine ih Z (if ¬ (zt Z 61 q) = 40 then (if ¬ (zt Z 61 q) = 41 then op else (op + (-1)) : Int32) else (op + 1) : Int32) (q + (if (f_92 Z q) = true then 2 else 1 : Int32)) ?_ HQ
            have u0 := Int32.not_le.mp c51
            have u1 := i32_up (by decide) hm u0 (if (f_92 Z q) = true then 2 else 1 : Int32) (by split <;> decide)
            have u2 := i32_lt.mp u0
            have u3 : 1 ≤ ((if (f_92 Z q) = true then 2 else 1 : Int32) : Int32).toInt := (by split <;> decide)
            omega
          · rw [if_neg c66] at HQ ⊢
            by_cases c74 : ¬ op = 0
            · rw [if_pos c74] at HQ ⊢
              refine ih Z (if ¬ (zt Z 61 q) = 40 then (if ¬ (zt Z 61 q) = 41 then op else (op + (-1)) : Int32) else (op + 1) : Int32) (q + (if (f_92 Z q) = true then 2 else 1 : Int32)) ?_ HQ
              have u0 := Int32.not_le.mp c51
              have u1 := i32_up (by decide) hm u0 (if (f_92 Z q) = true then 2 else 1 : Int32) (by split <;> decide)
              have u2 := i32_lt.mp u0
              have u3 : 1 ≤ ((if (f_92 Z q) = true then 2 else 1 : Int32) : Int32).toInt := (by split <;> decide)
              omega
            · rw [if_neg c74] at HQ ⊢
              exact HQ
/-- MarkInlines$Scan.bareTargetEnd -/
def f_84 (Z : zr_Z) (p : Int32) : Int32 := g_84_4 (((zs Z 61).toInt - (p : Int32).toInt).toNat + 1) Z p 0 p
set_option maxRecDepth 100000 in
set_option maxHeartbeats 1000000 in
theorem b_84 {fm : Value} {sx : Nat × (Nat → Int32)} {d : Nat} {Z : zr_Z} {Q : Option Value → zr_Z → Prop} (p : Int32) (H : zw fm sx (d + 2) 84 4 [some (.ref 63), some (.int p), some (.int 0), some (.int p), none] [] Z Q) : zw fm sx (d + 2) 84 0 [some (.ref 63), some (.int p), none, none, none] [] Z Q := by
  refine zw_run 4 (pc' := 4) (loc' := [some (.ref 63), some (.int p), some (.int 0), some (.int p), none]) (stk' := []) (fun _ _ _ => rfl) ?_
  exact H
theorem t_84 {fm : Value} {sx : Nat × (Nat → Int32)} {d : Nat} {Z : zr_Z} {Q : Option Value → zr_Z → Prop} (p : Int32) (HQ : Q (some (.int (f_84 Z p))) Z) : zw fm sx (d + 2) 84 0 [some (.ref 63), some (.int p), none, none, none] [] Z Q := by
  refine b_84 p ?_
  unfold f_84 at HQ
  exact l_84_4 p _ _ _ _ (Nat.lt_succ_self _) HQ
theorem c_84 {fm : Value} {sx : Nat × (Nat → Int32)} {d : Nat} {Z : zr_Z} (p : Int32) : zl fm sx (d + 3) 84 [.ref 63, .int p] Z (fun r Z' => r = some (.int (f_84 Z p)) ∧ Z' = Z) :=
  zl_of (nL := 5) (loc0 := [some (.ref 63), some (.int p), none, none, none]) rfl rfl rfl (t_84 p ⟨rfl, rfl⟩)
/-- MarkInlines$Scan.titleEnd, its loop at 47 -/
def g_85_47 : Nat → zr_Z → Int32 → Int32 → Int32
  | 0, Z, _, _ => 0
  | n + 1, Z, p, q => (if (zs Z 61) ≤ q then (-1) else (if ¬ (zt Z 61 q) = (if ¬ (zt Z 61 p) = 40 then (zt Z 61 p) else 41 : Int32) then (if ¬ (zt Z 61 q) = 40 then g_85_47 n Z p (q + (if (f_92 Z q) = true then 2 else 1 : Int32)) else (if ¬ (zt Z 61 p) = 40 then g_85_47 n Z p (q + (if (f_92 Z q) = true then 2 else 1 : Int32)) else (-1))) else (q + 1)))
set_option maxRecDepth 100000 in
set_option maxHeartbeats 2000000 in
theorem b_85_47 {fm : Value} {sx : Nat × (Nat → Int32)} {d : Nat} {Z : zr_Z} {Q : Option Value → zr_Z → Prop} (p : Int32) (q : Int32) (H : (if (zs Z 61) ≤ q then Q (some (.int (-1))) Z else (if ¬ (zt Z 61 q) = (if ¬ (zt Z 61 p) = 40 then (zt Z 61 p) else 41 : Int32) then (if ¬ (zt Z 61 q) = 40 then zw fm sx (d + 2) 85 47 [some (.ref 63), none, some (.int (zt Z 61 p)), some (.int (if ¬ (zt Z 61 p) = 40 then (zt Z 61 p) else 41 : Int32)), some (.int (q + (if (f_92 Z q) = true then 2 else 1 : Int32))), none] [] Z Q else (if ¬ (zt Z 61 p) = 40 then zw fm sx (d + 2) 85 47 [some (.ref 63), none, some (.int (zt Z 61 p)), some (.int (if ¬ (zt Z 61 p) = 40 then (zt Z 61 p) else 41 : Int32)), some (.int (q + (if (f_92 Z q) = true then 2 else 1 : Int32))), none] [] Z Q else Q (some (.int (-1))) Z)) else Q (some (.int (q + 1))) Z))) : zw fm sx (d + 2) 85 47 [some (.ref 63), none, some (.int (zt Z 61 p)), some (.int (if ¬ (zt Z 61 p) = 40 then (zt Z 61 p) else 41 : Int32)), some (.int q), none] [] Z Q := by
  refine zw_run 2 (pc' := 50) (loc' := [some (.ref 63), none, some (.int (zt Z 61 p)), some (.int (if ¬ (zt Z 61 p) = 40 then (zt Z 61 p) else 41 : Int32)), some (.int q), none]) (stk' := [.ref 63, .int q]) (fun _ _ _ => rfl) ?_
  refine zw_get (v := .ref 61) rfl rfl rfl ?_
  refine zw_callf (As := [.ref 61]) (rest := [.int q]) (c_row_size (id := 61) (by decide) (d := d + 1)) rfl rfl rfl rfl ?_
  show zw fm sx (d + 2) 85 56 [some (.ref 63), none, some (.int (zt Z 61 p)), some (.int (if ¬ (zt Z 61 p) = 40 then (zt Z 61 p) else 41 : Int32)), some (.int q), none] [.int (zs Z 61), .int q] Z Q
  refine zw_br (c := (zs Z 61) ≤ q) (t1 := 118) (t2 := 59) (loc' := [some (.ref 63), none, some (.int (zt Z 61 p)), some (.int (if ¬ (zt Z 61 p) = 40 then (zt Z 61 p) else 41 : Int32)), some (.int q), none]) (stk' := []) (fun _ _ _ => rfl) (fun c1 => ?_) (fun c1 => ?_)
  · rw [if_pos c1] at H
    refine zw_run 1 (pc' := 119) (loc' := [some (.ref 63), none, some (.int (zt Z 61 p)), some (.int (if ¬ (zt Z 61 p) = 40 then (zt Z 61 p) else 41 : Int32)), some (.int q), none]) (stk' := [.int (-1)]) (fun _ _ _ => rfl) ?_
    refine zw_reti (i := .nop) rfl rfl ?_
    exact H
  · rw [if_neg c1] at H
    refine zw_run 1 (pc' := 60) (loc' := [some (.ref 63), none, some (.int (zt Z 61 p)), some (.int (if ¬ (zt Z 61 p) = 40 then (zt Z 61 p) else 41 : Int32)), some (.int q), none]) (stk' := [.ref 63]) (fun _ _ _ => rfl) ?_
    refine zw_get (v := .ref 61) rfl rfl rfl ?_
    refine zw_run 1 (pc' := 65) (loc' := [some (.ref 63), none, some (.int (zt Z 61 p)), some (.int (if ¬ (zt Z 61 p) = 40 then (zt Z 61 p) else 41 : Int32)), some (.int q), none]) (stk' := [.int q, .ref 61]) (fun _ _ _ => rfl) ?_
    refine zw_callf (As := [.ref 61, .int q]) (rest := []) (c_row_at (id := 61) (by decide) q (d := d + 1)) rfl rfl rfl rfl ?_
    show zw fm sx (d + 2) 85 68 [some (.ref 63), none, some (.int (zt Z 61 p)), some (.int (if ¬ (zt Z 61 p) = 40 then (zt Z 61 p) else 41 : Int32)), some (.int q), none] [.int (zt Z 61 q)] Z Q
    refine zw_run 3 (pc' := 73) (loc' := [some (.ref 63), none, some (.int (zt Z 61 p)), some (.int (if ¬ (zt Z 61 p) = 40 then (zt Z 61 p) else 41 : Int32)), some (.int q), some (.int (zt Z 61 q))]) (stk' := [.int (if ¬ (zt Z 61 p) = 40 then (zt Z 61 p) else 41 : Int32), .int (zt Z 61 q)]) (fun _ _ _ => rfl) ?_
    refine zw_br (c := ¬ (zt Z 61 q) = (if ¬ (zt Z 61 p) = 40 then (zt Z 61 p) else 41 : Int32)) (t1 := 81) (t2 := 76) (loc' := [some (.ref 63), none, some (.int (zt Z 61 p)), some (.int (if ¬ (zt Z 61 p) = 40 then (zt Z 61 p) else 41 : Int32)), some (.int q), some (.int (zt Z 61 q))]) (stk' := []) (fun _ _ _ => rfl) (fun c2 => ?_) (fun c2 => ?_)
    · rw [if_pos c2] at H
      refine zw_run 2 (pc' := 85) (loc' := [some (.ref 63), none, some (.int (zt Z 61 p)), some (.int (if ¬ (zt Z 61 p) = 40 then (zt Z 61 p) else 41 : Int32)), some (.int q), some (.int (zt Z 61 q))]) (stk' := [.int 40, .int (zt Z 61 q)]) (fun _ _ _ => rfl) ?_
      refine zw_br (c := ¬ (zt Z 61 q) = 40) (t1 := 96) (t2 := 88) (loc' := [some (.ref 63), none, some (.int (zt Z 61 p)), some (.int (if ¬ (zt Z 61 p) = 40 then (zt Z 61 p) else 41 : Int32)), some (.int q), some (.int (zt Z 61 q))]) (stk' := []) (fun _ _ _ => rfl) (fun c3 => ?_) (fun c3 => ?_)
      · rw [if_pos c3] at H
        refine zw_run 3 (pc' := 101) (loc' := [some (.ref 63), none, some (.int (zt Z 61 p)), some (.int (if ¬ (zt Z 61 p) = 40 then (zt Z 61 p) else 41 : Int32)), some (.int q), some (.int (zt Z 61 q))]) (stk' := [.int q, .ref 63, .int q]) (fun _ _ _ => rfl) ?_
        refine zw_callf (As := [.ref 63, .int q]) (rest := [.int q]) (c_92 q (d := d + 0)) rfl rfl rfl rfl ?_
        show zw fm sx (d + 2) 85 104 [some (.ref 63), none, some (.int (zt Z 61 p)), some (.int (if ¬ (zt Z 61 p) = 40 then (zt Z 61 p) else 41 : Int32)), some (.int q), some (.int (zt Z 61 q))] [.int (bI (f_92 Z q)), .int q] Z Q
        have J6 : ∀ (v5 : Int32), v5 = (if (f_92 Z q) = true then 2 else 1 : Int32) → zw fm sx (d + 2) 85 112 [some (.ref 63), none, some (.int (zt Z 61 p)), some (.int (if ¬ (zt Z 61 p) = 40 then (zt Z 61 p) else 41 : Int32)), some (.int q), some (.int (zt Z 61 q))] [.int v5, .int q] Z Q := by
          intro v5 ev5
          subst ev5
          refine zw_run 3 (pc' := 47) (loc' := [some (.ref 63), none, some (.int (zt Z 61 p)), some (.int (if ¬ (zt Z 61 p) = 40 then (zt Z 61 p) else 41 : Int32)), some (.int (q + (if (f_92 Z q) = true then 2 else 1 : Int32))), some (.int (zt Z 61 q))]) (stk' := []) (fun _ _ _ => rfl) ?_
          refine zw_fgt [true, false, true, true, true, false] rfl ?_
          exact H
        refine zw_b0 (b := (f_92 Z q)) (t1 := 107) (t2 := 111) (loc' := [some (.ref 63), none, some (.int (zt Z 61 p)), some (.int (if ¬ (zt Z 61 p) = 40 then (zt Z 61 p) else 41 : Int32)), some (.int q), some (.int (zt Z 61 q))]) (stk' := [.int q]) (fun _ _ _ => rfl) (fun c4 => ?_) (fun c4 => ?_)
        · skip
          refine zw_run 2 (pc' := 112) (loc' := [some (.ref 63), none, some (.int (zt Z 61 p)), some (.int (if ¬ (zt Z 61 p) = 40 then (zt Z 61 p) else 41 : Int32)), some (.int q), some (.int (zt Z 61 q))]) (stk' := [.int 2, .int q]) (fun _ _ _ => rfl) ?_
          exact J6 _ (by first | (rw [if_pos c4]; done) | (clear H J6; simp_all [bI]; done))
        · skip
          refine zw_run 1 (pc' := 112) (loc' := [some (.ref 63), none, some (.int (zt Z 61 p)), some (.int (if ¬ (zt Z 61 p) = 40 then (zt Z 61 p) else 41 : Int32)), some (.int q), some (.int (zt Z 61 q))]) (stk' := [.int 1, .int q]) (fun _ _ _ => rfl) ?_
          exact J6 _ (by first | (rw [if_neg c4]; done) | (clear H J6; simp_all [bI]; done))
      · rw [if_neg c3] at H
        refine zw_run 2 (pc' := 91) (loc' := [some (.ref 63), none, some (.int (zt Z 61 p)), some (.int (if ¬ (zt Z 61 p) = 40 then (zt Z 61 p) else 41 : Int32)), some (.int q), some (.int (zt Z 61 q))]) (stk' := [.int 40, .int (zt Z 61 p)]) (fun _ _ _ => rfl) ?_
        refine zw_br (c := ¬ (zt Z 61 p) = 40) (t1 := 96) (t2 := 94) (loc' := [some (.ref 63), none, some (.int (zt Z 61 p)), some (.int (if ¬ (zt Z 61 p) = 40 then (zt Z 61 p) else 41 : Int32)), some (.int q), some (.int (zt Z 61 q))]) (stk' := []) (fun _ _ _ => rfl) (fun c7 => ?_) (fun c7 => ?_)
        · rw [if_pos c7] at H
          refine zw_run 3 (pc' := 101) (loc' := [some (.ref 63), none, some (.int (zt Z 61 p)), some (.int (if ¬ (zt Z 61 p) = 40 then (zt Z 61 p) else 41 : Int32)), some (.int q), some (.int (zt Z 61 q))]) (stk' := [.int q, .ref 63, .int q]) (fun _ _ _ => rfl) ?_
          refine zw_callf (As := [.ref 63, .int q]) (rest := [.int q]) (c_92 q (d := d + 0)) rfl rfl rfl rfl ?_
          show zw fm sx (d + 2) 85 104 [some (.ref 63), none, some (.int (zt Z 61 p)), some (.int (if ¬ (zt Z 61 p) = 40 then (zt Z 61 p) else 41 : Int32)), some (.int q), some (.int (zt Z 61 q))] [.int (bI (f_92 Z q)), .int q] Z Q
          have J10 : ∀ (v9 : Int32), v9 = (if (f_92 Z q) = true then 2 else 1 : Int32) → zw fm sx (d + 2) 85 112 [some (.ref 63), none, some (.int (zt Z 61 p)), some (.int (if ¬ (zt Z 61 p) = 40 then (zt Z 61 p) else 41 : Int32)), some (.int q), some (.int (zt Z 61 q))] [.int v9, .int q] Z Q := by
            intro v9 ev9
            subst ev9
            refine zw_run 3 (pc' := 47) (loc' := [some (.ref 63), none, some (.int (zt Z 61 p)), some (.int (if ¬ (zt Z 61 p) = 40 then (zt Z 61 p) else 41 : Int32)), some (.int (q + (if (f_92 Z q) = true then 2 else 1 : Int32))), some (.int (zt Z 61 q))]) (stk' := []) (fun _ _ _ => rfl) ?_
            refine zw_fgt [true, false, true, true, true, false] rfl ?_
            exact H
          refine zw_b0 (b := (f_92 Z q)) (t1 := 107) (t2 := 111) (loc' := [some (.ref 63), none, some (.int (zt Z 61 p)), some (.int (if ¬ (zt Z 61 p) = 40 then (zt Z 61 p) else 41 : Int32)), some (.int q), some (.int (zt Z 61 q))]) (stk' := [.int q]) (fun _ _ _ => rfl) (fun c8 => ?_) (fun c8 => ?_)
          · skip
            refine zw_run 2 (pc' := 112) (loc' := [some (.ref 63), none, some (.int (zt Z 61 p)), some (.int (if ¬ (zt Z 61 p) = 40 then (zt Z 61 p) else 41 : Int32)), some (.int q), some (.int (zt Z 61 q))]) (stk' := [.int 2, .int q]) (fun _ _ _ => rfl) ?_
            exact J10 _ (by first | (rw [if_pos c8]; done) | (clear H J10; simp_all [bI]; done))
          · skip
            refine zw_run 1 (pc' := 112) (loc' := [some (.ref 63), none, some (.int (zt Z 61 p)), some (.int (if ¬ (zt Z 61 p) = 40 then (zt Z 61 p) else 41 : Int32)), some (.int q), some (.int (zt Z 61 q))]) (stk' := [.int 1, .int q]) (fun _ _ _ => rfl) ?_
            exact J10 _ (by first | (rw [if_neg c8]; done) | (clear H J10; simp_all [bI]; done))
        · rw [if_neg c7] at H
          refine zw_run 1 (pc' := 95) (loc' := [some (.ref 63), none, some (.int (zt Z 61 p)), some (.int (if ¬ (zt Z 61 p) = 40 then (zt Z 61 p) else 41 : Int32)), some (.int q), some (.int (zt Z 61 q))]) (stk' := [.int (-1)]) (fun _ _ _ => rfl) ?_
          refine zw_reti (i := .nop) rfl rfl ?_
          exact H
    · rw [if_neg c2] at H
      refine zw_run 3 (pc' := 80) (loc' := [some (.ref 63), none, some (.int (zt Z 61 p)), some (.int (if ¬ (zt Z 61 p) = 40 then (zt Z 61 p) else 41 : Int32)), some (.int q), some (.int (zt Z 61 q))]) (stk' := [.int (q + 1)]) (fun _ _ _ => rfl) ?_
      refine zw_reti (i := .nop) rfl rfl ?_
      exact H
theorem l_85_47 {fm : Value} {sx : Nat × (Nat → Int32)} {d : Nat} {Q : Option Value → zr_Z → Prop} (p : Int32) : ∀ (n : Nat) (Z : zr_Z) (q : Int32), ((zs Z 61).toInt - q.toInt).toNat < n → Q (some (.int (g_85_47 n Z p q))) Z → zw fm sx (d + 2) 85 47 [some (.ref 63), none, some (.int (zt Z 61 p)), some (.int (if ¬ (zt Z 61 p) = 40 then (zt Z 61 p) else 41 : Int32)), some (.int q), none] [] Z Q := by
  intro n
  induction n with
  | zero => intro Z q hn; exact absurd hn (Nat.not_lt_zero _)
  | succ n ih =>
    intro Z q hn HQ
    refine zw_most fun hm => b_85_47 p q ?_
    unfold g_85_47 at HQ
    by_cases c51 : (zs Z 61) ≤ q
    · rw [if_pos c51] at HQ ⊢
      exact HQ
    · rw [if_neg c51] at HQ ⊢
      by_cases c52 : ¬ (zt Z 61 q) = (if ¬ (zt Z 61 p) = 40 then (zt Z 61 p) else 41 : Int32)
      · rw [if_pos c52] at HQ ⊢
        by_cases c53 : ¬ (zt Z 61 q) = 40
        · rw [if_pos c53] at HQ ⊢
          refine ih Z (q + (if (f_92 Z q) = true then 2 else 1 : Int32)) ?_ HQ
          have u0 := Int32.not_le.mp c51
          have u1 := i32_up (by decide) hm u0 (if (f_92 Z q) = true then 2 else 1 : Int32) (by split <;> decide)
          have u2 := i32_lt.mp u0
          have u3 : 1 ≤ ((if (f_92 Z q) = true then 2 else 1 : Int32) : Int32).toInt := (by split <;> decide)
          omega
        · rw [if_neg c53] at HQ ⊢
          by_cases c57 : ¬ (zt Z 61 p) = 40
          · rw [if_pos c57] at HQ ⊢
            refine ih Z (q + (if (f_92 Z q) = true then 2 else 1 : Int32)) ?_ HQ
            have u0 := Int32.not_le.mp c51
            have u1 := i32_up (by decide) hm u0 (if (f_92 Z q) = true then 2 else 1 : Int32) (by split <;> decide)
            have u2 := i32_lt.mp u0
            have u3 : 1 ≤ ((if (f_92 Z q) = true then 2 else 1 : Int32) : Int32).toInt := (by split <;> decide)
            omega
          · rw [if_neg c57] at HQ ⊢
            exact HQ
      · rw [if_neg c52] at HQ ⊢
        exact HQ
/-- MarkInlines$Scan.titleEnd -/
def f_85 (Z : zr_Z) (p : Int32) : Int32 := (if (zt Z 61 p) = 34 then g_85_47 (((zs Z 61).toInt - (p + 1 : Int32).toInt).toNat + 1) Z p (p + 1) else (if (zt Z 61 p) = 39 then g_85_47 (((zs Z 61).toInt - (p + 1 : Int32).toInt).toNat + 1) Z p (p + 1) else (if (zt Z 61 p) = 40 then g_85_47 (((zs Z 61).toInt - (p + 1 : Int32).toInt).toNat + 1) Z p (p + 1) else (-1))))
set_option maxRecDepth 100000 in
set_option maxHeartbeats 1000000 in
theorem b_85 {fm : Value} {sx : Nat × (Nat → Int32)} {d : Nat} {Z : zr_Z} {Q : Option Value → zr_Z → Prop} (p : Int32) (H : (if (zt Z 61 p) = 34 then zw fm sx (d + 2) 85 47 [some (.ref 63), none, some (.int (zt Z 61 p)), some (.int (if ¬ (zt Z 61 p) = 40 then (zt Z 61 p) else 41 : Int32)), some (.int (p + 1)), none] [] Z Q else (if (zt Z 61 p) = 39 then zw fm sx (d + 2) 85 47 [some (.ref 63), none, some (.int (zt Z 61 p)), some (.int (if ¬ (zt Z 61 p) = 40 then (zt Z 61 p) else 41 : Int32)), some (.int (p + 1)), none] [] Z Q else (if (zt Z 61 p) = 40 then zw fm sx (d + 2) 85 47 [some (.ref 63), none, some (.int (zt Z 61 p)), some (.int (if ¬ (zt Z 61 p) = 40 then (zt Z 61 p) else 41 : Int32)), some (.int (p + 1)), none] [] Z Q else Q (some (.int (-1))) Z)))) : zw fm sx (d + 2) 85 0 [some (.ref 63), some (.int p), none, none, none, none] [] Z Q := by
  refine zw_run 1 (pc' := 1) (loc' := [some (.ref 63), some (.int p), none, none, none, none]) (stk' := [.ref 63]) (fun _ _ _ => rfl) ?_
  refine zw_get (v := .ref 61) rfl rfl rfl ?_
  refine zw_run 1 (pc' := 5) (loc' := [some (.ref 63), some (.int p), none, none, none, none]) (stk' := [.int p, .ref 61]) (fun _ _ _ => rfl) ?_
  refine zw_callf (As := [.ref 61, .int p]) (rest := []) (c_row_at (id := 61) (by decide) p (d := d + 1)) rfl rfl rfl rfl ?_
  show zw fm sx (d + 2) 85 8 [some (.ref 63), some (.int p), none, none, none, none] [.int (zt Z 61 p)] Z Q
  refine zw_run 3 (pc' := 12) (loc' := [some (.ref 63), some (.int p), some (.int (zt Z 61 p)), none, none, none]) (stk' := [.int 34, .int (zt Z 61 p)]) (fun _ _ _ => rfl) ?_
  refine zw_br (c := (zt Z 61 p) = 34) (t1 := 29) (t2 := 15) (loc' := [some (.ref 63), some (.int p), some (.int (zt Z 61 p)), none, none, none]) (stk' := []) (fun _ _ _ => rfl) (fun c1 => ?_) (fun c1 => ?_)
  · rw [if_pos c1] at H
    refine zw_run 2 (pc' := 32) (loc' := [some (.ref 63), some (.int p), some (.int (zt Z 61 p)), none, none, none]) (stk' := [.int 40, .int (zt Z 61 p)]) (fun _ _ _ => rfl) ?_
    have J4 : ∀ (v3 : Int32), v3 = (if ¬ (zt Z 61 p) = 40 then (zt Z 61 p) else 41 : Int32) → zw fm sx (d + 2) 85 41 [some (.ref 63), some (.int p), some (.int (zt Z 61 p)), none, none, none] [.int v3] Z Q := by
      intro v3 ev3
      subst ev3
      refine zw_run 5 (pc' := 47) (loc' := [some (.ref 63), some (.int p), some (.int (zt Z 61 p)), some (.int (if ¬ (zt Z 61 p) = 40 then (zt Z 61 p) else 41 : Int32)), some (.int (p + 1)), none]) (stk' := []) (fun _ _ _ => rfl) ?_
      refine zw_fgt [true, false, true, true, true, false] rfl ?_
      exact H
    refine zw_br (c := ¬ (zt Z 61 p) = 40) (t1 := 40) (t2 := 35) (loc' := [some (.ref 63), some (.int p), some (.int (zt Z 61 p)), none, none, none]) (stk' := []) (fun _ _ _ => rfl) (fun c2 => ?_) (fun c2 => ?_)
    · skip
      refine zw_run 1 (pc' := 41) (loc' := [some (.ref 63), some (.int p), some (.int (zt Z 61 p)), none, none, none]) (stk' := [.int (zt Z 61 p)]) (fun _ _ _ => rfl) ?_
      exact J4 _ (by first | (rw [if_pos c2]; done) | (clear H J4; simp_all [bI]; done))
    · skip
      refine zw_run 2 (pc' := 41) (loc' := [some (.ref 63), some (.int p), some (.int (zt Z 61 p)), none, none, none]) (stk' := [.int 41]) (fun _ _ _ => rfl) ?_
      exact J4 _ (by first | (rw [if_neg c2]; done) | (clear H J4; simp_all [bI]; done))
  · rw [if_neg c1] at H
    refine zw_run 2 (pc' := 18) (loc' := [some (.ref 63), some (.int p), some (.int (zt Z 61 p)), none, none, none]) (stk' := [.int 39, .int (zt Z 61 p)]) (fun _ _ _ => rfl) ?_
    refine zw_br (c := (zt Z 61 p) = 39) (t1 := 29) (t2 := 21) (loc' := [some (.ref 63), some (.int p), some (.int (zt Z 61 p)), none, none, none]) (stk' := []) (fun _ _ _ => rfl) (fun c5 => ?_) (fun c5 => ?_)
    · rw [if_pos c5] at H
      refine zw_run 2 (pc' := 32) (loc' := [some (.ref 63), some (.int p), some (.int (zt Z 61 p)), none, none, none]) (stk' := [.int 40, .int (zt Z 61 p)]) (fun _ _ _ => rfl) ?_
      have J8 : ∀ (v7 : Int32), v7 = (if ¬ (zt Z 61 p) = 40 then (zt Z 61 p) else 41 : Int32) → zw fm sx (d + 2) 85 41 [some (.ref 63), some (.int p), some (.int (zt Z 61 p)), none, none, none] [.int v7] Z Q := by
        intro v7 ev7
        subst ev7
        refine zw_run 5 (pc' := 47) (loc' := [some (.ref 63), some (.int p), some (.int (zt Z 61 p)), some (.int (if ¬ (zt Z 61 p) = 40 then (zt Z 61 p) else 41 : Int32)), some (.int (p + 1)), none]) (stk' := []) (fun _ _ _ => rfl) ?_
        refine zw_fgt [true, false, true, true, true, false] rfl ?_
        exact H
      refine zw_br (c := ¬ (zt Z 61 p) = 40) (t1 := 40) (t2 := 35) (loc' := [some (.ref 63), some (.int p), some (.int (zt Z 61 p)), none, none, none]) (stk' := []) (fun _ _ _ => rfl) (fun c6 => ?_) (fun c6 => ?_)
      · skip
        refine zw_run 1 (pc' := 41) (loc' := [some (.ref 63), some (.int p), some (.int (zt Z 61 p)), none, none, none]) (stk' := [.int (zt Z 61 p)]) (fun _ _ _ => rfl) ?_
        exact J8 _ (by first | (rw [if_pos c6]; done) | (clear H J8; simp_all [bI]; done))
      · skip
        refine zw_run 2 (pc' := 41) (loc' := [some (.ref 63), some (.int p), some (.int (zt Z 61 p)), none, none, none]) (stk' := [.int 41]) (fun _ _ _ => rfl) ?_
        exact J8 _ (by first | (rw [if_neg c6]; done) | (clear H J8; simp_all [bI]; done))
    · rw [if_neg c5] at H
      refine zw_run 2 (pc' := 24) (loc' := [some (.ref 63), some (.int p), some (.int (zt Z 61 p)), none, none, none]) (stk' := [.int 40, .int (zt Z 61 p)]) (fun _ _ _ => rfl) ?_
      refine zw_br (c := (zt Z 61 p) = 40) (t1 := 29) (t2 := 27) (loc' := [some (.ref 63), some (.int p), some (.int (zt Z 61 p)), none, none, none]) (stk' := []) (fun _ _ _ => rfl) (fun c9 => ?_) (fun c9 => ?_)
      · rw [if_pos c9] at H
        refine zw_run 2 (pc' := 32) (loc' := [some (.ref 63), some (.int p), some (.int (zt Z 61 p)), none, none, none]) (stk' := [.int 40, .int (zt Z 61 p)]) (fun _ _ _ => rfl) ?_
        have J12 : ∀ (v11 : Int32), v11 = (if ¬ (zt Z 61 p) = 40 then (zt Z 61 p) else 41 : Int32) → zw fm sx (d + 2) 85 41 [some (.ref 63), some (.int p), some (.int (zt Z 61 p)), none, none, none] [.int v11] Z Q := by
          intro v11 ev11
          subst ev11
          refine zw_run 5 (pc' := 47) (loc' := [some (.ref 63), some (.int p), some (.int (zt Z 61 p)), some (.int (if ¬ (zt Z 61 p) = 40 then (zt Z 61 p) else 41 : Int32)), some (.int (p + 1)), none]) (stk' := []) (fun _ _ _ => rfl) ?_
          refine zw_fgt [true, false, true, true, true, false] rfl ?_
          exact H
        refine zw_br (c := ¬ (zt Z 61 p) = 40) (t1 := 40) (t2 := 35) (loc' := [some (.ref 63), some (.int p), some (.int (zt Z 61 p)), none, none, none]) (stk' := []) (fun _ _ _ => rfl) (fun c10 => ?_) (fun c10 => ?_)
        · skip
          refine zw_run 1 (pc' := 41) (loc' := [some (.ref 63), some (.int p), some (.int (zt Z 61 p)), none, none, none]) (stk' := [.int (zt Z 61 p)]) (fun _ _ _ => rfl) ?_
          exact J12 _ (by first | (rw [if_pos c10]; done) | (clear H J12; simp_all [bI]; done))
        · skip
          refine zw_run 2 (pc' := 41) (loc' := [some (.ref 63), some (.int p), some (.int (zt Z 61 p)), none, none, none]) (stk' := [.int 41]) (fun _ _ _ => rfl) ?_
          exact J12 _ (by first | (rw [if_neg c10]; done) | (clear H J12; simp_all [bI]; done))
      · rw [if_neg c9] at H
        refine zw_run 1 (pc' := 28) (loc' := [some (.ref 63), some (.int p), some (.int (zt Z 61 p)), none, none, none]) (stk' := [.int (-1)]) (fun _ _ _ => rfl) ?_
        refine zw_reti (i := .nop) rfl rfl ?_
        exact H
theorem t_85 {fm : Value} {sx : Nat × (Nat → Int32)} {d : Nat} {Z : zr_Z} {Q : Option Value → zr_Z → Prop} (p : Int32) (HQ : Q (some (.int (f_85 Z p))) Z) : zw fm sx (d + 2) 85 0 [some (.ref 63), some (.int p), none, none, none, none] [] Z Q := by
  refine b_85 p ?_
  unfold f_85 at HQ
  by_cases c1 : (zt Z 61 p) = 34
  · rw [if_pos c1] at HQ ⊢
    exact l_85_47 p _ _ _ (Nat.lt_succ_self _) HQ
  · rw [if_neg c1] at HQ ⊢
    by_cases c5 : (zt Z 61 p) = 39
    · rw [if_pos c5] at HQ ⊢
      exact l_85_47 p _ _ _ (Nat.lt_succ_self _) HQ
    · rw [if_neg c5] at HQ ⊢
      by_cases c9 : (zt Z 61 p) = 40
      · rw [if_pos c9] at HQ ⊢
        exact l_85_47 p _ _ _ (Nat.lt_succ_self _) HQ
      · rw [if_neg c9] at HQ ⊢
        exact HQ
theorem c_85 {fm : Value} {sx : Nat × (Nat → Int32)} {d : Nat} {Z : zr_Z} (p : Int32) : zl fm sx (d + 3) 85 [.ref 63, .int p] Z (fun r Z' => r = some (.int (f_85 Z p)) ∧ Z' = Z) :=
  zl_of (nL := 6) (loc0 := [some (.ref 63), some (.int p), none, none, none, none]) rfl rfl rfl (t_85 p ⟨rfl, rfl⟩)
/-- MarkInlines$Scan.addressEnd, its loop at 75 -/
def g_86_75 : Nat → zr_Z → Int32 → Int32 → Int32
  | 0, Z, _, _ => 0
  | n + 1, Z, p, q => (if (zs Z 61) ≤ q then (if ¬ (zt Z 61 q) = 62 then (-1) else (q + 1) : Int32) else (if (k_191 (zt Z 61 q)) = true then g_86_75 n Z p (q + 1) else (if ¬ (zt Z 61 q) = 62 then (-1) else (q + 1) : Int32)))
set_option maxRecDepth 100000 in
set_option maxHeartbeats 2000000 in
theorem b_86_75 {fm : Value} {sx : Nat × (Nat → Int32)} {d : Nat} {Z : zr_Z} {Q : Option Value → zr_Z → Prop} (p : Int32) (q : Int32) (H : (if (zs Z 61) ≤ q then Q (some (.int (if ¬ (zt Z 61 q) = 62 then (-1) else (q + 1) : Int32))) Z else (if (k_191 (zt Z 61 q)) = true then zw fm sx (d + 2) 86 75 [some (.ref 63), none, some (.int (q + 1))] [] Z Q else Q (some (.int (if ¬ (zt Z 61 q) = 62 then (-1) else (q + 1) : Int32))) Z))) : zw fm sx (d + 2) 86 75 [some (.ref 63), none, some (.int q)] [] Z Q := by
  refine zw_run 2 (pc' := 77) (loc' := [some (.ref 63), none, some (.int q)]) (stk' := [.ref 63, .int q]) (fun _ _ _ => rfl) ?_
  refine zw_get (v := .ref 61) rfl rfl rfl ?_
  refine zw_callf (As := [.ref 61]) (rest := [.int q]) (c_row_size (id := 61) (by decide) (d := d + 1)) rfl rfl rfl rfl ?_
  show zw fm sx (d + 2) 86 83 [some (.ref 63), none, some (.int q)] [.int (zs Z 61), .int q] Z Q
  refine zw_br (c := (zs Z 61) ≤ q) (t1 := 106) (t2 := 86) (loc' := [some (.ref 63), none, some (.int q)]) (stk' := []) (fun _ _ _ => rfl) (fun c1 => ?_) (fun c1 => ?_)
  · rw [if_pos c1] at H
    refine zw_run 1 (pc' := 107) (loc' := [some (.ref 63), none, some (.int q)]) (stk' := [.ref 63]) (fun _ _ _ => rfl) ?_
    refine zw_get (v := .ref 61) rfl rfl rfl ?_
    refine zw_run 1 (pc' := 111) (loc' := [some (.ref 63), none, some (.int q)]) (stk' := [.int q, .ref 61]) (fun _ _ _ => rfl) ?_
    refine zw_callf (As := [.ref 61, .int q]) (rest := []) (c_row_at (id := 61) (by decide) q (d := d + 1)) rfl rfl rfl rfl ?_
    show zw fm sx (d + 2) 86 114 [some (.ref 63), none, some (.int q)] [.int (zt Z 61 q)] Z Q
    refine zw_run 1 (pc' := 116) (loc' := [some (.ref 63), none, some (.int q)]) (stk' := [.int 62, .int (zt Z 61 q)]) (fun _ _ _ => rfl) ?_
    have J4 : ∀ (v3 : Int32), v3 = (if ¬ (zt Z 61 q) = 62 then (-1) else (q + 1) : Int32) → zw fm sx (d + 2) 86 126 [some (.ref 63), none, some (.int q)] [.int v3] Z Q := by
      intro v3 ev3
      subst ev3
      refine zw_reti (i := .nop) rfl rfl ?_
      exact H
    refine zw_br (c := ¬ (zt Z 61 q) = 62) (t1 := 125) (t2 := 119) (loc' := [some (.ref 63), none, some (.int q)]) (stk' := []) (fun _ _ _ => rfl) (fun c2 => ?_) (fun c2 => ?_)
    · skip
      refine zw_run 1 (pc' := 126) (loc' := [some (.ref 63), none, some (.int q)]) (stk' := [.int (-1)]) (fun _ _ _ => rfl) ?_
      exact J4 _ (by first | (rw [if_pos c2]; done) | (clear H J4; simp_all [bI]; done))
    · skip
      refine zw_run 4 (pc' := 126) (loc' := [some (.ref 63), none, some (.int q)]) (stk' := [.int (q + 1)]) (fun _ _ _ => rfl) ?_
      exact J4 _ (by first | (rw [if_neg c2]; done) | (clear H J4; simp_all [bI]; done))
  · rw [if_neg c1] at H
    refine zw_run 1 (pc' := 87) (loc' := [some (.ref 63), none, some (.int q)]) (stk' := [.ref 63]) (fun _ _ _ => rfl) ?_
    refine zw_get (v := .ref 61) rfl rfl rfl ?_
    refine zw_run 1 (pc' := 91) (loc' := [some (.ref 63), none, some (.int q)]) (stk' := [.int q, .ref 61]) (fun _ _ _ => rfl) ?_
    refine zw_callf (As := [.ref 61, .int q]) (rest := []) (c_row_at (id := 61) (by decide) q (d := d + 1)) rfl rfl rfl rfl ?_
    show zw fm sx (d + 2) 86 94 [some (.ref 63), none, some (.int q)] [.int (zt Z 61 q)] Z Q
    refine zw_callf (As := [.int (zt Z 61 q)]) (rest := []) (c_191 (zt Z 61 q) (d := d + 1)) rfl rfl rfl rfl ?_
    show zw fm sx (d + 2) 86 97 [some (.ref 63), none, some (.int q)] [.int (bI (k_191 (zt Z 61 q)))] Z Q
    refine zw_b0 (b := (k_191 (zt Z 61 q))) (t1 := 100) (t2 := 106) (loc' := [some (.ref 63), none, some (.int q)]) (stk' := []) (fun _ _ _ => rfl) (fun c5 => ?_) (fun c5 => ?_)
    · rw [if_pos c5] at H
      refine zw_run 2 (pc' := 75) (loc' := [some (.ref 63), none, some (.int (q + 1))]) (stk' := []) (fun _ _ _ => rfl) ?_
      exact H
    · rw [if_neg c5] at H
      refine zw_run 1 (pc' := 107) (loc' := [some (.ref 63), none, some (.int q)]) (stk' := [.ref 63]) (fun _ _ _ => rfl) ?_
      refine zw_get (v := .ref 61) rfl rfl rfl ?_
      refine zw_run 1 (pc' := 111) (loc' := [some (.ref 63), none, some (.int q)]) (stk' := [.int q, .ref 61]) (fun _ _ _ => rfl) ?_
      refine zw_callf (As := [.ref 61, .int q]) (rest := []) (c_row_at (id := 61) (by decide) q (d := d + 1)) rfl rfl rfl rfl ?_
      show zw fm sx (d + 2) 86 114 [some (.ref 63), none, some (.int q)] [.int (zt Z 61 q)] Z Q
      refine zw_run 1 (pc' := 116) (loc' := [some (.ref 63), none, some (.int q)]) (stk' := [.int 62, .int (zt Z 61 q)]) (fun _ _ _ => rfl) ?_
      have J8 : ∀ (v7 : Int32), v7 = (if ¬ (zt Z 61 q) = 62 then (-1) else (q + 1) : Int32) → zw fm sx (d + 2) 86 126 [some (.ref 63), none, some (.int q)] [.int v7] Z Q := by
        intro v7 ev7
        subst ev7
        refine zw_reti (i := .nop) rfl rfl ?_
        exact H
      refine zw_br (c := ¬ (zt Z 61 q) = 62) (t1 := 125) (t2 := 119) (loc' := [some (.ref 63), none, some (.int q)]) (stk' := []) (fun _ _ _ => rfl) (fun c6 => ?_) (fun c6 => ?_)
      · skip
        refine zw_run 1 (pc' := 126) (loc' := [some (.ref 63), none, some (.int q)]) (stk' := [.int (-1)]) (fun _ _ _ => rfl) ?_
        exact J8 _ (by first | (rw [if_pos c6]; done) | (clear H J8; simp_all [bI]; done))
      · skip
        refine zw_run 4 (pc' := 126) (loc' := [some (.ref 63), none, some (.int q)]) (stk' := [.int (q + 1)]) (fun _ _ _ => rfl) ?_
        exact J8 _ (by first | (rw [if_neg c6]; done) | (clear H J8; simp_all [bI]; done))
theorem l_86_75 {fm : Value} {sx : Nat × (Nat → Int32)} {d : Nat} {Q : Option Value → zr_Z → Prop} (p : Int32) : ∀ (n : Nat) (Z : zr_Z) (q : Int32), ((zs Z 61).toInt - q.toInt).toNat < n → Q (some (.int (g_86_75 n Z p q))) Z → zw fm sx (d + 2) 86 75 [some (.ref 63), none, some (.int q)] [] Z Q := by
  intro n
  induction n with
  | zero => intro Z q hn; exact absurd hn (Nat.not_lt_zero _)
  | succ n ih =>
    intro Z q hn HQ
    refine zw_most fun hm => b_86_75 p q ?_
    unfold g_86_75 at HQ
    by_cases c51 : (zs Z 61) ≤ q
    · rw [if_pos c51] at HQ ⊢
      exact HQ
    · rw [if_neg c51] at HQ ⊢
      by_cases c55 : (k_191 (zt Z 61 q)) = true
      · rw [if_pos c55] at HQ ⊢
        refine ih Z (q + 1) ?_ HQ
        have u0 := Int32.not_le.mp c51
        have u1 := i32_up (by decide) hm u0 1 (by decide)
        have u2 := i32_lt.mp u0
        have u3 : 1 ≤ (1 : Int32).toInt := (by decide)
        omega
      · rw [if_neg c55] at HQ ⊢
        exact HQ
/-- MarkInlines$Scan.addressEnd, its loop at 22 -/
def g_86_22 : Nat → zr_Z → Int32 → Int32 → Int32
  | 0, Z, _, _ => 0
  | n + 1, Z, p, q => (if (p + 32) < q then (if q = (p + 2) then (-1) else (if (zt Z 61 q) = 58 then g_86_75 (((zs Z 61).toInt - (q + 1 : Int32).toInt).toNat + 1) Z p (q + 1) else (-1))) else (if (k_201 (zt Z 61 q)) = true then g_86_22 n Z p (q + 1) else (if q = (p + 2) then (-1) else (if (zt Z 61 q) = 58 then g_86_75 (((zs Z 61).toInt - (q + 1 : Int32).toInt).toNat + 1) Z p (q + 1) else (-1)))))
set_option maxRecDepth 100000 in
set_option maxHeartbeats 2000000 in
theorem b_86_22 {fm : Value} {sx : Nat × (Nat → Int32)} {d : Nat} {Z : zr_Z} {Q : Option Value → zr_Z → Prop} (p : Int32) (q : Int32) (H : (if (p + 32) < q then (if q = (p + 2) then Q (some (.int (-1))) Z else (if (zt Z 61 q) = 58 then zw fm sx (d + 2) 86 75 [some (.ref 63), none, some (.int (q + 1))] [] Z Q else Q (some (.int (-1))) Z)) else (if (k_201 (zt Z 61 q)) = true then zw fm sx (d + 2) 86 22 [some (.ref 63), some (.int p), some (.int (q + 1))] [] Z Q else (if q = (p + 2) then Q (some (.int (-1))) Z else (if (zt Z 61 q) = 58 then zw fm sx (d + 2) 86 75 [some (.ref 63), none, some (.int (q + 1))] [] Z Q else Q (some (.int (-1))) Z))))) : zw fm sx (d + 2) 86 22 [some (.ref 63), some (.int p), some (.int q)] [] Z Q := by
  refine zw_run 4 (pc' := 27) (loc' := [some (.ref 63), some (.int p), some (.int q)]) (stk' := [.int (p + 32), .int q]) (fun _ _ _ => rfl) ?_
  refine zw_br (c := (p + 32) < q) (t1 := 50) (t2 := 30) (loc' := [some (.ref 63), some (.int p), some (.int q)]) (stk' := []) (fun _ _ _ => rfl) (fun c1 => ?_) (fun c1 => ?_)
  · rw [if_pos c1] at H
    refine zw_run 4 (pc' := 54) (loc' := [some (.ref 63), some (.int p), some (.int q)]) (stk' := [.int (p + 2), .int q]) (fun _ _ _ => rfl) ?_
    refine zw_br (c := q = (p + 2)) (t1 := 70) (t2 := 57) (loc' := [some (.ref 63), some (.int p), some (.int q)]) (stk' := []) (fun _ _ _ => rfl) (fun c2 => ?_) (fun c2 => ?_)
    · rw [if_pos c2] at H
      refine zw_run 1 (pc' := 71) (loc' := [some (.ref 63), some (.int p), some (.int q)]) (stk' := [.int (-1)]) (fun _ _ _ => rfl) ?_
      refine zw_reti (i := .nop) rfl rfl ?_
      exact H
    · rw [if_neg c2] at H
      refine zw_run 1 (pc' := 58) (loc' := [some (.ref 63), some (.int p), some (.int q)]) (stk' := [.ref 63]) (fun _ _ _ => rfl) ?_
      refine zw_get (v := .ref 61) rfl rfl rfl ?_
      refine zw_run 1 (pc' := 62) (loc' := [some (.ref 63), some (.int p), some (.int q)]) (stk' := [.int q, .ref 61]) (fun _ _ _ => rfl) ?_
      refine zw_callf (As := [.ref 61, .int q]) (rest := []) (c_row_at (id := 61) (by decide) q (d := d + 1)) rfl rfl rfl rfl ?_
      show zw fm sx (d + 2) 86 65 [some (.ref 63), some (.int p), some (.int q)] [.int (zt Z 61 q)] Z Q
      refine zw_run 1 (pc' := 67) (loc' := [some (.ref 63), some (.int p), some (.int q)]) (stk' := [.int 58, .int (zt Z 61 q)]) (fun _ _ _ => rfl) ?_
      refine zw_br (c := (zt Z 61 q) = 58) (t1 := 72) (t2 := 70) (loc' := [some (.ref 63), some (.int p), some (.int q)]) (stk' := []) (fun _ _ _ => rfl) (fun c3 => ?_) (fun c3 => ?_)
      · rw [if_pos c3] at H
        refine zw_run 1 (pc' := 75) (loc' := [some (.ref 63), some (.int p), some (.int (q + 1))]) (stk' := []) (fun _ _ _ => rfl) ?_
        refine zw_fgt [true, false, true] rfl ?_
        exact H
      · rw [if_neg c3] at H
        refine zw_run 1 (pc' := 71) (loc' := [some (.ref 63), some (.int p), some (.int q)]) (stk' := [.int (-1)]) (fun _ _ _ => rfl) ?_
        refine zw_reti (i := .nop) rfl rfl ?_
        exact H
  · rw [if_neg c1] at H
    refine zw_run 1 (pc' := 31) (loc' := [some (.ref 63), some (.int p), some (.int q)]) (stk' := [.ref 63]) (fun _ _ _ => rfl) ?_
    refine zw_get (v := .ref 61) rfl rfl rfl ?_
    refine zw_run 1 (pc' := 35) (loc' := [some (.ref 63), some (.int p), some (.int q)]) (stk' := [.int q, .ref 61]) (fun _ _ _ => rfl) ?_
    refine zw_callf (As := [.ref 61, .int q]) (rest := []) (c_row_at (id := 61) (by decide) q (d := d + 1)) rfl rfl rfl rfl ?_
    show zw fm sx (d + 2) 86 38 [some (.ref 63), some (.int p), some (.int q)] [.int (zt Z 61 q)] Z Q
    refine zw_callf (As := [.int (zt Z 61 q)]) (rest := []) (c_201 (zt Z 61 q) (d := d + 0)) rfl rfl rfl rfl ?_
    show zw fm sx (d + 2) 86 41 [some (.ref 63), some (.int p), some (.int q)] [.int (bI (k_201 (zt Z 61 q)))] Z Q
    refine zw_b0 (b := (k_201 (zt Z 61 q))) (t1 := 44) (t2 := 50) (loc' := [some (.ref 63), some (.int p), some (.int q)]) (stk' := []) (fun _ _ _ => rfl) (fun c4 => ?_) (fun c4 => ?_)
    · rw [if_pos c4] at H
      refine zw_run 2 (pc' := 22) (loc' := [some (.ref 63), some (.int p), some (.int (q + 1))]) (stk' := []) (fun _ _ _ => rfl) ?_
      exact H
    · rw [if_neg c4] at H
      refine zw_run 4 (pc' := 54) (loc' := [some (.ref 63), some (.int p), some (.int q)]) (stk' := [.int (p + 2), .int q]) (fun _ _ _ => rfl) ?_
      refine zw_br (c := q = (p + 2)) (t1 := 70) (t2 := 57) (loc' := [some (.ref 63), some (.int p), some (.int q)]) (stk' := []) (fun _ _ _ => rfl) (fun c5 => ?_) (fun c5 => ?_)
      · rw [if_pos c5] at H
        refine zw_run 1 (pc' := 71) (loc' := [some (.ref 63), some (.int p), some (.int q)]) (stk' := [.int (-1)]) (fun _ _ _ => rfl) ?_
        refine zw_reti (i := .nop) rfl rfl ?_
        exact H
      · rw [if_neg c5] at H
        refine zw_run 1 (pc' := 58) (loc' := [some (.ref 63), some (.int p), some (.int q)]) (stk' := [.ref 63]) (fun _ _ _ => rfl) ?_
        refine zw_get (v := .ref 61) rfl rfl rfl ?_
        refine zw_run 1 (pc' := 62) (loc' := [some (.ref 63), some (.int p), some (.int q)]) (stk' := [.int q, .ref 61]) (fun _ _ _ => rfl) ?_
        refine zw_callf (As := [.ref 61, .int q]) (rest := []) (c_row_at (id := 61) (by decide) q (d := d + 1)) rfl rfl rfl rfl ?_
        show zw fm sx (d + 2) 86 65 [some (.ref 63), some (.int p), some (.int q)] [.int (zt Z 61 q)] Z Q
        refine zw_run 1 (pc' := 67) (loc' := [some (.ref 63), some (.int p), some (.int q)]) (stk' := [.int 58, .int (zt Z 61 q)]) (fun _ _ _ => rfl) ?_
        refine zw_br (c := (zt Z 61 q) = 58) (t1 := 72) (t2 := 70) (loc' := [some (.ref 63), some (.int p), some (.int q)]) (stk' := []) (fun _ _ _ => rfl) (fun c6 => ?_) (fun c6 => ?_)
        · rw [if_pos c6] at H
          refine zw_run 1 (pc' := 75) (loc' := [some (.ref 63), some (.int p), some (.int (q + 1))]) (stk' := []) (fun _ _ _ => rfl) ?_
          refine zw_fgt [true, false, true] rfl ?_
          exact H
        · rw [if_neg c6] at H
          refine zw_run 1 (pc' := 71) (loc' := [some (.ref 63), some (.int p), some (.int q)]) (stk' := [.int (-1)]) (fun _ _ _ => rfl) ?_
          refine zw_reti (i := .nop) rfl rfl ?_
          exact H
theorem l_86_22 {fm : Value} {sx : Nat × (Nat → Int32)} {d : Nat} {Q : Option Value → zr_Z → Prop} (p : Int32) : ∀ (n : Nat) (Z : zr_Z) (q : Int32), ((zs Z 61).toInt - q.toInt).toNat < n → Q (some (.int (g_86_22 n Z p q))) Z → zw fm sx (d + 2) 86 22 [some (.ref 63), some (.int p), some (.int q)] [] Z Q := by
  intro n
  induction n with
  | zero => intro Z q hn; exact absurd hn (Nat.not_lt_zero _)
  | succ n ih =>
    intro Z q hn HQ
    refine zw_most fun hm => b_86_22 p q ?_
    unfold g_86_22 at HQ
    by_cases c51 : (p + 32) < q
    · rw [if_pos c51] at HQ ⊢
      by_cases c52 : q = (p + 2)
      · rw [if_pos c52] at HQ ⊢
        exact HQ
      · rw [if_neg c52] at HQ ⊢
        by_cases c53 : (zt Z 61 q) = 58
        · rw [if_pos c53] at HQ ⊢
          exact l_86_75 p _ _ _ (Nat.lt_succ_self _) HQ
        · rw [if_neg c53] at HQ ⊢
          exact HQ
    · rw [if_neg c51] at HQ ⊢
      by_cases c54 : (k_201 (zt Z 61 q)) = true
      · rw [if_pos c54] at HQ ⊢
        refine ih Z (q + 1) ?_ HQ
        have u0 := zt_lt (id := 61) (by decide) hm (fun e => by rw [e] at c54; revert c54; decide)
        have u1 := i32_up (by decide) hm u0 1 (by decide)
        have u2 := i32_lt.mp u0
        have u3 : 1 ≤ (1 : Int32).toInt := (by decide)
        omega
      · rw [if_neg c54] at HQ ⊢
        by_cases c55 : q = (p + 2)
        · rw [if_pos c55] at HQ ⊢
          exact HQ
        · rw [if_neg c55] at HQ ⊢
          by_cases c56 : (zt Z 61 q) = 58
          · rw [if_pos c56] at HQ ⊢
            exact l_86_75 p _ _ _ (Nat.lt_succ_self _) HQ
          · rw [if_neg c56] at HQ ⊢
            exact HQ
/-- MarkInlines$Scan.addressEnd -/
def f_86 (Z : zr_Z) (p : Int32) : Int32 := (if (k_196 (zt Z 61 (p + 1))) = true then g_86_22 (((zs Z 61).toInt - (p + 2 : Int32).toInt).toNat + 1) Z p (p + 2) else (-1))
set_option maxRecDepth 100000 in
set_option maxHeartbeats 1000000 in
theorem b_86 {fm : Value} {sx : Nat × (Nat → Int32)} {d : Nat} {Z : zr_Z} {Q : Option Value → zr_Z → Prop} (p : Int32) (H : (if (k_196 (zt Z 61 (p + 1))) = true then zw fm sx (d + 2) 86 22 [some (.ref 63), some (.int p), some (.int (p + 2))] [] Z Q else Q (some (.int (-1))) Z)) : zw fm sx (d + 2) 86 0 [some (.ref 63), some (.int p), none] [] Z Q := by
  refine zw_run 1 (pc' := 1) (loc' := [some (.ref 63), some (.int p), none]) (stk' := [.ref 63]) (fun _ _ _ => rfl) ?_
  refine zw_get (v := .ref 61) rfl rfl rfl ?_
  refine zw_run 3 (pc' := 7) (loc' := [some (.ref 63), some (.int p), none]) (stk' := [.int (p + 1), .ref 61]) (fun _ _ _ => rfl) ?_
  refine zw_callf (As := [.ref 61, .int (p + 1)]) (rest := []) (c_row_at (id := 61) (by decide) (p + 1) (d := d + 1)) rfl rfl rfl rfl ?_
  show zw fm sx (d + 2) 86 10 [some (.ref 63), some (.int p), none] [.int (zt Z 61 (p + 1))] Z Q
  refine zw_callf (As := [.int (zt Z 61 (p + 1))]) (rest := []) (c_196 (zt Z 61 (p + 1)) (d := d + 1)) rfl rfl rfl rfl ?_
  show zw fm sx (d + 2) 86 13 [some (.ref 63), some (.int p), none] [.int (bI (k_196 (zt Z 61 (p + 1))))] Z Q
  refine zw_b1 (b := (k_196 (zt Z 61 (p + 1)))) (t1 := 18) (t2 := 16) (loc' := [some (.ref 63), some (.int p), none]) (stk' := []) (fun _ _ _ => rfl) (fun c1 => ?_) (fun c1 => ?_)
  · rw [if_pos c1] at H
    refine zw_run 4 (pc' := 22) (loc' := [some (.ref 63), some (.int p), some (.int (p + 2))]) (stk' := []) (fun _ _ _ => rfl) ?_
    exact H
  · rw [if_neg c1] at H
    refine zw_run 1 (pc' := 17) (loc' := [some (.ref 63), some (.int p), none]) (stk' := [.int (-1)]) (fun _ _ _ => rfl) ?_
    refine zw_reti (i := .nop) rfl rfl ?_
    exact H
theorem t_86 {fm : Value} {sx : Nat × (Nat → Int32)} {d : Nat} {Z : zr_Z} {Q : Option Value → zr_Z → Prop} (p : Int32) (HQ : Q (some (.int (f_86 Z p))) Z) : zw fm sx (d + 2) 86 0 [some (.ref 63), some (.int p), none] [] Z Q := by
  refine b_86 p ?_
  unfold f_86 at HQ
  by_cases c1 : (k_196 (zt Z 61 (p + 1))) = true
  · rw [if_pos c1] at HQ ⊢
    exact l_86_22 p _ _ _ (Nat.lt_succ_self _) HQ
  · rw [if_neg c1] at HQ ⊢
    exact HQ
theorem c_86 {fm : Value} {sx : Nat × (Nat → Int32)} {d : Nat} {Z : zr_Z} (p : Int32) : zl fm sx (d + 3) 86 [.ref 63, .int p] Z (fun r Z' => r = some (.int (f_86 Z p)) ∧ Z' = Z) :=
  zl_of (nL := 3) (loc0 := [some (.ref 63), some (.int p), none]) rfl rfl rfl (t_86 p ⟨rfl, rfl⟩)
