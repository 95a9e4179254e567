/-! Definitions, Marks; walks written by wip/whole/gen_class.py -/
/-- MarkInlines$Definitions.count -/
def f_17 (Z : zr_Z)  : Int32 := (zs Z 85)
set_option maxRecDepth 100000 in
set_option maxHeartbeats 1000000 in
theorem b_17 {fm : Value} {sx : Nat × (Nat → Int32)} {d : Nat} {Z : zr_Z} {Q : Option Value → zr_Z → Prop}  (H : Q (some (.int (zs Z 85))) Z) : zw fm sx (d + 1) 17 0 [some (.ref 82)] [] Z Q := by
  refine zw_run 1 (pc' := 1) (loc' := [some (.ref 82)]) (stk' := [.ref 82]) (fun _ _ _ => rfl) ?_
  refine zw_get (v := .ref 85) rfl rfl rfl ?_
  refine zw_callf (As := [.ref 85]) (rest := []) (c_row_size (id := 85) (by decide) (d := d + 0)) rfl rfl rfl rfl ?_
  show zw fm sx (d + 1) 17 7 [some (.ref 82)] [.int (zs Z 85)] Z Q
  refine zw_reti (i := .nop) rfl rfl ?_
  exact H
theorem t_17 {fm : Value} {sx : Nat × (Nat → Int32)} {d : Nat} {Z : zr_Z} {Q : Option Value → zr_Z → Prop}  (HQ : Q (some (.int (f_17 Z))) Z) : zw fm sx (d + 1) 17 0 [some (.ref 82)] [] Z Q := by
  refine b_17 ?_
  unfold f_17 at HQ
  exact HQ
theorem c_17 {fm : Value} {sx : Nat × (Nat → Int32)} {d : Nat} {Z : zr_Z}  : zl fm sx (d + 2) 17 [.ref 82] Z (fun r Z' => r = some (.int (f_17 Z)) ∧ Z' = Z) :=
  zl_of (nL := 1) (loc0 := [some (.ref 82)]) rfl rfl rfl (t_17 ⟨rfl, rfl⟩)
/-- MarkInlines$Definitions.clear -/
def f_18 (Z : zr_Z)  : zr_Z := (zcut (zcut Z 83 0) 85 0)
set_option maxRecDepth 100000 in
set_option maxHeartbeats 1000000 in
theorem b_18 {fm : Value} {sx : Nat × (Nat → Int32)} {d : Nat} {Z : zr_Z} {Q : Option Value → zr_Z → Prop}  (H : Q none (zcut (zcut Z 83 0) 85 0)) : zw fm sx (d + 1) 18 0 [some (.ref 82)] [] Z Q := by
  refine zw_run 1 (pc' := 1) (loc' := [some (.ref 82)]) (stk' := [.ref 82]) (fun _ _ _ => rfl) ?_
  refine zw_get (v := .ref 83) rfl rfl rfl ?_
  refine zw_run 1 (pc' := 5) (loc' := [some (.ref 82)]) (stk' := [.int 0, .ref 83]) (fun _ _ _ => rfl) ?_
  refine zw_callf (As := [.ref 83, .int 0]) (rest := []) (c_row_cut (id := 83) (by decide) 0 (d := d + 0)) rfl rfl rfl rfl ?_
  show zw fm sx (d + 1) 18 8 [some (.ref 82)] [] (zcut Z 83 0) Q
  refine zw_run 1 (pc' := 9) (loc' := [some (.ref 82)]) (stk' := [.ref 82]) (fun _ _ _ => rfl) ?_
  refine zw_get (v := .ref 85) rfl rfl rfl ?_
  refine zw_run 1 (pc' := 13) (loc' := [some (.ref 82)]) (stk' := [.int 0, .ref 85]) (fun _ _ _ => rfl) ?_
  refine zw_callf (As := [.ref 85, .int 0]) (rest := []) (c_row_cut (id := 85) (by decide) 0 (d := d + 0)) rfl rfl rfl rfl ?_
  show zw fm sx (d + 1) 18 16 [some (.ref 82)] [] (zcut (zcut Z 83 0) 85 0) Q
  refine zw_retv rfl rfl ?_
  exact H
theorem t_18 {fm : Value} {sx : Nat × (Nat → Int32)} {d : Nat} {Z : zr_Z} {Q : Option Value → zr_Z → Prop}  (HQ : Q none (f_18 Z)) : zw fm sx (d + 1) 18 0 [some (.ref 82)] [] Z Q := by
  refine b_18 ?_
  unfold f_18 at HQ
  exact HQ
theorem c_18 {fm : Value} {sx : Nat × (Nat → Int32)} {d : Nat} {Z : zr_Z}  : zl fm sx (d + 2) 18 [.ref 82] Z (fun r Z' => r = none ∧ Z' = (f_18 Z)) :=
  zl_of (nL := 1) (loc0 := [some (.ref 82)]) rfl rfl rfl (t_18 ⟨rfl, rfl⟩)
/-- MarkInlines$Definitions.canBeLabel -/
def f_19 (Z : zr_Z)  : Bool := (f_97 Z 0 (zs Z 61))
set_option maxRecDepth 100000 in
set_option maxHeartbeats 1000000 in
theorem b_19 {fm : Value} {sx : Nat × (Nat → Int32)} {d : Nat} {Z : zr_Z} {Q : Option Value → zr_Z → Prop}  (H : Q (some (.int (bI (f_97 Z 0 (zs Z 61))))) Z) : zw fm sx (d + 3) 19 0 [some (.ref 82)] [] Z Q := by
  refine zw_run 1 (pc' := 1) (loc' := [some (.ref 82)]) (stk' := [.ref 82]) (fun _ _ _ => rfl) ?_
  refine zw_get (v := .ref 63) rfl rfl rfl ?_
  refine zw_run 2 (pc' := 6) (loc' := [some (.ref 82)]) (stk' := [.ref 82, .int 0, .ref 63]) (fun _ _ _ => rfl) ?_
  refine zw_get (v := .ref 61) rfl rfl rfl ?_
  refine zw_callf (As := [.ref 61]) (rest := [.int 0, .ref 63]) (c_row_size (id := 61) (by decide) (d := d + 2)) rfl rfl rfl rfl ?_
  show zw fm sx (d + 3) 19 12 [some (.ref 82)] [.int (zs Z 61), .int 0, .ref 63] Z Q
  refine zw_callf (As := [.ref 63, .int 0, .int (zs Z 61)]) (rest := []) (c_97 0 (zs Z 61) (d := d + 0)) rfl rfl rfl rfl ?_
  show zw fm sx (d + 3) 19 15 [some (.ref 82)] [.int (bI (f_97 Z 0 (zs Z 61)))] Z Q
  refine zw_retz rfl rfl (bI_01 _) ?_
  exact H
theorem t_19 {fm : Value} {sx : Nat × (Nat → Int32)} {d : Nat} {Z : zr_Z} {Q : Option Value → zr_Z → Prop}  (HQ : Q (some (.int (bI (f_19 Z)))) Z) : zw fm sx (d + 3) 19 0 [some (.ref 82)] [] Z Q := by
  refine b_19 ?_
  unfold f_19 at HQ
  exact HQ
theorem c_19 {fm : Value} {sx : Nat × (Nat → Int32)} {d : Nat} {Z : zr_Z}  : zl fm sx (d + 4) 19 [.ref 82] Z (fun r Z' => r = some (.int (bI (f_19 Z))) ∧ Z' = Z) :=
  zl_of (nL := 1) (loc0 := [some (.ref 82)]) rfl rfl rfl (t_19 ⟨rfl, rfl⟩)
/-- MarkInlines$Definitions.wantNormal, its loop at 13 -/
def g_22_13 : Nat → zr_Z → Int32 → Int32 → Int32 → Int32 → zr_Z
  | 0, Z, _, _, _, _ => Z
  | n + 1, Z, a, b, wh, q => (if b ≤ q then Z else (if (k_194 (zt Z 61 q)) = true then g_22_13 n Z a b 1 (q + 1) else (if wh = 0 then g_22_13 n (zadd Z 87 (k_192 (zt Z 61 q))) a b 0 (q + 1) else (if (zs Z 87) ≤ 0 then g_22_13 n (zadd Z 87 (k_192 (zt Z 61 q))) a b 0 (q + 1) else g_22_13 n (zadd (zadd Z 87 32) 87 (k_192 (zt Z 61 q))) a b 0 (q + 1)))))
set_option maxRecDepth 100000 in
set_option maxHeartbeats 2000000 in
theorem b_22_13 {fm : Value} {sx : Nat × (Nat → Int32)} {d : Nat} {Z : zr_Z} {Q : Option Value → zr_Z → Prop} (a : Int32) (b : Int32) (wh : Int32) (q : Int32) (H : (if b ≤ q then Q none Z else (if (k_194 (zt Z 61 q)) = true then zw fm sx (d + 2) 22 13 [some (.ref 82), none, some (.int b), some (.int 1), some (.int (q + 1)), none] [] Z Q else (if wh = 0 then zw fm sx (d + 2) 22 13 [some (.ref 82), none, some (.int b), some (.int 0), some (.int (q + 1)), none] [] (zadd Z 87 (k_192 (zt Z 61 q))) Q else (if (zs Z 87) ≤ 0 then zw fm sx (d + 2) 22 13 [some (.ref 82), none, some (.int b), some (.int 0), some (.int (q + 1)), none] [] (zadd Z 87 (k_192 (zt Z 61 q))) Q else zw fm sx (d + 2) 22 13 [some (.ref 82), none, some (.int b), some (.int 0), some (.int (q + 1)), none] [] (zadd (zadd Z 87 32) 87 (k_192 (zt Z 61 q))) Q))))) : zw fm sx (d + 2) 22 13 [some (.ref 82), none, some (.int b), some (.int wh), some (.int q), none] [] Z Q := by
  refine zw_run 2 (pc' := 16) (loc' := [some (.ref 82), none, some (.int b), some (.int wh), some (.int q), none]) (stk' := [.int b, .int q]) (fun _ _ _ => rfl) ?_
  refine zw_br (c := b ≤ q) (t1 := 86) (t2 := 19) (loc' := [some (.ref 82), none, some (.int b), some (.int wh), some (.int q), none]) (stk' := []) (fun _ _ _ => rfl) (fun c1 => ?_) (fun c1 => ?_)
  · rw [if_pos c1] at H
    refine zw_retv rfl rfl ?_
    exact H
  · rw [if_neg c1] at H
    refine zw_run 1 (pc' := 20) (loc' := [some (.ref 82), none, some (.int b), some (.int wh), some (.int q), none]) (stk' := [.ref 82]) (fun _ _ _ => rfl) ?_
    refine zw_get (v := .ref 61) rfl rfl rfl ?_
    refine zw_run 1 (pc' := 25) (loc' := [some (.ref 82), none, some (.int b), some (.int wh), some (.int q), none]) (stk' := [.int q, .ref 61]) (fun _ _ _ => rfl) ?_
    refine zw_callf (As := [.ref 61, .int q]) (rest := []) (c_row_at (id := 61) (by decide) q (d := d + 1)) rfl rfl rfl rfl ?_
    show zw fm sx (d + 2) 22 28 [some (.ref 82), none, some (.int b), some (.int wh), some (.int q), none] [.int (zt Z 61 q)] Z Q
    refine zw_run 2 (pc' := 32) (loc' := [some (.ref 82), none, some (.int b), some (.int wh), some (.int q), some (.int (zt Z 61 q))]) (stk' := [.int (zt Z 61 q)]) (fun _ _ _ => rfl) ?_
    refine zw_callf (As := [.int (zt Z 61 q)]) (rest := []) (c_194 (zt Z 61 q) (d := d + 1)) rfl rfl rfl rfl ?_
    show zw fm sx (d + 2) 22 35 [some (.ref 82), none, some (.int b), some (.int wh), some (.int q), some (.int (zt Z 61 q))] [.int (bI (k_194 (zt Z 61 q)))] Z Q
    refine zw_b0 (b := (k_194 (zt Z 61 q))) (t1 := 38) (t2 := 43) (loc' := [some (.ref 82), none, some (.int b), some (.int wh), some (.int q), some (.int (zt Z 61 q))]) (stk' := []) (fun _ _ _ => rfl) (fun c2 => ?_) (fun c2 => ?_)
    · rw [if_pos c2] at H
      refine zw_run 5 (pc' := 13) (loc' := [some (.ref 82), none, some (.int b), some (.int 1), some (.int (q + 1)), some (.int (zt Z 61 q))]) (stk' := []) (fun _ _ _ => rfl) ?_
      refine zw_fgt [true, false, true, true, true, false] rfl ?_
      exact H
    · rw [if_neg c2] at H
      refine zw_run 1 (pc' := 44) (loc' := [some (.ref 82), none, some (.int b), some (.int wh), some (.int q), some (.int (zt Z 61 q))]) (stk' := [.int wh]) (fun _ _ _ => rfl) ?_
      refine zw_br (c := wh = 0) (t1 := 66) (t2 := 47) (loc' := [some (.ref 82), none, some (.int b), some (.int wh), some (.int q), some (.int (zt Z 61 q))]) (stk' := []) (fun _ _ _ => rfl) (fun c3 => ?_) (fun c3 => ?_)
      · rw [if_pos c3] at H
        refine zw_run 1 (pc' := 67) (loc' := [some (.ref 82), none, some (.int b), some (.int wh), some (.int q), some (.int (zt Z 61 q))]) (stk' := [.ref 82]) (fun _ _ _ => rfl) ?_
        refine zw_get (v := .ref 87) rfl rfl rfl ?_
        refine zw_run 1 (pc' := 72) (loc' := [some (.ref 82), none, some (.int b), some (.int wh), some (.int q), some (.int (zt Z 61 q))]) (stk' := [.int (zt Z 61 q), .ref 87]) (fun _ _ _ => rfl) ?_
        refine zw_callf (As := [.int (zt Z 61 q)]) (rest := [.ref 87]) (c_192 (zt Z 61 q) (d := d + 1)) rfl rfl rfl rfl ?_
        show zw fm sx (d + 2) 22 75 [some (.ref 82), none, some (.int b), some (.int wh), some (.int q), some (.int (zt Z 61 q))] [.int (k_192 (zt Z 61 q)), .ref 87] Z Q
        refine zw_callf (As := [.ref 87, .int (k_192 (zt Z 61 q))]) (rest := []) (c_row_add (id := 87) (by decide) (k_192 (zt Z 61 q)) (d := d + 0)) rfl rfl rfl rfl ?_
        show zw fm sx (d + 2) 22 78 [some (.ref 82), none, some (.int b), some (.int wh), some (.int q), some (.int (zt Z 61 q))] [] (zadd Z 87 (k_192 (zt Z 61 q))) Q
        refine zw_run 4 (pc' := 13) (loc' := [some (.ref 82), none, some (.int b), some (.int 0), some (.int (q + 1)), some (.int (zt Z 61 q))]) (stk' := []) (fun _ _ _ => rfl) ?_
        refine zw_fgt [true, false, true, true, true, false] rfl ?_
        exact H
      · rw [if_neg c3] at H
        refine zw_run 1 (pc' := 48) (loc' := [some (.ref 82), none, some (.int b), some (.int wh), some (.int q), some (.int (zt Z 61 q))]) (stk' := [.ref 82]) (fun _ _ _ => rfl) ?_
        refine zw_get (v := .ref 87) rfl rfl rfl ?_
        refine zw_callf (As := [.ref 87]) (rest := []) (c_row_size (id := 87) (by decide) (d := d + 1)) rfl rfl rfl rfl ?_
        show zw fm sx (d + 2) 22 54 [some (.ref 82), none, some (.int b), some (.int wh), some (.int q), some (.int (zt Z 61 q))] [.int (zs Z 87)] Z Q
        refine zw_br (c := (zs Z 87) ≤ 0) (t1 := 66) (t2 := 57) (loc' := [some (.ref 82), none, some (.int b), some (.int wh), some (.int q), some (.int (zt Z 61 q))]) (stk' := []) (fun _ _ _ => rfl) (fun c4 => ?_) (fun c4 => ?_)
        · rw [if_pos c4] at H
          refine zw_run 1 (pc' := 67) (loc' := [some (.ref 82), none, some (.int b), some (.int wh), some (.int q), some (.int (zt Z 61 q))]) (stk' := [.ref 82]) (fun _ _ _ => rfl) ?_
          refine zw_get (v := .ref 87) rfl rfl rfl ?_
          refine zw_run 1 (pc' := 72) (loc' := [some (.ref 82), none, some (.int b), some (.int wh), some (.int q), some (.int (zt Z 61 q))]) (stk' := [.int (zt Z 61 q), .ref 87]) (fun _ _ _ => rfl) ?_
          refine zw_callf (As := [.int (zt Z 61 q)]) (rest := [.ref 87]) (c_192 (zt Z 61 q) (d := d + 1)) rfl rfl rfl rfl ?_
          show zw fm sx (d + 2) 22 75 [some (.ref 82), none, some (.int b), some (.int wh), some (.int q), some (.int (zt Z 61 q))] [.int (k_192 (zt Z 61 q)), .ref 87] Z Q
          refine zw_callf (As := [.ref 87, .int (k_192 (zt Z 61 q))]) (rest := []) (c_row_add (id := 87) (by decide) (k_192 (zt Z 61 q)) (d := d + 0)) rfl rfl rfl rfl ?_
          show zw fm sx (d + 2) 22 78 [some (.ref 82), none, some (.int b), some (.int wh), some (.int q), some (.int (zt Z 61 q))] [] (zadd Z 87 (k_192 (zt Z 61 q))) Q
          refine zw_run 4 (pc' := 13) (loc' := [some (.ref 82), none, some (.int b), some (.int 0), some (.int (q + 1)), some (.int (zt Z 61 q))]) (stk' := []) (fun _ _ _ => rfl) ?_
          refine zw_fgt [true, false, true, true, true, false] rfl ?_
          exact H
        · rw [if_neg c4] at H
          refine zw_run 1 (pc' := 58) (loc' := [some (.ref 82), none, some (.int b), some (.int wh), some (.int q), some (.int (zt Z 61 q))]) (stk' := [.ref 82]) (fun _ _ _ => rfl) ?_
          refine zw_get (v := .ref 87) rfl rfl rfl ?_
          refine zw_run 1 (pc' := 63) (loc' := [some (.ref 82), none, some (.int b), some (.int wh), some (.int q), some (.int (zt Z 61 q))]) (stk' := [.int 32, .ref 87]) (fun _ _ _ => rfl) ?_
          refine zw_callf (As := [.ref 87, .int 32]) (rest := []) (c_row_add (id := 87) (by decide) 32 (d := d + 0)) rfl rfl rfl rfl ?_
          show zw fm sx (d + 2) 22 66 [some (.ref 82), none, some (.int b), some (.int wh), some (.int q), some (.int (zt Z 61 q))] [] (zadd Z 87 32) Q
          refine zw_run 1 (pc' := 67) (loc' := [some (.ref 82), none, some (.int b), some (.int wh), some (.int q), some (.int (zt Z 61 q))]) (stk' := [.ref 82]) (fun _ _ _ => rfl) ?_
          refine zw_get (v := .ref 87) rfl rfl rfl ?_
          refine zw_run 1 (pc' := 72) (loc' := [some (.ref 82), none, some (.int b), some (.int wh), some (.int q), some (.int (zt Z 61 q))]) (stk' := [.int (zt Z 61 q), .ref 87]) (fun _ _ _ => rfl) ?_
          refine zw_callf (As := [.int (zt Z 61 q)]) (rest := [.ref 87]) (c_192 (zt Z 61 q) (d := d + 1)) rfl rfl rfl rfl ?_
          show zw fm sx (d + 2) 22 75 [some (.ref 82), none, some (.int b), some (.int wh), some (.int q), some (.int (zt Z 61 q))] [.int (k_192 (zt Z 61 q)), .ref 87] (zadd Z 87 32) Q
          refine zw_callf (As := [.ref 87, .int (k_192 (zt Z 61 q))]) (rest := []) (c_row_add (id := 87) (by decide) (k_192 (zt Z 61 q)) (d := d + 0)) rfl rfl rfl rfl ?_
          show zw fm sx (d + 2) 22 78 [some (.ref 82), none, some (.int b), some (.int wh), some (.int q), some (.int (zt Z 61 q))] [] (zadd (zadd Z 87 32) 87 (k_192 (zt Z 61 q))) Q
          refine zw_run 4 (pc' := 13) (loc' := [some (.ref 82), none, some (.int b), some (.int 0), some (.int (q + 1)), some (.int (zt Z 61 q))]) (stk' := []) (fun _ _ _ => rfl) ?_
          refine zw_fgt [true, false, true, true, true, false] rfl ?_
          exact H
theorem l_22_13 {fm : Value} {sx : Nat × (Nat → Int32)} {d : Nat} {Q : Option Value → zr_Z → Prop} (a : Int32) (b : Int32) : ∀ (n : Nat) (Z : zr_Z) (wh : Int32) (q : Int32), (b.toInt - q.toInt).toNat < n → Q none (g_22_13 n Z a b wh q) → zw fm sx (d + 2) 22 13 [some (.ref 82), none, some (.int b), some (.int wh), some (.int q), none] [] Z Q := by
  intro n
  induction n with
  | zero => intro Z wh q hn; exact absurd hn (Nat.not_lt_zero _)
  | succ n ih =>
    intro Z wh q hn HQ
    refine zw_most fun hm => b_22_13 a b wh q ?_
    unfold g_22_13 at HQ
    by_cases c51 : b ≤ q
    · rw [if_pos c51] at HQ ⊢
      exact HQ
    · rw [if_neg c51] at HQ ⊢
      by_cases c52 : (k_194 (zt Z 61 q)) = true
      · rw [if_pos c52] at HQ ⊢
        refine ih Z 1 (q + 1) ?_ HQ
        have u0 := i32_lt.mp (Int32.not_le.mp c51)
        have u1 := i32_rng b
        have u2 : (1 : Int32).toInt = 1 := (by decide)
        have u3 := i32_add (q := q) (k := 1) (by have := i32_rng q; omega) (by omega)
        omega
      · rw [if_neg c52] at HQ ⊢
        by_cases c53 : wh = 0
        · rw [if_pos c53] at HQ ⊢
          refine ih (zadd Z 87 (k_192 (zt Z 61 q))) 0 (q + 1) ?_ HQ
          have u0 := i32_lt.mp (Int32.not_le.mp c51)
          have u1 := i32_rng b
          have u2 : (1 : Int32).toInt = 1 := (by decide)
          have u3 := i32_add (q := q) (k := 1) (by have := i32_rng q; omega) (by omega)
          omega
        · rw [if_neg c53] at HQ ⊢
          by_cases c54 : (zs Z 87) ≤ 0
          · rw [if_pos c54] at HQ ⊢
            refine ih (zadd Z 87 (k_192 (zt Z 61 q))) 0 (q + 1) ?_ HQ
            have u0 := i32_lt.mp (Int32.not_le.mp c51)
            have u1 := i32_rng b
            have u2 : (1 : Int32).toInt = 1 := (by decide)
            have u3 := i32_add (q := q) (k := 1) (by have := i32_rng q; omega) (by omega)
            omega
          · rw [if_neg c54] at HQ ⊢
            refine ih (zadd (zadd Z 87 32) 87 (k_192 (zt Z 61 q))) 0 (q + 1) ?_ HQ
            have u0 := i32_lt.mp (Int32.not_le.mp c51)
            have u1 := i32_rng b
            have u2 : (1 : Int32).toInt = 1 := (by decide)
            have u3 := i32_add (q := q) (k := 1) (by have := i32_rng q; omega) (by omega)
            omega
/-- MarkInlines$Definitions.wantNormal -/
def f_22 (Z : zr_Z) (a : Int32) (b : Int32) : zr_Z := g_22_13 ((b.toInt - (a : Int32).toInt).toNat + 1) (zcut Z 87 0) a b 0 a
set_option maxRecDepth 100000 in
set_option maxHeartbeats 1000000 in
theorem b_22 {fm : Value} {sx : Nat × (Nat → Int32)} {d : Nat} {Z : zr_Z} {Q : Option Value → zr_Z → Prop} (a : Int32) (b : Int32) (H : zw fm sx (d + 2) 22 13 [some (.ref 82), none, some (.int b), some (.int 0), some (.int a), none] [] (zcut Z 87 0) Q) : zw fm sx (d + 2) 22 0 [some (.ref 82), some (.int a), some (.int b), none, none, none] [] Z Q := by
  refine zw_run 1 (pc' := 1) (loc' := [some (.ref 82), some (.int a), some (.int b), none, none, none]) (stk' := [.ref 82]) (fun _ _ _ => rfl) ?_
  refine zw_get (v := .ref 87) rfl rfl rfl ?_
  refine zw_run 1 (pc' := 5) (loc' := [some (.ref 82), some (.int a), some (.int b), none, none, none]) (stk' := [.int 0, .ref 87]) (fun _ _ _ => rfl) ?_
  refine zw_callf (As := [.ref 87, .int 0]) (rest := []) (c_row_cut (id := 87) (by decide) 0 (d := d + 1)) rfl rfl rfl rfl ?_
  show zw fm sx (d + 2) 22 8 [some (.ref 82), some (.int a), some (.int b), none, none, none] [] (zcut Z 87 0) Q
  refine zw_run 4 (pc' := 13) (loc' := [some (.ref 82), some (.int a), some (.int b), some (.int 0), some (.int a), none]) (stk' := []) (fun _ _ _ => rfl) ?_
  refine zw_fgt [true, false, true, true, true, false] rfl ?_
  exact H
theorem t_22 {fm : Value} {sx : Nat × (Nat → Int32)} {d : Nat} {Z : zr_Z} {Q : Option Value → zr_Z → Prop} (a : Int32) (b : Int32) (HQ : Q none (f_22 Z a b)) : zw fm sx (d + 2) 22 0 [some (.ref 82), some (.int a), some (.int b), none, none, none] [] Z Q := by
  refine b_22 a b ?_
  unfold f_22 at HQ
  exact l_22_13 a b _ _ _ _ (Nat.lt_succ_self _) HQ
theorem c_22 {fm : Value} {sx : Nat × (Nat → Int32)} {d : Nat} {Z : zr_Z} (a : Int32) (b : Int32) : zl fm sx (d + 3) 22 [.ref 82, .int a, .int b] Z (fun r Z' => r = none ∧ Z' = (f_22 Z a b)) :=
  zl_of (nL := 6) (loc0 := [some (.ref 82), some (.int a), some (.int b), none, none, none]) rfl rfl rfl (t_22 a b ⟨rfl, rfl⟩)
/-- MarkInlines$Definitions.isWanted, its loop at 17 -/
def g_23_17 : Nat → zr_Z → Int32 → Int32 → Int32 → Bool
  | 0, Z, _, _, _ => false
  | n + 1, Z, a, b, i => (if (zs Z 87) ≤ i then true else (if (zt Z 83 (a + i)) = (zt Z 87 i) then g_23_17 n Z a b (i + 1) else false))
set_option maxRecDepth 100000 in
set_option maxHeartbeats 2000000 in
theorem b_23_17 {fm : Value} {sx : Nat × (Nat → Int32)} {d : Nat} {Z : zr_Z} {Q : Option Value → zr_Z → Prop} (a : Int32) (b : Int32) (i : Int32) (H : (if (zs Z 87) ≤ i then Q (some (.int 1)) Z else (if (zt Z 83 (a + i)) = (zt Z 87 i) then zw fm sx (d + 1) 23 17 [some (.ref 82), some (.int a), none, some (.int (i + 1))] [] Z Q else Q (some (.int 0)) Z))) : zw fm sx (d + 1) 23 17 [some (.ref 82), some (.int a), none, some (.int i)] [] Z Q := by
  refine zw_run 2 (pc' := 19) (loc' := [some (.ref 82), some (.int a), none, some (.int i)]) (stk' := [.ref 82, .int i]) (fun _ _ _ => rfl) ?_
  refine zw_get (v := .ref 87) rfl rfl rfl ?_
  refine zw_callf (As := [.ref 87]) (rest := [.int i]) (c_row_size (id := 87) (by decide) (d := d + 0)) rfl rfl rfl rfl ?_
  show zw fm sx (d + 1) 23 25 [some (.ref 82), some (.int a), none, some (.int i)] [.int (zs Z 87), .int i] Z Q
  refine zw_br (c := (zs Z 87) ≤ i) (t1 := 57) (t2 := 28) (loc' := [some (.ref 82), some (.int a), none, some (.int i)]) (stk' := []) (fun _ _ _ => rfl) (fun c1 => ?_) (fun c1 => ?_)
  · rw [if_pos c1] at H
    refine zw_run 1 (pc' := 58) (loc' := [some (.ref 82), some (.int a), none, some (.int i)]) (stk' := [.int 1]) (fun _ _ _ => rfl) ?_
    refine zw_retz rfl rfl (Or.inr rfl) ?_
    exact H
  · rw [if_neg c1] at H
    refine zw_run 1 (pc' := 29) (loc' := [some (.ref 82), some (.int a), none, some (.int i)]) (stk' := [.ref 82]) (fun _ _ _ => rfl) ?_
    refine zw_get (v := .ref 83) rfl rfl rfl ?_
    refine zw_run 3 (pc' := 35) (loc' := [some (.ref 82), some (.int a), none, some (.int i)]) (stk' := [.int (a + i), .ref 83]) (fun _ _ _ => rfl) ?_
    refine zw_callf (As := [.ref 83, .int (a + i)]) (rest := []) (c_row_at (id := 83) (by decide) (a + i) (d := d + 0)) rfl rfl rfl rfl ?_
    show zw fm sx (d + 1) 23 38 [some (.ref 82), some (.int a), none, some (.int i)] [.int (zt Z 83 (a + i))] Z Q
    refine zw_run 1 (pc' := 39) (loc' := [some (.ref 82), some (.int a), none, some (.int i)]) (stk' := [.ref 82, .int (zt Z 83 (a + i))]) (fun _ _ _ => rfl) ?_
    refine zw_get (v := .ref 87) rfl rfl rfl ?_
    refine zw_run 1 (pc' := 43) (loc' := [some (.ref 82), some (.int a), none, some (.int i)]) (stk' := [.int i, .ref 87, .int (zt Z 83 (a + i))]) (fun _ _ _ => rfl) ?_
    refine zw_callf (As := [.ref 87, .int i]) (rest := [.int (zt Z 83 (a + i))]) (c_row_at (id := 87) (by decide) i (d := d + 0)) rfl rfl rfl rfl ?_
    show zw fm sx (d + 1) 23 46 [some (.ref 82), some (.int a), none, some (.int i)] [.int (zt Z 87 i), .int (zt Z 83 (a + i))] Z Q
    refine zw_br (c := (zt Z 83 (a + i)) = (zt Z 87 i)) (t1 := 51) (t2 := 49) (loc' := [some (.ref 82), some (.int a), none, some (.int i)]) (stk' := []) (fun _ _ _ => rfl) (fun c2 => ?_) (fun c2 => ?_)
    · rw [if_pos c2] at H
      refine zw_run 2 (pc' := 17) (loc' := [some (.ref 82), some (.int a), none, some (.int (i + 1))]) (stk' := []) (fun _ _ _ => rfl) ?_
      exact H
    · rw [if_neg c2] at H
      refine zw_run 1 (pc' := 50) (loc' := [some (.ref 82), some (.int a), none, some (.int i)]) (stk' := [.int 0]) (fun _ _ _ => rfl) ?_
      refine zw_retz rfl rfl (Or.inl rfl) ?_
      exact H
theorem l_23_17 {fm : Value} {sx : Nat × (Nat → Int32)} {d : Nat} {Q : Option Value → zr_Z → Prop} (a : Int32) (b : Int32) : ∀ (n : Nat) (Z : zr_Z) (i : Int32), ((zs Z 87).toInt - i.toInt).toNat < n → Q (some (.int (bI (g_23_17 n Z a b i)))) Z → zw fm sx (d + 1) 23 17 [some (.ref 82), some (.int a), none, some (.int i)] [] Z Q := by
  intro n
  induction n with
  | zero => intro Z i hn; exact absurd hn (Nat.not_lt_zero _)
  | succ n ih =>
    intro Z i hn HQ
    refine zw_most fun hm => b_23_17 a b i ?_
    unfold g_23_17 at HQ
    by_cases c51 : (zs Z 87) ≤ i
    · rw [if_pos c51] at HQ ⊢
      exact HQ
    · rw [if_neg c51] at HQ ⊢
      by_cases c52 : (zt Z 83 (a + i)) = (zt Z 87 i)
      · rw [if_pos c52] at HQ ⊢
        refine ih Z (i + 1) ?_ HQ
        have u0 := Int32.not_le.mp c51
        have u1 := i32_up (by decide) hm u0 1 (by decide)
        have u2 := i32_lt.mp u0
        have u3 : 1 ≤ (1 : Int32).toInt := (by decide)
        omega
      · rw [if_neg c52] at HQ ⊢
        exact HQ
/-- MarkInlines$Definitions.isWanted -/
def f_23 (Z : zr_Z) (a : Int32) (b : Int32) : Bool := (if (b - a) = (zs Z 87) then g_23_17 (((zs Z 87).toInt - (0 : Int32).toInt).toNat + 1) Z a b 0 else false)
set_option maxRecDepth 100000 in
set_option maxHeartbeats 1000000 in
theorem b_23 {fm : Value} {sx : Nat × (Nat → Int32)} {d : Nat} {Z : zr_Z} {Q : Option Value → zr_Z → Prop} (a : Int32) (b : Int32) (H : (if (b - a) = (zs Z 87) then zw fm sx (d + 1) 23 17 [some (.ref 82), some (.int a), none, some (.int 0)] [] Z Q else Q (some (.int 0)) Z)) : zw fm sx (d + 1) 23 0 [some (.ref 82), some (.int a), some (.int b), none] [] Z Q := by
  refine zw_run 4 (pc' := 4) (loc' := [some (.ref 82), some (.int a), some (.int b), none]) (stk' := [.ref 82, .int (b - a)]) (fun _ _ _ => rfl) ?_
  refine zw_get (v := .ref 87) rfl rfl rfl ?_
  refine zw_callf (As := [.ref 87]) (rest := [.int (b - a)]) (c_row_size (id := 87) (by decide) (d := d + 0)) rfl rfl rfl rfl ?_
  show zw fm sx (d + 1) 23 10 [some (.ref 82), some (.int a), some (.int b), none] [.int (zs Z 87), .int (b - a)] Z Q
  refine zw_br (c := (b - a) = (zs Z 87)) (t1 := 15) (t2 := 13) (loc' := [some (.ref 82), some (.int a), some (.int b), none]) (stk' := []) (fun _ _ _ => rfl) (fun c1 => ?_) (fun c1 => ?_)
  · rw [if_pos c1] at H
    refine zw_run 2 (pc' := 17) (loc' := [some (.ref 82), some (.int a), some (.int b), some (.int 0)]) (stk' := []) (fun _ _ _ => rfl) ?_
    refine zw_fgt [true, true, false, true] rfl ?_
    exact H
  · rw [if_neg c1] at H
    refine zw_run 1 (pc' := 14) (loc' := [some (.ref 82), some (.int a), some (.int b), none]) (stk' := [.int 0]) (fun _ _ _ => rfl) ?_
    refine zw_retz rfl rfl (Or.inl rfl) ?_
    exact H
theorem t_23 {fm : Value} {sx : Nat × (Nat → Int32)} {d : Nat} {Z : zr_Z} {Q : Option Value → zr_Z → Prop} (a : Int32) (b : Int32) (HQ : Q (some (.int (bI (f_23 Z a b)))) Z) : zw fm sx (d + 1) 23 0 [some (.ref 82), some (.int a), some (.int b), none] [] Z Q := by
  refine b_23 a b ?_
  unfold f_23 at HQ
  by_cases c1 : (b - a) = (zs Z 87)
  · rw [if_pos c1] at HQ ⊢
    exact l_23_17 a b _ _ _ (Nat.lt_succ_self _) HQ
  · rw [if_neg c1] at HQ ⊢
    exact HQ
theorem c_23 {fm : Value} {sx : Nat × (Nat → Int32)} {d : Nat} {Z : zr_Z} (a : Int32) (b : Int32) : zl fm sx (d + 2) 23 [.ref 82, .int a, .int b] Z (fun r Z' => r = some (.int (bI (f_23 Z a b))) ∧ Z' = Z) :=
  zl_of (nL := 4) (loc0 := [some (.ref 82), some (.int a), some (.int b), none]) rfl rfl rfl (t_23 a b ⟨rfl, rfl⟩)
/-- MarkInlines$Definitions.numberOf, its loop at 11 -/
def g_20_11 : Nat → zr_Z → Int32 → Int32 → Int32 → Int32 → Int32 × zr_Z
  | 0, Z, _, _, _, _ => (0, Z)
  | n + 1, Z, a, b, bg, k => (if (zs Z 85) ≤ k then ((-1), Z) else (if (f_23 Z bg (zt Z 85 k)) = true then (k, Z) else g_20_11 n Z a b (zt Z 85 k) (k + 1)))
set_option maxRecDepth 100000 in
set_option maxHeartbeats 2000000 in
theorem b_20_11 {fm : Value} {sx : Nat × (Nat → Int32)} {d : Nat} {Z : zr_Z} {Q : Option Value → zr_Z → Prop} (a : Int32) (b : Int32) (bg : Int32) (k : Int32) (H : (if (zs Z 85) ≤ k then Q (some (.int (-1))) Z else (if (f_23 Z bg (zt Z 85 k)) = true then Q (some (.int k)) Z else zw fm sx (d + 3) 20 11 [some (.ref 82), none, none, some (.int (zt Z 85 k)), some (.int (k + 1))] [] Z Q))) : zw fm sx (d + 3) 20 11 [some (.ref 82), none, none, some (.int bg), some (.int k)] [] Z Q := by
  refine zw_run 2 (pc' := 14) (loc' := [some (.ref 82), none, none, some (.int bg), some (.int k)]) (stk' := [.ref 82, .int k]) (fun _ _ _ => rfl) ?_
  refine zw_get (v := .ref 85) rfl rfl rfl ?_
  refine zw_callf (As := [.ref 85]) (rest := [.int k]) (c_row_size (id := 85) (by decide) (d := d + 2)) rfl rfl rfl rfl ?_
  show zw fm sx (d + 3) 20 20 [some (.ref 82), none, none, some (.int bg), some (.int k)] [.int (zs Z 85), .int k] Z Q
  refine zw_br (c := (zs Z 85) ≤ k) (t1 := 59) (t2 := 23) (loc' := [some (.ref 82), none, none, some (.int bg), some (.int k)]) (stk' := []) (fun _ _ _ => rfl) (fun c1 => ?_) (fun c1 => ?_)
  · rw [if_pos c1] at H
    refine zw_run 1 (pc' := 60) (loc' := [some (.ref 82), none, none, some (.int bg), some (.int k)]) (stk' := [.int (-1)]) (fun _ _ _ => rfl) ?_
    refine zw_reti (i := .nop) rfl rfl ?_
    exact H
  · rw [if_neg c1] at H
    refine zw_run 3 (pc' := 26) (loc' := [some (.ref 82), none, none, some (.int bg), some (.int k)]) (stk' := [.ref 82, .int bg, .ref 82]) (fun _ _ _ => rfl) ?_
    refine zw_get (v := .ref 85) rfl rfl rfl ?_
    refine zw_run 1 (pc' := 31) (loc' := [some (.ref 82), none, none, some (.int bg), some (.int k)]) (stk' := [.int k, .ref 85, .int bg, .ref 82]) (fun _ _ _ => rfl) ?_
    refine zw_callf (As := [.ref 85, .int k]) (rest := [.int bg, .ref 82]) (c_row_at (id := 85) (by decide) k (d := d + 2)) rfl rfl rfl rfl ?_
    show zw fm sx (d + 3) 20 34 [some (.ref 82), none, none, some (.int bg), some (.int k)] [.int (zt Z 85 k), .int bg, .ref 82] Z Q
    refine zw_callf (As := [.ref 82, .int bg, .int (zt Z 85 k)]) (rest := []) (c_23 bg (zt Z 85 k) (d := d + 1)) rfl rfl rfl rfl ?_
    show zw fm sx (d + 3) 20 37 [some (.ref 82), none, none, some (.int bg), some (.int k)] [.int (bI (f_23 Z bg (zt Z 85 k)))] Z Q
    refine zw_b0 (b := (f_23 Z bg (zt Z 85 k))) (t1 := 40) (t2 := 43) (loc' := [some (.ref 82), none, none, some (.int bg), some (.int k)]) (stk' := []) (fun _ _ _ => rfl) (fun c2 => ?_) (fun c2 => ?_)
    · rw [if_pos c2] at H
      refine zw_run 1 (pc' := 42) (loc' := [some (.ref 82), none, none, some (.int bg), some (.int k)]) (stk' := [.int k]) (fun _ _ _ => rfl) ?_
      refine zw_reti (i := .nop) rfl rfl ?_
      exact H
    · rw [if_neg c2] at H
      refine zw_run 1 (pc' := 44) (loc' := [some (.ref 82), none, none, some (.int bg), some (.int k)]) (stk' := [.ref 82]) (fun _ _ _ => rfl) ?_
      refine zw_get (v := .ref 85) rfl rfl rfl ?_
      refine zw_run 1 (pc' := 49) (loc' := [some (.ref 82), none, none, some (.int bg), some (.int k)]) (stk' := [.int k, .ref 85]) (fun _ _ _ => rfl) ?_
      refine zw_callf (As := [.ref 85, .int k]) (rest := []) (c_row_at (id := 85) (by decide) k (d := d + 2)) rfl rfl rfl rfl ?_
      show zw fm sx (d + 3) 20 52 [some (.ref 82), none, none, some (.int bg), some (.int k)] [.int (zt Z 85 k)] Z Q
      refine zw_run 3 (pc' := 11) (loc' := [some (.ref 82), none, none, some (.int (zt Z 85 k)), some (.int (k + 1))]) (stk' := []) (fun _ _ _ => rfl) ?_
      exact H
theorem l_20_11 {fm : Value} {sx : Nat × (Nat → Int32)} {d : Nat} {Q : Option Value → zr_Z → Prop} (a : Int32) (b : Int32) : ∀ (n : Nat) (Z : zr_Z) (bg : Int32) (k : Int32), ((zs Z 85).toInt - k.toInt).toNat < n → Q (some (.int (g_20_11 n Z a b bg k).1)) (g_20_11 n Z a b bg k).2 → zw fm sx (d + 3) 20 11 [some (.ref 82), none, none, some (.int bg), some (.int k)] [] Z Q := by
  intro n
  induction n with
  | zero => intro Z bg k hn; exact absurd hn (Nat.not_lt_zero _)
  | succ n ih =>
    intro Z bg k hn HQ
    refine zw_most fun hm => b_20_11 a b bg k ?_
    unfold g_20_11 at HQ
    by_cases c51 : (zs Z 85) ≤ k
    · rw [if_pos c51] at HQ ⊢
      exact HQ
    · rw [if_neg c51] at HQ ⊢
      by_cases c52 : (f_23 Z bg (zt Z 85 k)) = true
      · rw [if_pos c52] at HQ ⊢
        exact HQ
      · rw [if_neg c52] at HQ ⊢
        refine ih Z (zt Z 85 k) (k + 1) ?_ HQ
        have u0 := Int32.not_le.mp c51
        have u1 := i32_up (by decide) hm u0 1 (by decide)
        have u2 := i32_lt.mp u0
        have u3 : 1 ≤ (1 : Int32).toInt := (by decide)
        omega
/-- MarkInlines$Definitions.numberOf -/
def f_20 (Z : zr_Z) (a : Int32) (b : Int32) : Int32 × zr_Z := g_20_11 (((zs (f_22 Z a b) 85).toInt - (0 : Int32).toInt).toNat + 1) (f_22 Z a b) a b 0 0
set_option maxRecDepth 100000 in
set_option maxHeartbeats 1000000 in
theorem b_20 {fm : Value} {sx : Nat × (Nat → Int32)} {d : Nat} {Z : zr_Z} {Q : Option Value → zr_Z → Prop} (a : Int32) (b : Int32) (H : zw fm sx (d + 3) 20 11 [some (.ref 82), none, none, some (.int 0), some (.int 0)] [] (f_22 Z a b) Q) : zw fm sx (d + 3) 20 0 [some (.ref 82), some (.int a), some (.int b), none, none] [] Z Q := by
  refine zw_run 3 (pc' := 3) (loc' := [some (.ref 82), some (.int a), some (.int b), none, none]) (stk' := [.int b, .int a, .ref 82]) (fun _ _ _ => rfl) ?_
  refine zw_callf (As := [.ref 82, .int a, .int b]) (rest := []) (c_22 a b (d := d + 0)) rfl rfl rfl rfl ?_
  show zw fm sx (d + 3) 20 6 [some (.ref 82), some (.int a), some (.int b), none, none] [] (f_22 Z a b) Q
  refine zw_run 4 (pc' := 11) (loc' := [some (.ref 82), some (.int a), some (.int b), some (.int 0), some (.int 0)]) (stk' := []) (fun _ _ _ => rfl) ?_
  refine zw_fgt [true, false, false, true, true] rfl ?_
  exact H
theorem t_20 {fm : Value} {sx : Nat × (Nat → Int32)} {d : Nat} {Z : zr_Z} {Q : Option Value → zr_Z → Prop} (a : Int32) (b : Int32) (HQ : Q (some (.int (f_20 Z a b).1)) (f_20 Z a b).2) : zw fm sx (d + 3) 20 0 [some (.ref 82), some (.int a), some (.int b), none, none] [] Z Q := by
  refine b_20 a b ?_
  unfold f_20 at HQ
  exact l_20_11 a b _ _ _ _ (Nat.lt_succ_self _) HQ
theorem c_20 {fm : Value} {sx : Nat × (Nat → Int32)} {d : Nat} {Z : zr_Z} (a : Int32) (b : Int32) : zl fm sx (d + 4) 20 [.ref 82, .int a, .int b] Z (fun r Z' => r = some (.int (f_20 Z a b).1) ∧ Z' = (f_20 Z a b).2) :=
  zl_of (nL := 5) (loc0 := [some (.ref 82), some (.int a), some (.int b), none, none]) rfl rfl rfl (t_20 a b ⟨rfl, rfl⟩)
/-- MarkInlines$Definitions.add, its loop at 16 -/
def g_21_16 : Nat → zr_Z → Int32 → Int32 × zr_Z
  | 0, Z, _ => (0, Z)
  | n + 1, Z, i => (if (zs Z 87) ≤ i then ((zs (zadd Z 85 (zs Z 83)) 85) - 1, zadd Z 85 (zs Z 83)) else g_21_16 n (zadd Z 83 (zt Z 87 i)) (i + 1))
set_option maxRecDepth 100000 in
set_option maxHeartbeats 2000000 in
theorem b_21_16 {fm : Value} {sx : Nat × (Nat → Int32)} {d : Nat} {Z : zr_Z} {Q : Option Value → zr_Z → Prop}  (i : Int32) (H : (if (zs Z 87) ≤ i then Q (some (.int ((zs (zadd Z 85 (zs Z 83)) 85) - 1))) (zadd Z 85 (zs Z 83)) else zw fm sx (d + 2) 21 16 [some (.ref 82), some (.int (i + 1))] [] (zadd Z 83 (zt Z 87 i)) Q)) : zw fm sx (d + 2) 21 16 [some (.ref 82), some (.int i)] [] Z Q := by
  refine zw_run 2 (pc' := 18) (loc' := [some (.ref 82), some (.int i)]) (stk' := [.ref 82, .int i]) (fun _ _ _ => rfl) ?_
  refine zw_get (v := .ref 87) rfl rfl rfl ?_
  refine zw_callf (As := [.ref 87]) (rest := [.int i]) (c_row_size (id := 87) (by decide) (d := d + 1)) rfl rfl rfl rfl ?_
  show zw fm sx (d + 2) 21 24 [some (.ref 82), some (.int i)] [.int (zs Z 87), .int i] Z Q
  refine zw_br (c := (zs Z 87) ≤ i) (t1 := 48) (t2 := 27) (loc' := [some (.ref 82), some (.int i)]) (stk' := []) (fun _ _ _ => rfl) (fun c1 => ?_) (fun c1 => ?_)
  · rw [if_pos c1] at H
    refine zw_run 1 (pc' := 49) (loc' := [some (.ref 82), some (.int i)]) (stk' := [.ref 82]) (fun _ _ _ => rfl) ?_
    refine zw_get (v := .ref 85) rfl rfl rfl ?_
    refine zw_run 1 (pc' := 53) (loc' := [some (.ref 82), some (.int i)]) (stk' := [.ref 82, .ref 85]) (fun _ _ _ => rfl) ?_
    refine zw_get (v := .ref 83) rfl rfl rfl ?_
    refine zw_callf (As := [.ref 83]) (rest := [.ref 85]) (c_row_size (id := 83) (by decide) (d := d + 1)) rfl rfl rfl rfl ?_
    show zw fm sx (d + 2) 21 59 [some (.ref 82), some (.int i)] [.int (zs Z 83), .ref 85] Z Q
    refine zw_callf (As := [.ref 85, .int (zs Z 83)]) (rest := []) (c_row_add (id := 85) (by decide) (zs Z 83) (d := d + 0)) rfl rfl rfl rfl ?_
    show zw fm sx (d + 2) 21 62 [some (.ref 82), some (.int i)] [] (zadd Z 85 (zs Z 83)) Q
    refine zw_run 1 (pc' := 63) (loc' := [some (.ref 82), some (.int i)]) (stk' := [.ref 82]) (fun _ _ _ => rfl) ?_
    refine zw_get (v := .ref 85) rfl rfl rfl ?_
    refine zw_callf (As := [.ref 85]) (rest := []) (c_row_size (id := 85) (by decide) (d := d + 1)) rfl rfl rfl rfl ?_
    show zw fm sx (d + 2) 21 69 [some (.ref 82), some (.int i)] [.int (zs (zadd Z 85 (zs Z 83)) 85)] (zadd Z 85 (zs Z 83)) Q
    refine zw_run 2 (pc' := 71) (loc' := [some (.ref 82), some (.int i)]) (stk' := [.int ((zs (zadd Z 85 (zs Z 83)) 85) - 1)]) (fun _ _ _ => rfl) ?_
    refine zw_reti (i := .nop) rfl rfl ?_
    exact H
  · rw [if_neg c1] at H
    refine zw_run 1 (pc' := 28) (loc' := [some (.ref 82), some (.int i)]) (stk' := [.ref 82]) (fun _ _ _ => rfl) ?_
    refine zw_get (v := .ref 83) rfl rfl rfl ?_
    refine zw_run 1 (pc' := 32) (loc' := [some (.ref 82), some (.int i)]) (stk' := [.ref 82, .ref 83]) (fun _ _ _ => rfl) ?_
    refine zw_get (v := .ref 87) rfl rfl rfl ?_
    refine zw_run 1 (pc' := 36) (loc' := [some (.ref 82), some (.int i)]) (stk' := [.int i, .ref 87, .ref 83]) (fun _ _ _ => rfl) ?_
    refine zw_callf (As := [.ref 87, .int i]) (rest := [.ref 83]) (c_row_at (id := 87) (by decide) i (d := d + 1)) rfl rfl rfl rfl ?_
    show zw fm sx (d + 2) 21 39 [some (.ref 82), some (.int i)] [.int (zt Z 87 i), .ref 83] Z Q
    refine zw_callf (As := [.ref 83, .int (zt Z 87 i)]) (rest := []) (c_row_add (id := 83) (by decide) (zt Z 87 i) (d := d + 0)) rfl rfl rfl rfl ?_
    show zw fm sx (d + 2) 21 42 [some (.ref 82), some (.int i)] [] (zadd Z 83 (zt Z 87 i)) Q
    refine zw_run 2 (pc' := 16) (loc' := [some (.ref 82), some (.int (i + 1))]) (stk' := []) (fun _ _ _ => rfl) ?_
    exact H
theorem l_21_16 {fm : Value} {sx : Nat × (Nat → Int32)} {d : Nat} {Q : Option Value → zr_Z → Prop}  : ∀ (n : Nat) (Z : zr_Z) (i : Int32), ((zs Z 87).toInt - i.toInt).toNat < n → Q (some (.int (g_21_16 n Z i).1)) (g_21_16 n Z i).2 → zw fm sx (d + 2) 21 16 [some (.ref 82), some (.int i)] [] Z Q := by
  intro n
  induction n with
  | zero => intro Z i hn; exact absurd hn (Nat.not_lt_zero _)
  | succ n ih =>
    intro Z i hn HQ
    refine zw_most fun hm => b_21_16 i ?_
    unfold g_21_16 at HQ
    by_cases c51 : (zs Z 87) ≤ i
    · rw [if_pos c51] at HQ ⊢
      exact HQ
    · rw [if_neg c51] at HQ ⊢
      refine ih (zadd Z 83 (zt Z 87 i)) (i + 1) ?_ HQ
      show ((zs Z 87).toInt - (i + 1).toInt).toNat < n
      have u0 := Int32.not_le.mp c51
      have u1 := i32_up (by decide) hm u0 1 (by decide)
      have u2 := i32_lt.mp u0
      have u3 : 1 ≤ (1 : Int32).toInt := (by decide)
      omega
/-- MarkInlines$Definitions.add -/
def f_21 (Z : zr_Z)  : Int32 × zr_Z := (if (zs Z 85) < 20 then g_21_16 (((zs Z 87).toInt - (0 : Int32).toInt).toNat + 1) Z 0 else ((-1), Z))
set_option maxRecDepth 100000 in
set_option maxHeartbeats 1000000 in
theorem b_21 {fm : Value} {sx : Nat × (Nat → Int32)} {d : Nat} {Z : zr_Z} {Q : Option Value → zr_Z → Prop}  (H : (if (zs Z 85) < 20 then zw fm sx (d + 2) 21 16 [some (.ref 82), some (.int 0)] [] Z Q else Q (some (.int (-1))) Z)) : zw fm sx (d + 2) 21 0 [some (.ref 82), none] [] Z Q := by
  refine zw_run 1 (pc' := 1) (loc' := [some (.ref 82), none]) (stk' := [.ref 82]) (fun _ _ _ => rfl) ?_
  refine zw_get (v := .ref 85) rfl rfl rfl ?_
  refine zw_callf (As := [.ref 85]) (rest := []) (c_row_size (id := 85) (by decide) (d := d + 1)) rfl rfl rfl rfl ?_
  show zw fm sx (d + 2) 21 7 [some (.ref 82), none] [.int (zs Z 85)] Z Q
  refine zw_run 1 (pc' := 9) (loc' := [some (.ref 82), none]) (stk' := [.int 20, .int (zs Z 85)]) (fun _ _ _ => rfl) ?_
  refine zw_br (c := (zs Z 85) < 20) (t1 := 14) (t2 := 12) (loc' := [some (.ref 82), none]) (stk' := []) (fun _ _ _ => rfl) (fun c1 => ?_) (fun c1 => ?_)
  · rw [if_pos c1] at H
    refine zw_run 2 (pc' := 16) (loc' := [some (.ref 82), some (.int 0)]) (stk' := []) (fun _ _ _ => rfl) ?_
    exact H
  · rw [if_neg c1] at H
    refine zw_run 1 (pc' := 13) (loc' := [some (.ref 82), none]) (stk' := [.int (-1)]) (fun _ _ _ => rfl) ?_
    refine zw_reti (i := .nop) rfl rfl ?_
    exact H
theorem t_21 {fm : Value} {sx : Nat × (Nat → Int32)} {d : Nat} {Z : zr_Z} {Q : Option Value → zr_Z → Prop}  (HQ : Q (some (.int (f_21 Z).1)) (f_21 Z).2) : zw fm sx (d + 2) 21 0 [some (.ref 82), none] [] Z Q := by
  refine b_21 ?_
  unfold f_21 at HQ
  by_cases c1 : (zs Z 85) < 20
  · rw [if_pos c1] at HQ ⊢
    exact l_21_16 _ _ _ (Nat.lt_succ_self _) HQ
  · rw [if_neg c1] at HQ ⊢
    exact HQ
theorem c_21 {fm : Value} {sx : Nat × (Nat → Int32)} {d : Nat} {Z : zr_Z}  : zl fm sx (d + 3) 21 [.ref 82] Z (fun r Z' => r = some (.int (f_21 Z).1) ∧ Z' = (f_21 Z).2) :=
  zl_of (nL := 2) (loc0 := [some (.ref 82), none]) rfl rfl rfl (t_21 ⟨rfl, rfl⟩)
/-- MarkInlines$Marks.erase, its loop at 2 -/
def g_35_2 : Nat → zr_Z → Int32 → Int32 → Int32 → zr_Z
  | 0, Z, _, _, _ => Z
  | n + 1, Z, a, b, p => (if b ≤ p then Z else g_35_2 n (zput Z 66 p 8) a b (p + 1))
set_option maxRecDepth 100000 in
set_option maxHeartbeats 2000000 in
theorem b_35_2 {fm : Value} {sx : Nat × (Nat → Int32)} {d : Nat} {Z : zr_Z} {Q : Option Value → zr_Z → Prop} (a : Int32) (b : Int32) (p : Int32) (H : (if b ≤ p then Q none Z else zw fm sx (d + 1) 35 2 [some (.ref 65), none, some (.int b), some (.int (p + 1))] [] (zput Z 66 p 8) Q)) : zw fm sx (d + 1) 35 2 [some (.ref 65), none, some (.int b), some (.int p)] [] Z Q := by
  refine zw_run 2 (pc' := 4) (loc' := [some (.ref 65), none, some (.int b), some (.int p)]) (stk' := [.int b, .int p]) (fun _ _ _ => rfl) ?_
  refine zw_br (c := b ≤ p) (t1 := 23) (t2 := 7) (loc' := [some (.ref 65), none, some (.int b), some (.int p)]) (stk' := []) (fun _ _ _ => rfl) (fun c1 => ?_) (fun c1 => ?_)
  · rw [if_pos c1] at H
    refine zw_retv rfl rfl ?_
    exact H
  · rw [if_neg c1] at H
    refine zw_run 1 (pc' := 8) (loc' := [some (.ref 65), none, some (.int b), some (.int p)]) (stk' := [.ref 65]) (fun _ _ _ => rfl) ?_
    refine zw_get (v := .ref 66) rfl rfl rfl ?_
    refine zw_run 2 (pc' := 14) (loc' := [some (.ref 65), none, some (.int b), some (.int p)]) (stk' := [.int 8, .int p, .ref 66]) (fun _ _ _ => rfl) ?_
    refine zw_callf (As := [.ref 66, .int p, .int 8]) (rest := []) (c_row_put (id := 66) (by decide) p 8 (d := d + 0)) rfl rfl rfl rfl ?_
    show zw fm sx (d + 1) 35 17 [some (.ref 65), none, some (.int b), some (.int p)] [] (zput Z 66 p 8) Q
    refine zw_run 2 (pc' := 2) (loc' := [some (.ref 65), none, some (.int b), some (.int (p + 1))]) (stk' := []) (fun _ _ _ => rfl) ?_
    exact H
theorem l_35_2 {fm : Value} {sx : Nat × (Nat → Int32)} {d : Nat} {Q : Option Value → zr_Z → Prop} (a : Int32) (b : Int32) : ∀ (n : Nat) (Z : zr_Z) (p : Int32), (b.toInt - p.toInt).toNat < n → Q none (g_35_2 n Z a b p) → zw fm sx (d + 1) 35 2 [some (.ref 65), none, some (.int b), some (.int p)] [] Z Q := by
  intro n
  induction n with
  | zero => intro Z p hn; exact absurd hn (Nat.not_lt_zero _)
  | succ n ih =>
    intro Z p hn HQ
    refine zw_most fun hm => b_35_2 a b p ?_
    unfold g_35_2 at HQ
    by_cases c51 : b ≤ p
    · rw [if_pos c51] at HQ ⊢
      exact HQ
    · rw [if_neg c51] at HQ ⊢
      refine ih (zput Z 66 p 8) (p + 1) ?_ HQ
      have u0 := i32_lt.mp (Int32.not_le.mp c51)
      have u1 := i32_rng b
      have u2 : (1 : Int32).toInt = 1 := (by decide)
      have u3 := i32_add (q := p) (k := 1) (by have := i32_rng p; omega) (by omega)
      omega
/-- MarkInlines$Marks.erase -/
def f_35 (Z : zr_Z) (a : Int32) (b : Int32) : zr_Z := g_35_2 ((b.toInt - (a : Int32).toInt).toNat + 1) Z a b a
set_option maxRecDepth 100000 in
set_option maxHeartbeats 1000000 in
theorem b_35 {fm : Value} {sx : Nat × (Nat → Int32)} {d : Nat} {Z : zr_Z} {Q : Option Value → zr_Z → Prop} (a : Int32) (b : Int32) (H : zw fm sx (d + 1) 35 2 [some (.ref 65), none, some (.int b), some (.int a)] [] Z Q) : zw fm sx (d + 1) 35 0 [some (.ref 65), some (.int a), some (.int b), none] [] Z Q := by
  refine zw_run 2 (pc' := 2) (loc' := [some (.ref 65), some (.int a), some (.int b), some (.int a)]) (stk' := []) (fun _ _ _ => rfl) ?_
  refine zw_fgt [true, false, true, true] rfl ?_
  exact H
theorem t_35 {fm : Value} {sx : Nat × (Nat → Int32)} {d : Nat} {Z : zr_Z} {Q : Option Value → zr_Z → Prop} (a : Int32) (b : Int32) (HQ : Q none (f_35 Z a b)) : zw fm sx (d + 1) 35 0 [some (.ref 65), some (.int a), some (.int b), none] [] Z Q := by
  refine b_35 a b ?_
  unfold f_35 at HQ
  exact l_35_2 a b _ _ _ (Nat.lt_succ_self _) HQ
theorem c_35 {fm : Value} {sx : Nat × (Nat → Int32)} {d : Nat} {Z : zr_Z} (a : Int32) (b : Int32) : zl fm sx (d + 2) 35 [.ref 65, .int a, .int b] Z (fun r Z' => r = none ∧ Z' = (f_35 Z a b)) :=
  zl_of (nL := 4) (loc0 := [some (.ref 65), some (.int a), some (.int b), none]) rfl rfl rfl (t_35 a b ⟨rfl, rfl⟩)
/-- MarkInlines$Marks.hold -/
def f_36 (Z : zr_Z) (k : Int32) (a : Int32) (b : Int32) : zr_Z := (zput (zput (zput Z 66 a k) 68 a ((zs (zput Z 66 a k) 70) - 1)) 66 b 9)
set_option maxRecDepth 100000 in
set_option maxHeartbeats 1000000 in
theorem b_36 {fm : Value} {sx : Nat × (Nat → Int32)} {d : Nat} {Z : zr_Z} {Q : Option Value → zr_Z → Prop} (k : Int32) (a : Int32) (b : Int32) (H : Q none (zput (zput (zput Z 66 a k) 68 a ((zs (zput Z 66 a k) 70) - 1)) 66 b 9)) : zw fm sx (d + 1) 36 0 [some (.ref 65), some (.int k), some (.int a), some (.int b)] [] Z Q := by
  refine zw_run 1 (pc' := 1) (loc' := [some (.ref 65), some (.int k), some (.int a), some (.int b)]) (stk' := [.ref 65]) (fun _ _ _ => rfl) ?_
  refine zw_get (v := .ref 66) rfl rfl rfl ?_
  refine zw_run 2 (pc' := 6) (loc' := [some (.ref 65), some (.int k), some (.int a), some (.int b)]) (stk' := [.int k, .int a, .ref 66]) (fun _ _ _ => rfl) ?_
  refine zw_callf (As := [.ref 66, .int a, .int k]) (rest := []) (c_row_put (id := 66) (by decide) a k (d := d + 0)) rfl rfl rfl rfl ?_
  show zw fm sx (d + 1) 36 9 [some (.ref 65), some (.int k), some (.int a), some (.int b)] [] (zput Z 66 a k) Q
  refine zw_run 1 (pc' := 10) (loc' := [some (.ref 65), some (.int k), some (.int a), some (.int b)]) (stk' := [.ref 65]) (fun _ _ _ => rfl) ?_
  refine zw_get (v := .ref 68) rfl rfl rfl ?_
  refine zw_run 2 (pc' := 15) (loc' := [some (.ref 65), some (.int k), some (.int a), some (.int b)]) (stk' := [.ref 65, .int a, .ref 68]) (fun _ _ _ => rfl) ?_
  refine zw_get (v := .ref 70) rfl rfl rfl ?_
  refine zw_callf (As := [.ref 70]) (rest := [.int a, .ref 68]) (c_row_size (id := 70) (by decide) (d := d + 0)) rfl rfl rfl rfl ?_
  show zw fm sx (d + 1) 36 21 [some (.ref 65), some (.int k), some (.int a), some (.int b)] [.int (zs (zput Z 66 a k) 70), .int a, .ref 68] (zput Z 66 a k) Q
  refine zw_run 2 (pc' := 23) (loc' := [some (.ref 65), some (.int k), some (.int a), some (.int b)]) (stk' := [.int ((zs (zput Z 66 a k) 70) - 1), .int a, .ref 68]) (fun _ _ _ => rfl) ?_
  refine zw_callf (As := [.ref 68, .int a, .int ((zs (zput Z 66 a k) 70) - 1)]) (rest := []) (c_row_put (id := 68) (by decide) a ((zs (zput Z 66 a k) 70) - 1) (d := d + 0)) rfl rfl rfl rfl ?_
  show zw fm sx (d + 1) 36 26 [some (.ref 65), some (.int k), some (.int a), some (.int b)] [] (zput (zput Z 66 a k) 68 a ((zs (zput Z 66 a k) 70) - 1)) Q
  refine zw_run 1 (pc' := 27) (loc' := [some (.ref 65), some (.int k), some (.int a), some (.int b)]) (stk' := [.ref 65]) (fun _ _ _ => rfl) ?_
  refine zw_get (v := .ref 66) rfl rfl rfl ?_
  refine zw_run 2 (pc' := 33) (loc' := [some (.ref 65), some (.int k), some (.int a), some (.int b)]) (stk' := [.int 9, .int b, .ref 66]) (fun _ _ _ => rfl) ?_
  refine zw_callf (As := [.ref 66, .int b, .int 9]) (rest := []) (c_row_put (id := 66) (by decide) b 9 (d := d + 0)) rfl rfl rfl rfl ?_
  show zw fm sx (d + 1) 36 36 [some (.ref 65), some (.int k), some (.int a), some (.int b)] [] (zput (zput (zput Z 66 a k) 68 a ((zs (zput Z 66 a k) 70) - 1)) 66 b 9) Q
  refine zw_retv rfl rfl ?_
  exact H
theorem t_36 {fm : Value} {sx : Nat × (Nat → Int32)} {d : Nat} {Z : zr_Z} {Q : Option Value → zr_Z → Prop} (k : Int32) (a : Int32) (b : Int32) (HQ : Q none (f_36 Z k a b)) : zw fm sx (d + 1) 36 0 [some (.ref 65), some (.int k), some (.int a), some (.int b)] [] Z Q := by
  refine b_36 k a b ?_
  unfold f_36 at HQ
  exact HQ
theorem c_36 {fm : Value} {sx : Nat × (Nat → Int32)} {d : Nat} {Z : zr_Z} (k : Int32) (a : Int32) (b : Int32) : zl fm sx (d + 2) 36 [.ref 65, .int k, .int a, .int b] Z (fun r Z' => r = none ∧ Z' = (f_36 Z k a b)) :=
  zl_of (nL := 4) (loc0 := [some (.ref 65), some (.int k), some (.int a), some (.int b)]) rfl rfl rfl (t_36 k a b ⟨rfl, rfl⟩)
/-- MarkInlines$Marks.addLead -/
def f_37 (Z : zr_Z) (m : Int32) (k : Int32) (a : Int32) (b : Int32) (t : Int32) (u : Int32) : zr_Z := (zadd (zadd (zadd (zadd (zadd (zadd Z 70 m) 72 k) 74 a) 76 b) 78 t) 80 u)
set_option maxRecDepth 100000 in
set_option maxHeartbeats 1000000 in
theorem b_37 {fm : Value} {sx : Nat × (Nat → Int32)} {d : Nat} {Z : zr_Z} {Q : Option Value → zr_Z → Prop} (m : Int32) (k : Int32) (a : Int32) (b : Int32) (t : Int32) (u : Int32) (H : Q none (zadd (zadd (zadd (zadd (zadd (zadd Z 70 m) 72 k) 74 a) 76 b) 78 t) 80 u)) : zw fm sx (d + 2) 37 0 [some (.ref 65), some (.int m), some (.int k), some (.int a), some (.int b), some (.int t), some (.int u)] [] Z Q := by
  refine zw_run 1 (pc' := 1) (loc' := [some (.ref 65), some (.int m), some (.int k), some (.int a), some (.int b), some (.int t), some (.int u)]) (stk' := [.ref 65]) (fun _ _ _ => rfl) ?_
  refine zw_get (v := .ref 70) rfl rfl rfl ?_
  refine zw_run 1 (pc' := 5) (loc' := [some (.ref 65), some (.int m), some (.int k), some (.int a), some (.int b), some (.int t), some (.int u)]) (stk' := [.int m, .ref 70]) (fun _ _ _ => rfl) ?_
  refine zw_callf (As := [.ref 70, .int m]) (rest := []) (c_row_add (id := 70) (by decide) m (d := d + 0)) rfl rfl rfl rfl ?_
  show zw fm sx (d + 2) 37 8 [some (.ref 65), some (.int m), some (.int k), some (.int a), some (.int b), some (.int t), some (.int u)] [] (zadd Z 70 m) Q
  refine zw_run 1 (pc' := 9) (loc' := [some (.ref 65), some (.int m), some (.int k), some (.int a), some (.int b), some (.int t), some (.int u)]) (stk' := [.ref 65]) (fun _ _ _ => rfl) ?_
  refine zw_get (v := .ref 72) rfl rfl rfl ?_
  refine zw_run 1 (pc' := 13) (loc' := [some (.ref 65), some (.int m), some (.int k), some (.int a), some (.int b), some (.int t), some (.int u)]) (stk' := [.int k, .ref 72]) (fun _ _ _ => rfl) ?_
  refine zw_callf (As := [.ref 72, .int k]) (rest := []) (c_row_add (id := 72) (by decide) k (d := d + 0)) rfl rfl rfl rfl ?_
  show zw fm sx (d + 2) 37 16 [some (.ref 65), some (.int m), some (.int k), some (.int a), some (.int b), some (.int t), some (.int u)] [] (zadd (zadd Z 70 m) 72 k) Q
  refine zw_run 1 (pc' := 17) (loc' := [some (.ref 65), some (.int m), some (.int k), some (.int a), some (.int b), some (.int t), some (.int u)]) (stk' := [.ref 65]) (fun _ _ _ => rfl) ?_
  refine zw_get (v := .ref 74) rfl rfl rfl ?_
  refine zw_run 1 (pc' := 21) (loc' := [some (.ref 65), some (.int m), some (.int k), some (.int a), some (.int b), some (.int t), some (.int u)]) (stk' := [.int a, .ref 74]) (fun _ _ _ => rfl) ?_
  refine zw_callf (As := [.ref 74, .int a]) (rest := []) (c_row_add (id := 74) (by decide) a (d := d + 0)) rfl rfl rfl rfl ?_
  show zw fm sx (d + 2) 37 24 [some (.ref 65), some (.int m), some (.int k), some (.int a), some (.int b), some (.int t), some (.int u)] [] (zadd (zadd (zadd Z 70 m) 72 k) 74 a) Q
  refine zw_run 1 (pc' := 25) (loc' := [some (.ref 65), some (.int m), some (.int k), some (.int a), some (.int b), some (.int t), some (.int u)]) (stk' := [.ref 65]) (fun _ _ _ => rfl) ?_
  refine zw_get (v := .ref 76) rfl rfl rfl ?_
  refine zw_run 1 (pc' := 30) (loc' := [some (.ref 65), some (.int m), some (.int k), some (.int a), some (.int b), some (.int t), some (.int u)]) (stk' := [.int b, .ref 76]) (fun _ _ _ => rfl) ?_
  refine zw_callf (As := [.ref 76, .int b]) (rest := []) (c_row_add (id := 76) (by decide) b (d := d + 0)) rfl rfl rfl rfl ?_
  show zw fm sx (d + 2) 37 33 [some (.ref 65), some (.int m), some (.int k), some (.int a), some (.int b), some (.int t), some (.int u)] [] (zadd (zadd (zadd (zadd Z 70 m) 72 k) 74 a) 76 b) Q
  refine zw_run 1 (pc' := 34) (loc' := [some (.ref 65), some (.int m), some (.int k), some (.int a), some (.int b), some (.int t), some (.int u)]) (stk' := [.ref 65]) (fun _ _ _ => rfl) ?_
  refine zw_get (v := .ref 78) rfl rfl rfl ?_
  refine zw_run 1 (pc' := 39) (loc' := [some (.ref 65), some (.int m), some (.int k), some (.int a), some (.int b), some (.int t), some (.int u)]) (stk' := [.int t, .ref 78]) (fun _ _ _ => rfl) ?_
  refine zw_callf (As := [.ref 78, .int t]) (rest := []) (c_row_add (id := 78) (by decide) t (d := d + 0)) rfl rfl rfl rfl ?_
  show zw fm sx (d + 2) 37 42 [some (.ref 65), some (.int m), some (.int k), some (.int a), some (.int b), some (.int t), some (.int u)] [] (zadd (zadd (zadd (zadd (zadd Z 70 m) 72 k) 74 a) 76 b) 78 t) Q
  refine zw_run 1 (pc' := 43) (loc' := [some (.ref 65), some (.int m), some (.int k), some (.int a), some (.int b), some (.int t), some (.int u)]) (stk' := [.ref 65]) (fun _ _ _ => rfl) ?_
  refine zw_get (v := .ref 80) rfl rfl rfl ?_
  refine zw_run 1 (pc' := 48) (loc' := [some (.ref 65), some (.int m), some (.int k), some (.int a), some (.int b), some (.int t), some (.int u)]) (stk' := [.int u, .ref 80]) (fun _ _ _ => rfl) ?_
  refine zw_callf (As := [.ref 80, .int u]) (rest := []) (c_row_add (id := 80) (by decide) u (d := d + 0)) rfl rfl rfl rfl ?_
  show zw fm sx (d + 2) 37 51 [some (.ref 65), some (.int m), some (.int k), some (.int a), some (.int b), some (.int t), some (.int u)] [] (zadd (zadd (zadd (zadd (zadd (zadd Z 70 m) 72 k) 74 a) 76 b) 78 t) 80 u) Q
  refine zw_retv rfl rfl ?_
  exact H
theorem t_37 {fm : Value} {sx : Nat × (Nat → Int32)} {d : Nat} {Z : zr_Z} {Q : Option Value → zr_Z → Prop} (m : Int32) (k : Int32) (a : Int32) (b : Int32) (t : Int32) (u : Int32) (HQ : Q none (f_37 Z m k a b t u)) : zw fm sx (d + 2) 37 0 [some (.ref 65), some (.int m), some (.int k), some (.int a), some (.int b), some (.int t), some (.int u)] [] Z Q := by
  refine b_37 m k a b t u ?_
  unfold f_37 at HQ
  exact HQ
theorem c_37 {fm : Value} {sx : Nat × (Nat → Int32)} {d : Nat} {Z : zr_Z} (m : Int32) (k : Int32) (a : Int32) (b : Int32) (t : Int32) (u : Int32) : zl fm sx (d + 3) 37 [.ref 65, .int m, .int k, .int a, .int b, .int t, .int u] Z (fun r Z' => r = none ∧ Z' = (f_37 Z m k a b t u)) :=
  zl_of (nL := 7) (loc0 := [some (.ref 65), some (.int m), some (.int k), some (.int a), some (.int b), some (.int t), some (.int u)]) rfl rfl rfl (t_37 m k a b t u ⟨rfl, rfl⟩)
/-- MarkInlines$Marks.startOver, its loop at 22 -/
def g_34_22 : Nat → zr_Z → Int32 → zr_Z
  | 0, Z, _ => Z
  | n + 1, Z, p => (if (zs Z 61) ≤ p then (zcut (zcut (zcut (zcut (zcut (zcut Z 70 0) 72 0) 74 0) 76 0) 78 0) 80 0) else g_34_22 n (zadd Z 68 (zt Z 61 p)) (p + 1))
set_option maxRecDepth 100000 in
set_option maxHeartbeats 2000000 in
theorem b_34_22 {fm : Value} {sx : Nat × (Nat → Int32)} {d : Nat} {Z : zr_Z} {Q : Option Value → zr_Z → Prop}  (p : Int32) (H : (if (zs Z 61) ≤ p then Q none (zcut (zcut (zcut (zcut (zcut (zcut Z 70 0) 72 0) 74 0) 76 0) 78 0) 80 0) else zw fm sx (d + 3) 34 22 [some (.ref 65), some (.ref 61), some (.int (p + 1))] [] (zadd Z 68 (zt Z 61 p)) Q)) : zw fm sx (d + 3) 34 22 [some (.ref 65), some (.ref 61), some (.int p)] [] Z Q := by
  refine zw_run 2 (pc' := 24) (loc' := [some (.ref 65), some (.ref 61), some (.int p)]) (stk' := [.ref 61, .int p]) (fun _ _ _ => rfl) ?_
  refine zw_callf (As := [.ref 61]) (rest := [.int p]) (c_row_size (id := 61) (by decide) (d := d + 2)) rfl rfl rfl rfl ?_
  show zw fm sx (d + 3) 34 27 [some (.ref 65), some (.ref 61), some (.int p)] [.int (zs Z 61), .int p] Z Q
  refine zw_br (c := (zs Z 61) ≤ p) (t1 := 48) (t2 := 30) (loc' := [some (.ref 65), some (.ref 61), some (.int p)]) (stk' := []) (fun _ _ _ => rfl) (fun c1 => ?_) (fun c1 => ?_)
  · rw [if_pos c1] at H
    refine zw_run 1 (pc' := 49) (loc' := [some (.ref 65), some (.ref 61), some (.int p)]) (stk' := [.ref 65]) (fun _ _ _ => rfl) ?_
    refine zw_get (v := .ref 70) rfl rfl rfl ?_
    refine zw_run 1 (pc' := 53) (loc' := [some (.ref 65), some (.ref 61), some (.int p)]) (stk' := [.int 0, .ref 70]) (fun _ _ _ => rfl) ?_
    refine zw_callf (As := [.ref 70, .int 0]) (rest := []) (c_row_cut (id := 70) (by decide) 0 (d := d + 2)) rfl rfl rfl rfl ?_
    show zw fm sx (d + 3) 34 56 [some (.ref 65), some (.ref 61), some (.int p)] [] (zcut Z 70 0) Q
    refine zw_run 1 (pc' := 57) (loc' := [some (.ref 65), some (.ref 61), some (.int p)]) (stk' := [.ref 65]) (fun _ _ _ => rfl) ?_
    refine zw_get (v := .ref 72) rfl rfl rfl ?_
    refine zw_run 1 (pc' := 61) (loc' := [some (.ref 65), some (.ref 61), some (.int p)]) (stk' := [.int 0, .ref 72]) (fun _ _ _ => rfl) ?_
    refine zw_callf (As := [.ref 72, .int 0]) (rest := []) (c_row_cut (id := 72) (by decide) 0 (d := d + 2)) rfl rfl rfl rfl ?_
    show zw fm sx (d + 3) 34 64 [some (.ref 65), some (.ref 61), some (.int p)] [] (zcut (zcut Z 70 0) 72 0) Q
    refine zw_run 1 (pc' := 65) (loc' := [some (.ref 65), some (.ref 61), some (.int p)]) (stk' := [.ref 65]) (fun _ _ _ => rfl) ?_
    refine zw_get (v := .ref 74) rfl rfl rfl ?_
    refine zw_run 1 (pc' := 69) (loc' := [some (.ref 65), some (.ref 61), some (.int p)]) (stk' := [.int 0, .ref 74]) (fun _ _ _ => rfl) ?_
    refine zw_callf (As := [.ref 74, .int 0]) (rest := []) (c_row_cut (id := 74) (by decide) 0 (d := d + 2)) rfl rfl rfl rfl ?_
    show zw fm sx (d + 3) 34 72 [some (.ref 65), some (.ref 61), some (.int p)] [] (zcut (zcut (zcut Z 70 0) 72 0) 74 0) Q
    refine zw_run 1 (pc' := 73) (loc' := [some (.ref 65), some (.ref 61), some (.int p)]) (stk' := [.ref 65]) (fun _ _ _ => rfl) ?_
    refine zw_get (v := .ref 76) rfl rfl rfl ?_
    refine zw_run 1 (pc' := 77) (loc' := [some (.ref 65), some (.ref 61), some (.int p)]) (stk' := [.int 0, .ref 76]) (fun _ _ _ => rfl) ?_
    refine zw_callf (As := [.ref 76, .int 0]) (rest := []) (c_row_cut (id := 76) (by decide) 0 (d := d + 2)) rfl rfl rfl rfl ?_
    show zw fm sx (d + 3) 34 80 [some (.ref 65), some (.ref 61), some (.int p)] [] (zcut (zcut (zcut (zcut Z 70 0) 72 0) 74 0) 76 0) Q
    refine zw_run 1 (pc' := 81) (loc' := [some (.ref 65), some (.ref 61), some (.int p)]) (stk' := [.ref 65]) (fun _ _ _ => rfl) ?_
    refine zw_get (v := .ref 78) rfl rfl rfl ?_
    refine zw_run 1 (pc' := 85) (loc' := [some (.ref 65), some (.ref 61), some (.int p)]) (stk' := [.int 0, .ref 78]) (fun _ _ _ => rfl) ?_
    refine zw_callf (As := [.ref 78, .int 0]) (rest := []) (c_row_cut (id := 78) (by decide) 0 (d := d + 2)) rfl rfl rfl rfl ?_
    show zw fm sx (d + 3) 34 88 [some (.ref 65), some (.ref 61), some (.int p)] [] (zcut (zcut (zcut (zcut (zcut Z 70 0) 72 0) 74 0) 76 0) 78 0) Q
    refine zw_run 1 (pc' := 89) (loc' := [some (.ref 65), some (.ref 61), some (.int p)]) (stk' := [.ref 65]) (fun _ _ _ => rfl) ?_
    refine zw_get (v := .ref 80) rfl rfl rfl ?_
    refine zw_run 1 (pc' := 93) (loc' := [some (.ref 65), some (.ref 61), some (.int p)]) (stk' := [.int 0, .ref 80]) (fun _ _ _ => rfl) ?_
    refine zw_callf (As := [.ref 80, .int 0]) (rest := []) (c_row_cut (id := 80) (by decide) 0 (d := d + 2)) rfl rfl rfl rfl ?_
    show zw fm sx (d + 3) 34 96 [some (.ref 65), some (.ref 61), some (.int p)] [] (zcut (zcut (zcut (zcut (zcut (zcut Z 70 0) 72 0) 74 0) 76 0) 78 0) 80 0) Q
    refine zw_retv rfl rfl ?_
    exact H
  · rw [if_neg c1] at H
    refine zw_run 1 (pc' := 31) (loc' := [some (.ref 65), some (.ref 61), some (.int p)]) (stk' := [.ref 65]) (fun _ _ _ => rfl) ?_
    refine zw_get (v := .ref 68) rfl rfl rfl ?_
    refine zw_run 2 (pc' := 36) (loc' := [some (.ref 65), some (.ref 61), some (.int p)]) (stk' := [.int p, .ref 61, .ref 68]) (fun _ _ _ => rfl) ?_
    refine zw_callf (As := [.ref 61, .int p]) (rest := [.ref 68]) (c_row_at (id := 61) (by decide) p (d := d + 2)) rfl rfl rfl rfl ?_
    show zw fm sx (d + 3) 34 39 [some (.ref 65), some (.ref 61), some (.int p)] [.int (zt Z 61 p), .ref 68] Z Q
    refine zw_callf (As := [.ref 68, .int (zt Z 61 p)]) (rest := []) (c_row_add (id := 68) (by decide) (zt Z 61 p) (d := d + 1)) rfl rfl rfl rfl ?_
    show zw fm sx (d + 3) 34 42 [some (.ref 65), some (.ref 61), some (.int p)] [] (zadd Z 68 (zt Z 61 p)) Q
    refine zw_run 2 (pc' := 22) (loc' := [some (.ref 65), some (.ref 61), some (.int (p + 1))]) (stk' := []) (fun _ _ _ => rfl) ?_
    exact H
theorem l_34_22 {fm : Value} {sx : Nat × (Nat → Int32)} {d : Nat} {Q : Option Value → zr_Z → Prop}  : ∀ (n : Nat) (Z : zr_Z) (p : Int32), ((zs Z 61).toInt - p.toInt).toNat < n → Q none (g_34_22 n Z p) → zw fm sx (d + 3) 34 22 [some (.ref 65), some (.ref 61), some (.int p)] [] Z Q := by
  intro n
  induction n with
  | zero => intro Z p hn; exact absurd hn (Nat.not_lt_zero _)
  | succ n ih =>
    intro Z p hn HQ
    refine zw_most fun hm => b_34_22 p ?_
    unfold g_34_22 at HQ
    by_cases c51 : (zs Z 61) ≤ p
    · rw [if_pos c51] at HQ ⊢
      exact HQ
    · rw [if_neg c51] at HQ ⊢
      refine ih (zadd Z 68 (zt Z 61 p)) (p + 1) ?_ HQ
      show ((zs Z 61).toInt - (p + 1).toInt).toNat < n
      have u0 := Int32.not_le.mp c51
      have u1 := i32_up (by decide) hm u0 1 (by decide)
      have u2 := i32_lt.mp u0
      have u3 : 1 ≤ (1 : Int32).toInt := (by decide)
      omega
/-- MarkInlines$Marks.startOver -/
def f_34 (Z : zr_Z)  : zr_Z := g_34_22 (((zs (zcut (zfill Z 66 (zs Z 61) 0) 68 0) 61).toInt - (0 : Int32).toInt).toNat + 1) (zcut (zfill Z 66 (zs Z 61) 0) 68 0) 0
set_option maxRecDepth 100000 in
set_option maxHeartbeats 1000000 in
theorem b_34 {fm : Value} {sx : Nat × (Nat → Int32)} {d : Nat} {Z : zr_Z} {Q : Option Value → zr_Z → Prop}  (H : zw fm sx (d + 3) 34 22 [some (.ref 65), some (.ref 61), some (.int 0)] [] (zcut (zfill Z 66 (zs Z 61) 0) 68 0) Q) : zw fm sx (d + 3) 34 0 [some (.ref 65), some (.ref 61), none] [] Z Q := by
  refine zw_run 1 (pc' := 1) (loc' := [some (.ref 65), some (.ref 61), none]) (stk' := [.ref 65]) (fun _ _ _ => rfl) ?_
  refine zw_get (v := .ref 66) rfl rfl rfl ?_
  refine zw_run 1 (pc' := 5) (loc' := [some (.ref 65), some (.ref 61), none]) (stk' := [.ref 61, .ref 66]) (fun _ _ _ => rfl) ?_
  refine zw_callf (As := [.ref 61]) (rest := [.ref 66]) (c_row_size (id := 61) (by decide) (d := d + 2)) rfl rfl rfl rfl ?_
  show zw fm sx (d + 3) 34 8 [some (.ref 65), some (.ref 61), none] [.int (zs Z 61), .ref 66] Z Q
  refine zw_run 1 (pc' := 9) (loc' := [some (.ref 65), some (.ref 61), none]) (stk' := [.int 0, .int (zs Z 61), .ref 66]) (fun _ _ _ => rfl) ?_
  refine zw_callf (As := [.ref 66, .int (zs Z 61), .int 0]) (rest := []) (c_row_refill (id := 66) (by decide) (zs Z 61) 0 (d := d + 0)) rfl rfl rfl rfl ?_
  show zw fm sx (d + 3) 34 12 [some (.ref 65), some (.ref 61), none] [] (zfill Z 66 (zs Z 61) 0) Q
  refine zw_run 1 (pc' := 13) (loc' := [some (.ref 65), some (.ref 61), none]) (stk' := [.ref 65]) (fun _ _ _ => rfl) ?_
  refine zw_get (v := .ref 68) rfl rfl rfl ?_
  refine zw_run 1 (pc' := 17) (loc' := [some (.ref 65), some (.ref 61), none]) (stk' := [.int 0, .ref 68]) (fun _ _ _ => rfl) ?_
  refine zw_callf (As := [.ref 68, .int 0]) (rest := []) (c_row_cut (id := 68) (by decide) 0 (d := d + 2)) rfl rfl rfl rfl ?_
  show zw fm sx (d + 3) 34 20 [some (.ref 65), some (.ref 61), none] [] (zcut (zfill Z 66 (zs Z 61) 0) 68 0) Q
  refine zw_run 2 (pc' := 22) (loc' := [some (.ref 65), some (.ref 61), some (.int 0)]) (stk' := []) (fun _ _ _ => rfl) ?_
  exact H
theorem t_34 {fm : Value} {sx : Nat × (Nat → Int32)} {d : Nat} {Z : zr_Z} {Q : Option Value → zr_Z → Prop}  (HQ : Q none (f_34 Z)) : zw fm sx (d + 3) 34 0 [some (.ref 65), some (.ref 61), none] [] Z Q := by
  refine b_34 ?_
  unfold f_34 at HQ
  exact l_34_22 _ _ _ (Nat.lt_succ_self _) HQ
theorem c_34 {fm : Value} {sx : Nat × (Nat → Int32)} {d : Nat} {Z : zr_Z}  : zl fm sx (d + 4) 34 [.ref 65, .ref 61] Z (fun r Z' => r = none ∧ Z' = (f_34 Z)) :=
  zl_of (nL := 3) (loc0 := [some (.ref 65), some (.ref 61), none]) rfl rfl rfl (t_34 ⟨rfl, rfl⟩)
