/-! MarkInlines.Scan; walks written by wip/whole/gen_scan.py -/
/-- MarkInlines$Scan.isEscape -/
def f_92 (Z : zr_Z) (p : Int32) : Bool := ((decide ((zt Z 61 p) = 92)) && (k_198 (zt Z 61 (p + 1))))
set_option maxRecDepth 100000 in
set_option maxHeartbeats 1000000 in
theorem b_92 {fm : Value} {sx : Nat × (Nat → Int32)} {d : Nat} {Z : zr_Z} {Q : Option Value → zr_Z → Prop} (p : Int32) (H : Q (some (.int (bI ((decide ((zt Z 61 p) = 92)) && (k_198 (zt Z 61 (p + 1))))))) Z) : zw fm sx (d + 1) 92 0 [some (.ref 63), some (.int p)] [] Z Q := by
  refine zw_run 1 (pc' := 1) (loc' := [some (.ref 63), some (.int p)]) (stk' := [.ref 63]) (fun _ _ _ => rfl) ?_
  refine zw_get (v := .ref 61) rfl rfl rfl ?_
  refine zw_run 1 (pc' := 5) (loc' := [some (.ref 63), some (.int p)]) (stk' := [.int p, .ref 61]) (fun _ _ _ => rfl) ?_
  refine zw_callf (As := [.ref 61, .int p]) (rest := []) (c_row_at (id := 61) (by decide) p (d := d + 0)) rfl rfl rfl rfl ?_
  show zw fm sx (d + 1) 92 8 [some (.ref 63), some (.int p)] [.int (zt Z 61 p)] Z Q
  refine zw_run 1 (pc' := 10) (loc' := [some (.ref 63), some (.int p)]) (stk' := [.int 92, .int (zt Z 61 p)]) (fun _ _ _ => rfl) ?_
  have J4 : ∀ (v3 : Int32), v3 = (bI ((decide ((zt Z 61 p) = 92)) && (k_198 (zt Z 61 (p + 1))))) → zw fm sx (d + 1) 92 34 [some (.ref 63), some (.int p)] [.int v3] Z Q := by
    intro v3 ev3
    subst ev3
    refine zw_retz rfl rfl (bI_01 _) ?_
    exact H
  refine zw_br (c := ¬ (zt Z 61 p) = 92) (t1 := 33) (t2 := 13) (loc' := [some (.ref 63), some (.int p)]) (stk' := []) (fun _ _ _ => rfl) (fun c1 => ?_) (fun c1 => ?_)
  · skip
    refine zw_run 1 (pc' := 34) (loc' := [some (.ref 63), some (.int p)]) (stk' := [.int 0]) (fun _ _ _ => rfl) ?_
    exact J4 _ (by clear H J4; first | (simp [bI, c1]; done) | (simp [bI, *]; done) | (simp_all [bI]; done) | (exfalso; simp_all; done))
  · skip
    refine zw_run 1 (pc' := 14) (loc' := [some (.ref 63), some (.int p)]) (stk' := [.ref 63]) (fun _ _ _ => rfl) ?_
    refine zw_get (v := .ref 61) rfl rfl rfl ?_
    refine zw_run 3 (pc' := 20) (loc' := [some (.ref 63), some (.int p)]) (stk' := [.int (p + 1), .ref 61]) (fun _ _ _ => rfl) ?_
    refine zw_callf (As := [.ref 61, .int (p + 1)]) (rest := []) (c_row_at (id := 61) (by decide) (p + 1) (d := d + 0)) rfl rfl rfl rfl ?_
    show zw fm sx (d + 1) 92 23 [some (.ref 63), some (.int p)] [.int (zt Z 61 (p + 1))] Z Q
    refine zw_callf (As := [.int (zt Z 61 (p + 1))]) (rest := []) (c_198 (zt Z 61 (p + 1)) (d := d + 0)) rfl rfl rfl rfl ?_
    show zw fm sx (d + 1) 92 26 [some (.ref 63), some (.int p)] [.int (bI (k_198 (zt Z 61 (p + 1))))] Z Q
    refine zw_b0 (b := (k_198 (zt Z 61 (p + 1)))) (t1 := 29) (t2 := 33) (loc' := [some (.ref 63), some (.int p)]) (stk' := []) (fun _ _ _ => rfl) (fun c2 => ?_) (fun c2 => ?_)
    · skip
      refine zw_run 2 (pc' := 34) (loc' := [some (.ref 63), some (.int p)]) (stk' := [.int 1]) (fun _ _ _ => rfl) ?_
      exact J4 _ (by clear H J4; first | (simp [bI, c1, c2]; done) | (simp [bI, *]; done) | (simp_all [bI]; done) | (exfalso; simp_all; done))
    · skip
      refine zw_run 1 (pc' := 34) (loc' := [some (.ref 63), some (.int p)]) (stk' := [.int 0]) (fun _ _ _ => rfl) ?_
      exact J4 _ (by clear H J4; first | (simp [bI, c1, c2]; done) | (simp [bI, *]; done) | (simp_all [bI]; done) | (exfalso; simp_all; done))
theorem t_92 {fm : Value} {sx : Nat × (Nat → Int32)} {d : Nat} {Z : zr_Z} {Q : Option Value → zr_Z → Prop} (p : Int32) (HQ : Q (some (.int (bI (f_92 Z p)))) Z) : zw fm sx (d + 1) 92 0 [some (.ref 63), some (.int p)] [] Z Q := by
  refine b_92 p ?_
  unfold f_92 at HQ
  exact HQ
theorem c_92 {fm : Value} {sx : Nat × (Nat → Int32)} {d : Nat} {Z : zr_Z} (p : Int32) : zl fm sx (d + 2) 92 [.ref 63, .int p] Z (fun r Z' => r = some (.int (bI (f_92 Z p))) ∧ Z' = Z) :=
  zl_of (nL := 2) (loc0 := [some (.ref 63), some (.int p)]) rfl rfl rfl (t_92 p ⟨rfl, rfl⟩)
/-- MarkInlines$Scan.sameEnd, its loop -/
def g_93 : Nat → zr_Z → Int32 → Int32 → Int32
  | 0, Z, _, _ => 0
  | n + 1, Z, p, q => (if (zs Z 61) ≤ q then q else (if ¬ (zt Z 61 q) = (zt Z 61 p) then q else g_93 n Z p (q + 1)))
def f_93 (Z : zr_Z) (p : Int32) : Int32 := g_93 (((zs Z 61).toInt - p.toInt).toNat + 1) Z p p
set_option maxRecDepth 100000 in
set_option maxHeartbeats 1000000 in
theorem b_93 {fm : Value} {sx : Nat × (Nat → Int32)} {d : Nat} {Z : zr_Z} {Q : Option Value → zr_Z → Prop} (p : Int32) (H : zw fm sx (d + 1) 93 2 [some (.ref 63), some (.int p), some (.int p)] [] Z Q) : zw fm sx (d + 1) 93 0 [some (.ref 63), some (.int p), none] [] Z Q := by
  refine zw_run 2 (pc' := 2) (loc' := [some (.ref 63), some (.int p), some (.int p)]) (stk' := []) (fun _ _ _ => rfl) ?_
  exact H
set_option maxRecDepth 100000 in
set_option maxHeartbeats 1000000 in
theorem b_93_2 {fm : Value} {sx : Nat × (Nat → Int32)} {d : Nat} {Z : zr_Z} {Q : Option Value → zr_Z → Prop} (p : Int32) (q : Int32) (H : (if (zs Z 61) ≤ q then Q (some (.int q)) Z else (if ¬ (zt Z 61 q) = (zt Z 61 p) then Q (some (.int q)) Z else zw fm sx (d + 1) 93 2 [some (.ref 63), some (.int p), some (.int (q + 1))] [] Z Q))) : zw fm sx (d + 1) 93 2 [some (.ref 63), some (.int p), some (.int q)] [] Z Q := by
  refine zw_run 2 (pc' := 4) (loc' := [some (.ref 63), some (.int p), some (.int q)]) (stk' := [.ref 63, .int q]) (fun _ _ _ => rfl) ?_
  refine zw_get (v := .ref 61) rfl rfl rfl ?_
  refine zw_callf (As := [.ref 61]) (rest := [.int q]) (c_row_size (id := 61) (by decide) (d := d + 0)) rfl rfl rfl rfl ?_
  show zw fm sx (d + 1) 93 10 [some (.ref 63), some (.int p), some (.int q)] [.int (zs Z 61), .int q] Z Q
  refine zw_br (c := (zs Z 61) ≤ q) (t1 := 38) (t2 := 13) (loc' := [some (.ref 63), some (.int p), some (.int q)]) (stk' := []) (fun _ _ _ => rfl) (fun c1 => ?_) (fun c1 => ?_)
  · rw [if_pos c1] at H
    refine zw_run 1 (pc' := 39) (loc' := [some (.ref 63), some (.int p), some (.int q)]) (stk' := [.int q]) (fun _ _ _ => rfl) ?_
    refine zw_reti (i := .nop) rfl rfl ?_
    exact H
  · rw [if_neg c1] at H
    refine zw_run 1 (pc' := 14) (loc' := [some (.ref 63), some (.int p), some (.int q)]) (stk' := [.ref 63]) (fun _ _ _ => rfl) ?_
    refine zw_get (v := .ref 61) rfl rfl rfl ?_
    refine zw_run 1 (pc' := 18) (loc' := [some (.ref 63), some (.int p), some (.int q)]) (stk' := [.int q, .ref 61]) (fun _ _ _ => rfl) ?_
    refine zw_callf (As := [.ref 61, .int q]) (rest := []) (c_row_at (id := 61) (by decide) q (d := d + 0)) rfl rfl rfl rfl ?_
    show zw fm sx (d + 1) 93 21 [some (.ref 63), some (.int p), some (.int q)] [.int (zt Z 61 q)] Z Q
    refine zw_run 1 (pc' := 22) (loc' := [some (.ref 63), some (.int p), some (.int q)]) (stk' := [.ref 63, .int (zt Z 61 q)]) (fun _ _ _ => rfl) ?_
    refine zw_get (v := .ref 61) rfl rfl rfl ?_
    refine zw_run 1 (pc' := 26) (loc' := [some (.ref 63), some (.int p), some (.int q)]) (stk' := [.int p, .ref 61, .int (zt Z 61 q)]) (fun _ _ _ => rfl) ?_
    refine zw_callf (As := [.ref 61, .int p]) (rest := [.int (zt Z 61 q)]) (c_row_at (id := 61) (by decide) p (d := d + 0)) rfl rfl rfl rfl ?_
    show zw fm sx (d + 1) 93 29 [some (.ref 63), some (.int p), some (.int q)] [.int (zt Z 61 p), .int (zt Z 61 q)] Z Q
    refine zw_br (c := ¬ (zt Z 61 q) = (zt Z 61 p)) (t1 := 38) (t2 := 32) (loc' := [some (.ref 63), some (.int p), some (.int q)]) (stk' := []) (fun _ _ _ => rfl) (fun c2 => ?_) (fun c2 => ?_)
    · rw [if_pos c2] at H
      refine zw_run 1 (pc' := 39) (loc' := [some (.ref 63), some (.int p), some (.int q)]) (stk' := [.int q]) (fun _ _ _ => rfl) ?_
      refine zw_reti (i := .nop) rfl rfl ?_
      exact H
    · rw [if_neg c2] at H
      refine zw_run 2 (pc' := 2) (loc' := [some (.ref 63), some (.int p), some (.int (q + 1))]) (stk' := []) (fun _ _ _ => rfl) ?_
      exact H
theorem l_93 {fm : Value} {sx : Nat × (Nat → Int32)} {d : Nat} {Q : Option Value → zr_Z → Prop} (p : Int32) : ∀ (n : Nat) (Z : zr_Z) (q : Int32), ((zs Z 61).toInt - q.toInt).toNat < n → Q (some (.int (g_93 n Z p q))) Z → zw fm sx (d + 1) 93 2 [some (.ref 63), some (.int p), some (.int q)] [] Z Q := by
  intro n
  induction n with
  | zero => intro Z q hn; exact absurd hn (Nat.not_lt_zero _)
  | succ n ih =>
    intro Z q hn HQ
    refine zw_most fun hm => b_93_2 p q ?_
    unfold g_93 at HQ
    by_cases c51 : (zs Z 61) ≤ q
    · rw [if_pos c51] at HQ ⊢
      exact HQ
    · rw [if_neg c51] at HQ ⊢
      by_cases c52 : ¬ (zt Z 61 q) = (zt Z 61 p)
      · rw [if_pos c52] at HQ ⊢
        exact HQ
      · rw [if_neg c52] at HQ ⊢
        refine ih Z (q + 1) ?_ HQ
        have u0 := Int32.not_le.mp c51
        have u1 := i32_up (by decide) hm u0 1 (by decide)
        have u2 := i32_lt.mp u0
        have u3 : 1 ≤ (1 : Int32).toInt := (by decide)
        omega
theorem t_93 {fm : Value} {sx : Nat × (Nat → Int32)} {d : Nat} {Z : zr_Z} {Q : Option Value → zr_Z → Prop} (p : Int32) (HQ : Q (some (.int (f_93 Z p))) Z) : zw fm sx (d + 1) 93 0 [some (.ref 63), some (.int p), none] [] Z Q := by
  refine b_93 p ?_
  unfold f_93 at HQ
  exact l_93 p _ _ _ (Nat.lt_succ_self _) HQ
theorem c_93 {fm : Value} {sx : Nat × (Nat → Int32)} {d : Nat} {Z : zr_Z} (p : Int32) : zl fm sx (d + 2) 93 [.ref 63, .int p] Z (fun r Z' => r = some (.int (f_93 Z p)) ∧ Z' = Z) :=
  zl_of (nL := 3) (loc0 := [some (.ref 63), some (.int p), none]) rfl rfl rfl (t_93 p ⟨rfl, rfl⟩)
/-- MarkInlines$Scan.spacesEnd, its loop -/
def g_95 : Nat → zr_Z → Int32 → Int32 → Int32
  | 0, Z, _, _ => 0
  | n + 1, Z, p, q => (if (zs Z 61) ≤ q then q else (if ¬ (zt Z 61 q) = 32 then q else g_95 n Z p (q + 1)))
def f_95 (Z : zr_Z) (p : Int32) : Int32 := g_95 (((zs Z 61).toInt - p.toInt).toNat + 1) Z p p
set_option maxRecDepth 100000 in
set_option maxHeartbeats 1000000 in
theorem b_95 {fm : Value} {sx : Nat × (Nat → Int32)} {d : Nat} {Z : zr_Z} {Q : Option Value → zr_Z → Prop} (p : Int32) (H : zw fm sx (d + 1) 95 2 [some (.ref 63), some (.int p), some (.int p)] [] Z Q) : zw fm sx (d + 1) 95 0 [some (.ref 63), some (.int p), none] [] Z Q := by
  refine zw_run 2 (pc' := 2) (loc' := [some (.ref 63), some (.int p), some (.int p)]) (stk' := []) (fun _ _ _ => rfl) ?_
  exact H
set_option maxRecDepth 100000 in
set_option maxHeartbeats 1000000 in
theorem b_95_2 {fm : Value} {sx : Nat × (Nat → Int32)} {d : Nat} {Z : zr_Z} {Q : Option Value → zr_Z → Prop} (p : Int32) (q : Int32) (H : (if (zs Z 61) ≤ q then Q (some (.int q)) Z else (if ¬ (zt Z 61 q) = 32 then Q (some (.int q)) Z else zw fm sx (d + 1) 95 2 [some (.ref 63), some (.int p), some (.int (q + 1))] [] Z Q))) : zw fm sx (d + 1) 95 2 [some (.ref 63), some (.int p), some (.int q)] [] Z Q := by
  refine zw_run 2 (pc' := 4) (loc' := [some (.ref 63), some (.int p), some (.int q)]) (stk' := [.ref 63, .int q]) (fun _ _ _ => rfl) ?_
  refine zw_get (v := .ref 61) rfl rfl rfl ?_
  refine zw_callf (As := [.ref 61]) (rest := [.int q]) (c_row_size (id := 61) (by decide) (d := d + 0)) rfl rfl rfl rfl ?_
  show zw fm sx (d + 1) 95 10 [some (.ref 63), some (.int p), some (.int q)] [.int (zs Z 61), .int q] Z Q
  refine zw_br (c := (zs Z 61) ≤ q) (t1 := 32) (t2 := 13) (loc' := [some (.ref 63), some (.int p), some (.int q)]) (stk' := []) (fun _ _ _ => rfl) (fun c1 => ?_) (fun c1 => ?_)
  · rw [if_pos c1] at H
    refine zw_run 1 (pc' := 33) (loc' := [some (.ref 63), some (.int p), some (.int q)]) (stk' := [.int q]) (fun _ _ _ => rfl) ?_
    refine zw_reti (i := .nop) rfl rfl ?_
    exact H
  · rw [if_neg c1] at H
    refine zw_run 1 (pc' := 14) (loc' := [some (.ref 63), some (.int p), some (.int q)]) (stk' := [.ref 63]) (fun _ _ _ => rfl) ?_
    refine zw_get (v := .ref 61) rfl rfl rfl ?_
    refine zw_run 1 (pc' := 18) (loc' := [some (.ref 63), some (.int p), some (.int q)]) (stk' := [.int q, .ref 61]) (fun _ _ _ => rfl) ?_
    refine zw_callf (As := [.ref 61, .int q]) (rest := []) (c_row_at (id := 61) (by decide) q (d := d + 0)) rfl rfl rfl rfl ?_
    show zw fm sx (d + 1) 95 21 [some (.ref 63), some (.int p), some (.int q)] [.int (zt Z 61 q)] Z Q
    refine zw_run 1 (pc' := 23) (loc' := [some (.ref 63), some (.int p), some (.int q)]) (stk' := [.int 32, .int (zt Z 61 q)]) (fun _ _ _ => rfl) ?_
    refine zw_br (c := ¬ (zt Z 61 q) = 32) (t1 := 32) (t2 := 26) (loc' := [some (.ref 63), some (.int p), some (.int q)]) (stk' := []) (fun _ _ _ => rfl) (fun c2 => ?_) (fun c2 => ?_)
    · rw [if_pos c2] at H
      refine zw_run 1 (pc' := 33) (loc' := [some (.ref 63), some (.int p), some (.int q)]) (stk' := [.int q]) (fun _ _ _ => rfl) ?_
      refine zw_reti (i := .nop) rfl rfl ?_
      exact H
    · rw [if_neg c2] at H
      refine zw_run 2 (pc' := 2) (loc' := [some (.ref 63), some (.int p), some (.int (q + 1))]) (stk' := []) (fun _ _ _ => rfl) ?_
      exact H
theorem l_95 {fm : Value} {sx : Nat × (Nat → Int32)} {d : Nat} {Q : Option Value → zr_Z → Prop} (p : Int32) : ∀ (n : Nat) (Z : zr_Z) (q : Int32), ((zs Z 61).toInt - q.toInt).toNat < n → Q (some (.int (g_95 n Z p q))) Z → zw fm sx (d + 1) 95 2 [some (.ref 63), some (.int p), some (.int q)] [] Z Q := by
  intro n
  induction n with
  | zero => intro Z q hn; exact absurd hn (Nat.not_lt_zero _)
  | succ n ih =>
    intro Z q hn HQ
    refine zw_most fun hm => b_95_2 p q ?_
    unfold g_95 at HQ
    by_cases c51 : (zs Z 61) ≤ q
    · rw [if_pos c51] at HQ ⊢
      exact HQ
    · rw [if_neg c51] at HQ ⊢
      by_cases c52 : ¬ (zt Z 61 q) = 32
      · rw [if_pos c52] at HQ ⊢
        exact HQ
      · rw [if_neg c52] at HQ ⊢
        refine ih Z (q + 1) ?_ HQ
        have u0 := Int32.not_le.mp c51
        have u1 := i32_up (by decide) hm u0 1 (by decide)
        have u2 := i32_lt.mp u0
        have u3 : 1 ≤ (1 : Int32).toInt := (by decide)
        omega
theorem t_95 {fm : Value} {sx : Nat × (Nat → Int32)} {d : Nat} {Z : zr_Z} {Q : Option Value → zr_Z → Prop} (p : Int32) (HQ : Q (some (.int (f_95 Z p))) Z) : zw fm sx (d + 1) 95 0 [some (.ref 63), some (.int p), none] [] Z Q := by
  refine b_95 p ?_
  unfold f_95 at HQ
  exact l_95 p _ _ _ (Nat.lt_succ_self _) HQ
theorem c_95 {fm : Value} {sx : Nat × (Nat → Int32)} {d : Nat} {Z : zr_Z} (p : Int32) : zl fm sx (d + 2) 95 [.ref 63, .int p] Z (fun r Z' => r = some (.int (f_95 Z p)) ∧ Z' = Z) :=
  zl_of (nL := 3) (loc0 := [some (.ref 63), some (.int p), none]) rfl rfl rfl (t_95 p ⟨rfl, rfl⟩)
/-- MarkInlines$Scan.gapEnd -/
def f_94 (Z : zr_Z) (p : Int32) : Int32 := (if ¬ (zt Z 61 (f_95 Z p)) = 10 then (f_95 Z p) else (f_95 Z ((f_95 Z p) + 1)) : Int32)
set_option maxRecDepth 100000 in
set_option maxHeartbeats 1000000 in
theorem b_94 {fm : Value} {sx : Nat × (Nat → Int32)} {d : Nat} {Z : zr_Z} {Q : Option Value → zr_Z → Prop} (p : Int32) (H : Q (some (.int (if ¬ (zt Z 61 (f_95 Z p)) = 10 then (f_95 Z p) else (f_95 Z ((f_95 Z p) + 1)) : Int32))) Z) : zw fm sx (d + 2) 94 0 [some (.ref 63), some (.int p), none] [] Z Q := by
  refine zw_run 2 (pc' := 2) (loc' := [some (.ref 63), some (.int p), none]) (stk' := [.int p, .ref 63]) (fun _ _ _ => rfl) ?_
  refine zw_callf (As := [.ref 63, .int p]) (rest := []) (c_95 p (d := d + 0)) rfl rfl rfl rfl ?_
  show zw fm sx (d + 2) 94 5 [some (.ref 63), some (.int p), none] [.int (f_95 Z p)] Z Q
  refine zw_run 2 (pc' := 7) (loc' := [some (.ref 63), some (.int p), some (.int (f_95 Z p))]) (stk' := [.ref 63]) (fun _ _ _ => rfl) ?_
  refine zw_get (v := .ref 61) rfl rfl rfl ?_
  refine zw_run 1 (pc' := 11) (loc' := [some (.ref 63), some (.int p), some (.int (f_95 Z p))]) (stk' := [.int (f_95 Z p), .ref 61]) (fun _ _ _ => rfl) ?_
  refine zw_callf (As := [.ref 61, .int (f_95 Z p)]) (rest := []) (c_row_at (id := 61) (by decide) (f_95 Z p) (d := d + 1)) rfl rfl rfl rfl ?_
  show zw fm sx (d + 2) 94 14 [some (.ref 63), some (.int p), some (.int (f_95 Z p))] [.int (zt Z 61 (f_95 Z p))] Z Q
  refine zw_run 1 (pc' := 16) (loc' := [some (.ref 63), some (.int p), some (.int (f_95 Z p))]) (stk' := [.int 10, .int (zt Z 61 (f_95 Z p))]) (fun _ _ _ => rfl) ?_
  have J3 : ∀ (v2 : Int32), v2 = (if ¬ (zt Z 61 (f_95 Z p)) = 10 then (f_95 Z p) else (f_95 Z ((f_95 Z p) + 1)) : Int32) → zw fm sx (d + 2) 94 30 [some (.ref 63), some (.int p), some (.int (f_95 Z p))] [.int v2] Z Q := by
    intro v2 ev2
    subst ev2
    refine zw_reti (i := .nop) rfl rfl ?_
    exact H
  refine zw_br (c := ¬ (zt Z 61 (f_95 Z p)) = 10) (t1 := 29) (t2 := 19) (loc' := [some (.ref 63), some (.int p), some (.int (f_95 Z p))]) (stk' := []) (fun _ _ _ => rfl) (fun c1 => ?_) (fun c1 => ?_)
  · skip
    refine zw_run 1 (pc' := 30) (loc' := [some (.ref 63), some (.int p), some (.int (f_95 Z p))]) (stk' := [.int (f_95 Z p)]) (fun _ _ _ => rfl) ?_
    exact J3 _ (by first | (rw [if_pos c1]; done) | (rw [if_pos c1]; rfl) | (clear H J3; simp_all [bI]; done))
  · skip
    refine zw_run 4 (pc' := 23) (loc' := [some (.ref 63), some (.int p), some (.int (f_95 Z p))]) (stk' := [.int ((f_95 Z p) + 1), .ref 63]) (fun _ _ _ => rfl) ?_
    refine zw_callf (As := [.ref 63, .int ((f_95 Z p) + 1)]) (rest := []) (c_95 ((f_95 Z p) + 1) (d := d + 0)) rfl rfl rfl rfl ?_
    show zw fm sx (d + 2) 94 26 [some (.ref 63), some (.int p), some (.int (f_95 Z p))] [.int (f_95 Z ((f_95 Z p) + 1))] Z Q
    refine zw_run 1 (pc' := 30) (loc' := [some (.ref 63), some (.int p), some (.int (f_95 Z p))]) (stk' := [.int (f_95 Z ((f_95 Z p) + 1))]) (fun _ _ _ => rfl) ?_
    exact J3 _ (by first | (rw [if_neg c1]; done) | (rw [if_neg c1]; rfl) | (clear H J3; simp_all [bI]; done))
theorem t_94 {fm : Value} {sx : Nat × (Nat → Int32)} {d : Nat} {Z : zr_Z} {Q : Option Value → zr_Z → Prop} (p : Int32) (HQ : Q (some (.int (f_94 Z p))) Z) : zw fm sx (d + 2) 94 0 [some (.ref 63), some (.int p), none] [] Z Q := by
  refine b_94 p ?_
  unfold f_94 at HQ
  exact HQ
theorem c_94 {fm : Value} {sx : Nat × (Nat → Int32)} {d : Nat} {Z : zr_Z} (p : Int32) : zl fm sx (d + 3) 94 [.ref 63, .int p] Z (fun r Z' => r = some (.int (f_94 Z p)) ∧ Z' = Z) :=
  zl_of (nL := 3) (loc0 := [some (.ref 63), some (.int p), none]) rfl rfl rfl (t_94 p ⟨rfl, rfl⟩)
/-- MarkInlines$Scan.labelStop, its loop -/
def g_96 : Nat → zr_Z → Int32 → Int32 → Int32
  | 0, Z, _, _ => 0
  | n + 1, Z, a, q => (if (zs Z 61) ≤ q then q else (if (a + 100) < q then q else (if (zt Z 61 q) = 91 then q else (if ¬ (zt Z 61 q) = 93 then g_96 n Z a (q + (if ¬ (zt Z 61 q) = 92 then 1 else 2 : Int32)) else q))))
def f_96 (Z : zr_Z) (a : Int32) : Int32 := g_96 (((zs Z 61).toInt - a.toInt).toNat + 1) Z a a
set_option maxRecDepth 100000 in
set_option maxHeartbeats 1000000 in
theorem b_96 {fm : Value} {sx : Nat × (Nat → Int32)} {d : Nat} {Z : zr_Z} {Q : Option Value → zr_Z → Prop} (a : Int32) (H : zw fm sx (d + 1) 96 2 [some (.ref 63), some (.int a), some (.int a), none] [] Z Q) : zw fm sx (d + 1) 96 0 [some (.ref 63), some (.int a), none, none] [] Z Q := by
  refine zw_run 2 (pc' := 2) (loc' := [some (.ref 63), some (.int a), some (.int a), none]) (stk' := []) (fun _ _ _ => rfl) ?_
  exact H
set_option maxRecDepth 100000 in
set_option maxHeartbeats 1000000 in
theorem b_96_2 {fm : Value} {sx : Nat × (Nat → Int32)} {d : Nat} {Z : zr_Z} {Q : Option Value → zr_Z → Prop} (a : Int32) (q : Int32) (H : (if (zs Z 61) ≤ q then Q (some (.int q)) Z else (if (a + 100) < q then Q (some (.int q)) Z else (if (zt Z 61 q) = 91 then Q (some (.int q)) Z else (if ¬ (zt Z 61 q) = 93 then zw fm sx (d + 1) 96 2 [some (.ref 63), some (.int a), some (.int (q + (if ¬ (zt Z 61 q) = 92 then 1 else 2 : Int32))), none] [] Z Q else Q (some (.int q)) Z))))) : zw fm sx (d + 1) 96 2 [some (.ref 63), some (.int a), some (.int q), none] [] Z Q := by
  refine zw_run 2 (pc' := 4) (loc' := [some (.ref 63), some (.int a), some (.int q), none]) (stk' := [.ref 63, .int q]) (fun _ _ _ => rfl) ?_
  refine zw_get (v := .ref 61) rfl rfl rfl ?_
  refine zw_callf (As := [.ref 61]) (rest := [.int q]) (c_row_size (id := 61) (by decide) (d := d + 0)) rfl rfl rfl rfl ?_
  show zw fm sx (d + 1) 96 10 [some (.ref 63), some (.int a), some (.int q), none] [.int (zs Z 61), .int q] Z Q
  refine zw_br (c := (zs Z 61) ≤ q) (t1 := 61) (t2 := 13) (loc' := [some (.ref 63), some (.int a), some (.int q), none]) (stk' := []) (fun _ _ _ => rfl) (fun c1 => ?_) (fun c1 => ?_)
  · rw [if_pos c1] at H
    refine zw_run 1 (pc' := 62) (loc' := [some (.ref 63), some (.int a), some (.int q), none]) (stk' := [.int q]) (fun _ _ _ => rfl) ?_
    refine zw_reti (i := .nop) rfl rfl ?_
    exact H
  · rw [if_neg c1] at H
    refine zw_run 4 (pc' := 18) (loc' := [some (.ref 63), some (.int a), some (.int q), none]) (stk' := [.int (a + 100), .int q]) (fun _ _ _ => rfl) ?_
    refine zw_br (c := (a + 100) < q) (t1 := 61) (t2 := 21) (loc' := [some (.ref 63), some (.int a), some (.int q), none]) (stk' := []) (fun _ _ _ => rfl) (fun c2 => ?_) (fun c2 => ?_)
    · rw [if_pos c2] at H
      refine zw_run 1 (pc' := 62) (loc' := [some (.ref 63), some (.int a), some (.int q), none]) (stk' := [.int q]) (fun _ _ _ => rfl) ?_
      refine zw_reti (i := .nop) rfl rfl ?_
      exact H
    · rw [if_neg c2] at H
      refine zw_run 1 (pc' := 22) (loc' := [some (.ref 63), some (.int a), some (.int q), none]) (stk' := [.ref 63]) (fun _ _ _ => rfl) ?_
      refine zw_get (v := .ref 61) rfl rfl rfl ?_
      refine zw_run 1 (pc' := 26) (loc' := [some (.ref 63), some (.int a), some (.int q), none]) (stk' := [.int q, .ref 61]) (fun _ _ _ => rfl) ?_
      refine zw_callf (As := [.ref 61, .int q]) (rest := []) (c_row_at (id := 61) (by decide) q (d := d + 0)) rfl rfl rfl rfl ?_
      show zw fm sx (d + 1) 96 29 [some (.ref 63), some (.int a), some (.int q), none] [.int (zt Z 61 q)] Z Q
      refine zw_run 3 (pc' := 33) (loc' := [some (.ref 63), some (.int a), some (.int q), some (.int (zt Z 61 q))]) (stk' := [.int 91, .int (zt Z 61 q)]) (fun _ _ _ => rfl) ?_
      refine zw_br (c := (zt Z 61 q) = 91) (t1 := 42) (t2 := 36) (loc' := [some (.ref 63), some (.int a), some (.int q), some (.int (zt Z 61 q))]) (stk' := []) (fun _ _ _ => rfl) (fun c3 => ?_) (fun c3 => ?_)
      · rw [if_pos c3] at H
        refine zw_run 1 (pc' := 43) (loc' := [some (.ref 63), some (.int a), some (.int q), some (.int (zt Z 61 q))]) (stk' := [.int q]) (fun _ _ _ => rfl) ?_
        refine zw_reti (i := .nop) rfl rfl ?_
        exact H
      · rw [if_neg c3] at H
        refine zw_run 2 (pc' := 39) (loc' := [some (.ref 63), some (.int a), some (.int q), some (.int (zt Z 61 q))]) (stk' := [.int 93, .int (zt Z 61 q)]) (fun _ _ _ => rfl) ?_
        refine zw_br (c := ¬ (zt Z 61 q) = 93) (t1 := 44) (t2 := 42) (loc' := [some (.ref 63), some (.int a), some (.int q), some (.int (zt Z 61 q))]) (stk' := []) (fun _ _ _ => rfl) (fun c4 => ?_) (fun c4 => ?_)
        · rw [if_pos c4] at H
          refine zw_run 3 (pc' := 48) (loc' := [some (.ref 63), some (.int a), some (.int q), some (.int (zt Z 61 q))]) (stk' := [.int 92, .int (zt Z 61 q), .int q]) (fun _ _ _ => rfl) ?_
          have J7 : ∀ (v6 : Int32), v6 = (if ¬ (zt Z 61 q) = 92 then 1 else 2 : Int32) → zw fm sx (d + 1) 96 56 [some (.ref 63), some (.int a), some (.int q), some (.int (zt Z 61 q))] [.int v6, .int q] Z Q := by
            intro v6 ev6
            subst ev6
            refine zw_run 3 (pc' := 2) (loc' := [some (.ref 63), some (.int a), some (.int (q + (if ¬ (zt Z 61 q) = 92 then 1 else 2 : Int32))), some (.int (zt Z 61 q))]) (stk' := []) (fun _ _ _ => rfl) ?_
            refine zw_fgt [true, true, true, false] rfl ?_
            exact H
          refine zw_br (c := ¬ (zt Z 61 q) = 92) (t1 := 55) (t2 := 51) (loc' := [some (.ref 63), some (.int a), some (.int q), some (.int (zt Z 61 q))]) (stk' := [.int q]) (fun _ _ _ => rfl) (fun c5 => ?_) (fun c5 => ?_)
          · skip
            refine zw_run 1 (pc' := 56) (loc' := [some (.ref 63), some (.int a), some (.int q), some (.int (zt Z 61 q))]) (stk' := [.int 1, .int q]) (fun _ _ _ => rfl) ?_
            exact J7 _ (by first | (rw [if_pos c5]; done) | (rw [if_pos c5]; rfl) | (clear H J7; simp_all [bI]; done))
          · skip
            refine zw_run 2 (pc' := 56) (loc' := [some (.ref 63), some (.int a), some (.int q), some (.int (zt Z 61 q))]) (stk' := [.int 2, .int q]) (fun _ _ _ => rfl) ?_
            exact J7 _ (by first | (rw [if_neg c5]; done) | (rw [if_neg c5]; rfl) | (clear H J7; simp_all [bI]; done))
        · rw [if_neg c4] at H
          refine zw_run 1 (pc' := 43) (loc' := [some (.ref 63), some (.int a), some (.int q), some (.int (zt Z 61 q))]) (stk' := [.int q]) (fun _ _ _ => rfl) ?_
          refine zw_reti (i := .nop) rfl rfl ?_
          exact H
theorem l_96 {fm : Value} {sx : Nat × (Nat → Int32)} {d : Nat} {Q : Option Value → zr_Z → Prop} (a : Int32) : ∀ (n : Nat) (Z : zr_Z) (q : Int32), ((zs Z 61).toInt - q.toInt).toNat < n → Q (some (.int (g_96 n Z a q))) Z → zw fm sx (d + 1) 96 2 [some (.ref 63), some (.int a), some (.int q), none] [] Z Q := by
  intro n
  induction n with
  | zero => intro Z q hn; exact absurd hn (Nat.not_lt_zero _)
  | succ n ih =>
    intro Z q hn HQ
    refine zw_most fun hm => b_96_2 a q ?_
    unfold g_96 at HQ
    by_cases c51 : (zs Z 61) ≤ q
    · rw [if_pos c51] at HQ ⊢
      exact HQ
    · rw [if_neg c51] at HQ ⊢
      by_cases c52 : (a + 100) < q
      · rw [if_pos c52] at HQ ⊢
        exact HQ
      · rw [if_neg c52] at HQ ⊢
        by_cases c53 : (zt Z 61 q) = 91
        · rw [if_pos c53] at HQ ⊢
          exact HQ
        · rw [if_neg c53] at HQ ⊢
          by_cases c54 : ¬ (zt Z 61 q) = 93
          · rw [if_pos c54] at HQ ⊢
            refine ih Z (q + (if ¬ (zt Z 61 q) = 92 then 1 else 2 : Int32)) ?_ HQ
            have u0 := Int32.not_le.mp c51
            have u1 := i32_up (by decide) hm u0 (if ¬ (zt Z 61 q) = 92 then 1 else 2 : Int32) (by split <;> decide)
            have u2 := i32_lt.mp u0
            have u3 : 1 ≤ ((if ¬ (zt Z 61 q) = 92 then 1 else 2 : Int32) : Int32).toInt := (by split <;> decide)
            omega
          · rw [if_neg c54] at HQ ⊢
            exact HQ
theorem t_96 {fm : Value} {sx : Nat × (Nat → Int32)} {d : Nat} {Z : zr_Z} {Q : Option Value → zr_Z → Prop} (a : Int32) (HQ : Q (some (.int (f_96 Z a))) Z) : zw fm sx (d + 1) 96 0 [some (.ref 63), some (.int a), none, none] [] Z Q := by
  refine b_96 a ?_
  unfold f_96 at HQ
  exact l_96 a _ _ _ (Nat.lt_succ_self _) HQ
theorem c_96 {fm : Value} {sx : Nat × (Nat → Int32)} {d : Nat} {Z : zr_Z} (a : Int32) : zl fm sx (d + 2) 96 [.ref 63, .int a] Z (fun r Z' => r = some (.int (f_96 Z a)) ∧ Z' = Z) :=
  zl_of (nL := 4) (loc0 := [some (.ref 63), some (.int a), none, none]) rfl rfl rfl (t_96 a ⟨rfl, rfl⟩)
/-- MarkInlines$Scan.isAllWhite, its loop -/
def g_98 : Nat → zr_Z → Int32 → Int32 → Int32 → Bool
  | 0, Z, _, _, _ => false
  | n + 1, Z, a, b, q => (if b ≤ q then true else (if (k_194 (zt Z 61 q)) = true then g_98 n Z a b (q + 1) else false))
def f_98 (Z : zr_Z) (a : Int32) (b : Int32) : Bool := g_98 ((b.toInt - a.toInt).toNat + 1) Z a b a
set_option maxRecDepth 100000 in
set_option maxHeartbeats 1000000 in
theorem b_98 {fm : Value} {sx : Nat × (Nat → Int32)} {d : Nat} {Z : zr_Z} {Q : Option Value → zr_Z → Prop} (a : Int32) (b : Int32) (H : zw fm sx (d + 1) 98 2 [some (.ref 63), some (.int a), some (.int b), some (.int a)] [] Z Q) : zw fm sx (d + 1) 98 0 [some (.ref 63), some (.int a), some (.int b), none] [] Z Q := by
  refine zw_run 2 (pc' := 2) (loc' := [some (.ref 63), some (.int a), some (.int b), some (.int a)]) (stk' := []) (fun _ _ _ => rfl) ?_
  exact H
set_option maxRecDepth 100000 in
set_option maxHeartbeats 1000000 in
theorem b_98_2 {fm : Value} {sx : Nat × (Nat → Int32)} {d : Nat} {Z : zr_Z} {Q : Option Value → zr_Z → Prop} (a : Int32) (b : Int32) (q : Int32) (H : (if b ≤ q then Q (some (.int 1)) Z else (if (k_194 (zt Z 61 q)) = true then zw fm sx (d + 1) 98 2 [some (.ref 63), some (.int a), some (.int b), some (.int (q + 1))] [] Z Q else Q (some (.int 0)) Z))) : zw fm sx (d + 1) 98 2 [some (.ref 63), some (.int a), some (.int b), some (.int q)] [] Z Q := by
  refine zw_run 2 (pc' := 4) (loc' := [some (.ref 63), some (.int a), some (.int b), some (.int q)]) (stk' := [.int b, .int q]) (fun _ _ _ => rfl) ?_
  refine zw_br (c := b ≤ q) (t1 := 29) (t2 := 7) (loc' := [some (.ref 63), some (.int a), some (.int b), some (.int q)]) (stk' := []) (fun _ _ _ => rfl) (fun c1 => ?_) (fun c1 => ?_)
  · rw [if_pos c1] at H
    refine zw_run 1 (pc' := 30) (loc' := [some (.ref 63), some (.int a), some (.int b), some (.int q)]) (stk' := [.int 1]) (fun _ _ _ => rfl) ?_
    refine zw_retz rfl rfl (Or.inr rfl) ?_
    exact H
  · rw [if_neg c1] at H
    refine zw_run 1 (pc' := 8) (loc' := [some (.ref 63), some (.int a), some (.int b), some (.int q)]) (stk' := [.ref 63]) (fun _ _ _ => rfl) ?_
    refine zw_get (v := .ref 61) rfl rfl rfl ?_
    refine zw_run 1 (pc' := 12) (loc' := [some (.ref 63), some (.int a), some (.int b), some (.int q)]) (stk' := [.int q, .ref 61]) (fun _ _ _ => rfl) ?_
    refine zw_callf (As := [.ref 61, .int q]) (rest := []) (c_row_at (id := 61) (by decide) q (d := d + 0)) rfl rfl rfl rfl ?_
    show zw fm sx (d + 1) 98 15 [some (.ref 63), some (.int a), some (.int b), some (.int q)] [.int (zt Z 61 q)] Z Q
    refine zw_callf (As := [.int (zt Z 61 q)]) (rest := []) (c_194 (zt Z 61 q) (d := d + 0)) rfl rfl rfl rfl ?_
    show zw fm sx (d + 1) 98 18 [some (.ref 63), some (.int a), some (.int b), some (.int q)] [.int (bI (k_194 (zt Z 61 q)))] Z Q
    refine zw_b1 (b := (k_194 (zt Z 61 q))) (t1 := 23) (t2 := 21) (loc' := [some (.ref 63), some (.int a), some (.int b), some (.int q)]) (stk' := []) (fun _ _ _ => rfl) (fun c2 => ?_) (fun c2 => ?_)
    · rw [if_pos c2] at H
      refine zw_run 2 (pc' := 2) (loc' := [some (.ref 63), some (.int a), some (.int b), some (.int (q + 1))]) (stk' := []) (fun _ _ _ => rfl) ?_
      exact H
    · rw [if_neg c2] at H
      refine zw_run 1 (pc' := 22) (loc' := [some (.ref 63), some (.int a), some (.int b), some (.int q)]) (stk' := [.int 0]) (fun _ _ _ => rfl) ?_
      refine zw_retz rfl rfl (Or.inl rfl) ?_
      exact H
theorem l_98 {fm : Value} {sx : Nat × (Nat → Int32)} {d : Nat} {Q : Option Value → zr_Z → Prop} (a : Int32) (b : Int32) : ∀ (n : Nat) (Z : zr_Z) (q : Int32), (b.toInt - q.toInt).toNat < n → Q (some (.int (bI (g_98 n Z a b q)))) Z → zw fm sx (d + 1) 98 2 [some (.ref 63), some (.int a), some (.int b), some (.int q)] [] Z Q := by
  intro n
  induction n with
  | zero => intro Z q hn; exact absurd hn (Nat.not_lt_zero _)
  | succ n ih =>
    intro Z q hn HQ
    refine zw_most fun hm => b_98_2 a b q ?_
    unfold g_98 at HQ
    by_cases c51 : b ≤ q
    · rw [if_pos c51] at HQ ⊢
      exact HQ
    · rw [if_neg c51] at HQ ⊢
      by_cases c52 : (k_194 (zt Z 61 q)) = true
      · rw [if_pos c52] at HQ ⊢
        refine ih Z (q + 1) ?_ HQ
        have u0 := i32_lt.mp (Int32.not_le.mp c51)
        have u1 := i32_rng b
        have u2 : (1 : Int32).toInt = 1 := (by decide)
        have u3 := i32_add (q := q) (k := 1) (by have := i32_rng q; omega) (by omega)
        omega
      · rw [if_neg c52] at HQ ⊢
        exact HQ
theorem t_98 {fm : Value} {sx : Nat × (Nat → Int32)} {d : Nat} {Z : zr_Z} {Q : Option Value → zr_Z → Prop} (a : Int32) (b : Int32) (HQ : Q (some (.int (bI (f_98 Z a b)))) Z) : zw fm sx (d + 1) 98 0 [some (.ref 63), some (.int a), some (.int b), none] [] Z Q := by
  refine b_98 a b ?_
  unfold f_98 at HQ
  exact l_98 a b _ _ _ (Nat.lt_succ_self _) HQ
theorem c_98 {fm : Value} {sx : Nat × (Nat → Int32)} {d : Nat} {Z : zr_Z} (a : Int32) (b : Int32) : zl fm sx (d + 2) 98 [.ref 63, .int a, .int b] Z (fun r Z' => r = some (.int (bI (f_98 Z a b))) ∧ Z' = Z) :=
  zl_of (nL := 4) (loc0 := [some (.ref 63), some (.int a), some (.int b), none]) rfl rfl rfl (t_98 a b ⟨rfl, rfl⟩)
/-- MarkInlines$Scan.isLabelText -/
def f_97 (Z : zr_Z) (a : Int32) (b : Int32) : Bool := ((!(decide (b ≤ a))) && ((!(decide (100 < (b - a)))) && ((decide ((f_96 Z a) = b)) && (!(f_98 Z a b)))))
set_option maxRecDepth 100000 in
set_option maxHeartbeats 1000000 in
theorem b_97 {fm : Value} {sx : Nat × (Nat → Int32)} {d : Nat} {Z : zr_Z} {Q : Option Value → zr_Z → Prop} (a : Int32) (b : Int32) (H : Q (some (.int (bI ((!(decide (b ≤ a))) && ((!(decide (100 < (b - a)))) && ((decide ((f_96 Z a) = b)) && (!(f_98 Z a b)))))))) Z) : zw fm sx (d + 2) 97 0 [some (.ref 63), some (.int a), some (.int b)] [] Z Q := by
  refine zw_run 2 (pc' := 2) (loc' := [some (.ref 63), some (.int a), some (.int b)]) (stk' := [.int a, .int b]) (fun _ _ _ => rfl) ?_
  have J6 : ∀ (v5 : Int32), v5 = (bI ((!(decide (b ≤ a))) && ((!(decide (100 < (b - a)))) && ((decide ((f_96 Z a) = b)) && (!(f_98 Z a b)))))) → zw fm sx (d + 2) 97 36 [some (.ref 63), some (.int a), some (.int b)] [.int v5] Z Q := by
    intro v5 ev5
    subst ev5
    refine zw_retz rfl rfl (bI_01 _) ?_
    exact H
  refine zw_br (c := b ≤ a) (t1 := 35) (t2 := 5) (loc' := [some (.ref 63), some (.int a), some (.int b)]) (stk' := []) (fun _ _ _ => rfl) (fun c1 => ?_) (fun c1 => ?_)
  · skip
    refine zw_run 1 (pc' := 36) (loc' := [some (.ref 63), some (.int a), some (.int b)]) (stk' := [.int 0]) (fun _ _ _ => rfl) ?_
    exact J6 _ (by clear H J6; first | (simp [bI, c1]; done) | (simp [bI, *]; done) | (simp_all [bI]; done) | (exfalso; simp_all; done))
  · skip
    refine zw_run 4 (pc' := 10) (loc' := [some (.ref 63), some (.int a), some (.int b)]) (stk' := [.int 100, .int (b - a)]) (fun _ _ _ => rfl) ?_
    refine zw_br (c := 100 < (b - a)) (t1 := 35) (t2 := 13) (loc' := [some (.ref 63), some (.int a), some (.int b)]) (stk' := []) (fun _ _ _ => rfl) (fun c2 => ?_) (fun c2 => ?_)
    · skip
      refine zw_run 1 (pc' := 36) (loc' := [some (.ref 63), some (.int a), some (.int b)]) (stk' := [.int 0]) (fun _ _ _ => rfl) ?_
      exact J6 _ (by clear H J6; first | (simp [bI, c1, c2]; done) | (simp [bI, *]; done) | (simp_all [bI]; done) | (exfalso; simp_all; done))
    · skip
      refine zw_run 2 (pc' := 15) (loc' := [some (.ref 63), some (.int a), some (.int b)]) (stk' := [.int a, .ref 63]) (fun _ _ _ => rfl) ?_
      refine zw_callf (As := [.ref 63, .int a]) (rest := []) (c_96 a (d := d + 0)) rfl rfl rfl rfl ?_
      show zw fm sx (d + 2) 97 18 [some (.ref 63), some (.int a), some (.int b)] [.int (f_96 Z a)] Z Q
      refine zw_run 1 (pc' := 19) (loc' := [some (.ref 63), some (.int a), some (.int b)]) (stk' := [.int b, .int (f_96 Z a)]) (fun _ _ _ => rfl) ?_
      refine zw_br (c := ¬ (f_96 Z a) = b) (t1 := 35) (t2 := 22) (loc' := [some (.ref 63), some (.int a), some (.int b)]) (stk' := []) (fun _ _ _ => rfl) (fun c3 => ?_) (fun c3 => ?_)
      · skip
        refine zw_run 1 (pc' := 36) (loc' := [some (.ref 63), some (.int a), some (.int b)]) (stk' := [.int 0]) (fun _ _ _ => rfl) ?_
        exact J6 _ (by clear H J6; first | (simp [bI, c1, c2, c3]; done) | (simp [bI, *]; done) | (simp_all [bI]; done) | (exfalso; simp_all; done))
      · skip
        refine zw_run 3 (pc' := 25) (loc' := [some (.ref 63), some (.int a), some (.int b)]) (stk' := [.int b, .int a, .ref 63]) (fun _ _ _ => rfl) ?_
        refine zw_callf (As := [.ref 63, .int a, .int b]) (rest := []) (c_98 a b (d := d + 0)) rfl rfl rfl rfl ?_
        show zw fm sx (d + 2) 97 28 [some (.ref 63), some (.int a), some (.int b)] [.int (bI (f_98 Z a b))] Z Q
        refine zw_b1 (b := (f_98 Z a b)) (t1 := 35) (t2 := 31) (loc' := [some (.ref 63), some (.int a), some (.int b)]) (stk' := []) (fun _ _ _ => rfl) (fun c4 => ?_) (fun c4 => ?_)
        · skip
          refine zw_run 1 (pc' := 36) (loc' := [some (.ref 63), some (.int a), some (.int b)]) (stk' := [.int 0]) (fun _ _ _ => rfl) ?_
          exact J6 _ (by clear H J6; first | (simp [bI, c1, c2, c3, c4]; done) | (simp [bI, *]; done) | (simp_all [bI]; done) | (exfalso; simp_all; done))
        · skip
          refine zw_run 2 (pc' := 36) (loc' := [some (.ref 63), some (.int a), some (.int b)]) (stk' := [.int 1]) (fun _ _ _ => rfl) ?_
          exact J6 _ (by clear H J6; first | (simp [bI, c1, c2, c3, c4]; done) | (simp [bI, *]; done) | (simp_all [bI]; done) | (exfalso; simp_all; done))
theorem t_97 {fm : Value} {sx : Nat × (Nat → Int32)} {d : Nat} {Z : zr_Z} {Q : Option Value → zr_Z → Prop} (a : Int32) (b : Int32) (HQ : Q (some (.int (bI (f_97 Z a b)))) Z) : zw fm sx (d + 2) 97 0 [some (.ref 63), some (.int a), some (.int b)] [] Z Q := by
  refine b_97 a b ?_
  unfold f_97 at HQ
  exact HQ
theorem c_97 {fm : Value} {sx : Nat × (Nat → Int32)} {d : Nat} {Z : zr_Z} (a : Int32) (b : Int32) : zl fm sx (d + 3) 97 [.ref 63, .int a, .int b] Z (fun r Z' => r = some (.int (bI (f_97 Z a b))) ∧ Z' = Z) :=
  zl_of (nL := 3) (loc0 := [some (.ref 63), some (.int a), some (.int b)]) rfl rfl rfl (t_97 a b ⟨rfl, rfl⟩)
/-- MarkInlines$Scan.angleTargetEnd, its loop -/
def g_99 : Nat → zr_Z → Int32 → Int32 → Int32
  | 0, Z, _, _ => 0
  | n + 1, Z, p, q => (if (zs Z 61) ≤ q then (-1) else (if ¬ (zt Z 61 q) = 62 then (if (zt Z 61 q) = 60 then (-1) else (if ¬ (zt Z 61 q) = 10 then g_99 n Z p (q + (if (f_92 Z q) = true then 2 else 1 : Int32)) else (-1))) else (q + 1)))
def f_99 (Z : zr_Z) (p : Int32) : Int32 := g_99 (((zs Z 61).toInt - (p + 1).toInt).toNat + 1) Z p (p + 1)
set_option maxRecDepth 100000 in
set_option maxHeartbeats 1000000 in
theorem b_99 {fm : Value} {sx : Nat × (Nat → Int32)} {d : Nat} {Z : zr_Z} {Q : Option Value → zr_Z → Prop} (p : Int32) (H : zw fm sx (d + 2) 99 4 [some (.ref 63), some (.int p), some (.int (p + 1)), none] [] Z Q) : zw fm sx (d + 2) 99 0 [some (.ref 63), some (.int p), none, none] [] Z Q := by
  refine zw_run 4 (pc' := 4) (loc' := [some (.ref 63), some (.int p), some (.int (p + 1)), none]) (stk' := []) (fun _ _ _ => rfl) ?_
  exact H
set_option maxRecDepth 100000 in
set_option maxHeartbeats 1000000 in
theorem b_99_4 {fm : Value} {sx : Nat × (Nat → Int32)} {d : Nat} {Z : zr_Z} {Q : Option Value → zr_Z → Prop} (p : Int32) (q : Int32) (H : (if (zs Z 61) ≤ q then Q (some (.int (-1))) Z else (if ¬ (zt Z 61 q) = 62 then (if (zt Z 61 q) = 60 then Q (some (.int (-1))) Z else (if ¬ (zt Z 61 q) = 10 then zw fm sx (d + 2) 99 4 [some (.ref 63), some (.int p), some (.int (q + (if (f_92 Z q) = true then 2 else 1 : Int32))), none] [] Z Q else Q (some (.int (-1))) Z)) else Q (some (.int (q + 1))) Z))) : zw fm sx (d + 2) 99 4 [some (.ref 63), some (.int p), some (.int q), none] [] Z Q := by
  refine zw_run 2 (pc' := 6) (loc' := [some (.ref 63), some (.int p), some (.int q), none]) (stk' := [.ref 63, .int q]) (fun _ _ _ => rfl) ?_
  refine zw_get (v := .ref 61) rfl rfl rfl ?_
  refine zw_callf (As := [.ref 61]) (rest := [.int q]) (c_row_size (id := 61) (by decide) (d := d + 1)) rfl rfl rfl rfl ?_
  show zw fm sx (d + 2) 99 12 [some (.ref 63), some (.int p), some (.int q), none] [.int (zs Z 61), .int q] Z Q
  refine zw_br (c := (zs Z 61) ≤ q) (t1 := 67) (t2 := 15) (loc' := [some (.ref 63), some (.int p), some (.int q), none]) (stk' := []) (fun _ _ _ => rfl) (fun c1 => ?_) (fun c1 => ?_)
  · rw [if_pos c1] at H
    refine zw_run 1 (pc' := 68) (loc' := [some (.ref 63), some (.int p), some (.int q), none]) (stk' := [.int (-1)]) (fun _ _ _ => rfl) ?_
    refine zw_reti (i := .nop) rfl rfl ?_
    exact H
  · rw [if_neg c1] at H
    refine zw_run 1 (pc' := 16) (loc' := [some (.ref 63), some (.int p), some (.int q), none]) (stk' := [.ref 63]) (fun _ _ _ => rfl) ?_
    refine zw_get (v := .ref 61) rfl rfl rfl ?_
    refine zw_run 1 (pc' := 20) (loc' := [some (.ref 63), some (.int p), some (.int q), none]) (stk' := [.int q, .ref 61]) (fun _ _ _ => rfl) ?_
    refine zw_callf (As := [.ref 61, .int q]) (rest := []) (c_row_at (id := 61) (by decide) q (d := d + 1)) rfl rfl rfl rfl ?_
    show zw fm sx (d + 2) 99 23 [some (.ref 63), some (.int p), some (.int q), none] [.int (zt Z 61 q)] Z Q
    refine zw_run 3 (pc' := 27) (loc' := [some (.ref 63), some (.int p), some (.int q), some (.int (zt Z 61 q))]) (stk' := [.int 62, .int (zt Z 61 q)]) (fun _ _ _ => rfl) ?_
    refine zw_br (c := ¬ (zt Z 61 q) = 62) (t1 := 34) (t2 := 30) (loc' := [some (.ref 63), some (.int p), some (.int q), some (.int (zt Z 61 q))]) (stk' := []) (fun _ _ _ => rfl) (fun c2 => ?_) (fun c2 => ?_)
    · rw [if_pos c2] at H
      refine zw_run 2 (pc' := 37) (loc' := [some (.ref 63), some (.int p), some (.int q), some (.int (zt Z 61 q))]) (stk' := [.int 60, .int (zt Z 61 q)]) (fun _ _ _ => rfl) ?_
      refine zw_br (c := (zt Z 61 q) = 60) (t1 := 46) (t2 := 40) (loc' := [some (.ref 63), some (.int p), some (.int q), some (.int (zt Z 61 q))]) (stk' := []) (fun _ _ _ => rfl) (fun c3 => ?_) (fun c3 => ?_)
      · rw [if_pos c3] at H
        refine zw_run 1 (pc' := 47) (loc' := [some (.ref 63), some (.int p), some (.int q), some (.int (zt Z 61 q))]) (stk' := [.int (-1)]) (fun _ _ _ => rfl) ?_
        refine zw_reti (i := .nop) rfl rfl ?_
        exact H
      · rw [if_neg c3] at H
        refine zw_run 2 (pc' := 43) (loc' := [some (.ref 63), some (.int p), some (.int q), some (.int (zt Z 61 q))]) (stk' := [.int 10, .int (zt Z 61 q)]) (fun _ _ _ => rfl) ?_
        refine zw_br (c := ¬ (zt Z 61 q) = 10) (t1 := 48) (t2 := 46) (loc' := [some (.ref 63), some (.int p), some (.int q), some (.int (zt Z 61 q))]) (stk' := []) (fun _ _ _ => rfl) (fun c4 => ?_) (fun c4 => ?_)
        · rw [if_pos c4] at H
          refine zw_run 3 (pc' := 51) (loc' := [some (.ref 63), some (.int p), some (.int q), some (.int (zt Z 61 q))]) (stk' := [.int q, .ref 63, .int q]) (fun _ _ _ => rfl) ?_
          refine zw_callf (As := [.ref 63, .int q]) (rest := [.int q]) (c_92 q (d := d + 0)) rfl rfl rfl rfl ?_
          show zw fm sx (d + 2) 99 54 [some (.ref 63), some (.int p), some (.int q), some (.int (zt Z 61 q))] [.int (bI (f_92 Z q)), .int q] Z Q
          have J7 : ∀ (v6 : Int32), v6 = (if (f_92 Z q) = true then 2 else 1 : Int32) → zw fm sx (d + 2) 99 62 [some (.ref 63), some (.int p), some (.int q), some (.int (zt Z 61 q))] [.int v6, .int q] Z Q := by
            intro v6 ev6
            subst ev6
            refine zw_run 3 (pc' := 4) (loc' := [some (.ref 63), some (.int p), some (.int (q + (if (f_92 Z q) = true then 2 else 1 : Int32))), some (.int (zt Z 61 q))]) (stk' := []) (fun _ _ _ => rfl) ?_
            refine zw_fgt [true, true, true, false] rfl ?_
            exact H
          refine zw_b0 (b := (f_92 Z q)) (t1 := 57) (t2 := 61) (loc' := [some (.ref 63), some (.int p), some (.int q), some (.int (zt Z 61 q))]) (stk' := [.int q]) (fun _ _ _ => rfl) (fun c5 => ?_) (fun c5 => ?_)
          · skip
            refine zw_run 2 (pc' := 62) (loc' := [some (.ref 63), some (.int p), some (.int q), some (.int (zt Z 61 q))]) (stk' := [.int 2, .int q]) (fun _ _ _ => rfl) ?_
            exact J7 _ (by first | (rw [if_pos c5]; done) | (rw [if_pos c5]; rfl) | (clear H J7; simp_all [bI]; done))
          · skip
            refine zw_run 1 (pc' := 62) (loc' := [some (.ref 63), some (.int p), some (.int q), some (.int (zt Z 61 q))]) (stk' := [.int 1, .int q]) (fun _ _ _ => rfl) ?_
            exact J7 _ (by first | (rw [if_neg c5]; done) | (rw [if_neg c5]; rfl) | (clear H J7; simp_all [bI]; done))
        · rw [if_neg c4] at H
          refine zw_run 1 (pc' := 47) (loc' := [some (.ref 63), some (.int p), some (.int q), some (.int (zt Z 61 q))]) (stk' := [.int (-1)]) (fun _ _ _ => rfl) ?_
          refine zw_reti (i := .nop) rfl rfl ?_
          exact H
    · rw [if_neg c2] at H
      refine zw_run 3 (pc' := 33) (loc' := [some (.ref 63), some (.int p), some (.int q), some (.int (zt Z 61 q))]) (stk' := [.int (q + 1)]) (fun _ _ _ => rfl) ?_
      refine zw_reti (i := .nop) rfl rfl ?_
      exact H
theorem l_99 {fm : Value} {sx : Nat × (Nat → Int32)} {d : Nat} {Q : Option Value → zr_Z → Prop} (p : Int32) : ∀ (n : Nat) (Z : zr_Z) (q : Int32), ((zs Z 61).toInt - q.toInt).toNat < n → Q (some (.int (g_99 n Z p q))) Z → zw fm sx (d + 2) 99 4 [some (.ref 63), some (.int p), some (.int q), none] [] Z Q := by
  intro n
  induction n with
  | zero => intro Z q hn; exact absurd hn (Nat.not_lt_zero _)
  | succ n ih =>
    intro Z q hn HQ
    refine zw_most fun hm => b_99_4 p q ?_
    unfold g_99 at HQ
    by_cases c51 : (zs Z 61) ≤ q
    · rw [if_pos c51] at HQ ⊢
      exact HQ
    · rw [if_neg c51] at HQ ⊢
      by_cases c52 : ¬ (zt Z 61 q) = 62
      · rw [if_pos c52] at HQ ⊢
        by_cases c53 : (zt Z 61 q) = 60
        · rw [if_pos c53] at HQ ⊢
          exact HQ
        · rw [if_neg c53] at HQ ⊢
          by_cases c54 : ¬ (zt Z 61 q) = 10
          · rw [if_pos c54] at HQ ⊢
            refine ih Z (q + (if (f_92 Z q) = true then 2 else 1 : Int32)) ?_ HQ
            have u0 := Int32.not_le.mp c51
            have u1 := i32_up (by decide) hm u0 (if (f_92 Z q) = true then 2 else 1 : Int32) (by split <;> decide)
            have u2 := i32_lt.mp u0
            have u3 : 1 ≤ ((if (f_92 Z q) = true then 2 else 1 : Int32) : Int32).toInt := (by split <;> decide)
            omega
          · rw [if_neg c54] at HQ ⊢
            exact HQ
      · rw [if_neg c52] at HQ ⊢
        exact HQ
theorem t_99 {fm : Value} {sx : Nat × (Nat → Int32)} {d : Nat} {Z : zr_Z} {Q : Option Value → zr_Z → Prop} (p : Int32) (HQ : Q (some (.int (f_99 Z p))) Z) : zw fm sx (d + 2) 99 0 [some (.ref 63), some (.int p), none, none] [] Z Q := by
  refine b_99 p ?_
  unfold f_99 at HQ
  exact l_99 p _ _ _ (Nat.lt_succ_self _) HQ
theorem c_99 {fm : Value} {sx : Nat × (Nat → Int32)} {d : Nat} {Z : zr_Z} (p : Int32) : zl fm sx (d + 3) 99 [.ref 63, .int p] Z (fun r Z' => r = some (.int (f_99 Z p)) ∧ Z' = Z) :=
  zl_of (nL := 4) (loc0 := [some (.ref 63), some (.int p), none, none]) rfl rfl rfl (t_99 p ⟨rfl, rfl⟩)
/-- MarkInlines$Scan.mailRowEnd, its loop -/
def g_88 : Nat → zr_Z → Int32 → Int32 → Int32
  | 0, Z, _, _ => 0
  | n + 1, Z, p, q => (if (zs Z 61) ≤ q then q else (if (k_190 (zt Z 61 q)) = true then g_88 n Z p (q + 1) else q))
def f_88 (Z : zr_Z) (p : Int32) : Int32 := g_88 (((zs Z 61).toInt - p.toInt).toNat + 1) Z p p
set_option maxRecDepth 100000 in
set_option maxHeartbeats 1000000 in
theorem b_88 {fm : Value} {sx : Nat × (Nat → Int32)} {d : Nat} {Z : zr_Z} {Q : Option Value → zr_Z → Prop} (p : Int32) (H : zw fm sx (d + 2) 88 2 [some (.ref 63), some (.int p), some (.int p)] [] Z Q) : zw fm sx (d + 2) 88 0 [some (.ref 63), some (.int p), none] [] Z Q := by
  refine zw_run 2 (pc' := 2) (loc' := [some (.ref 63), some (.int p), some (.int p)]) (stk' := []) (fun _ _ _ => rfl) ?_
  exact H
set_option maxRecDepth 100000 in
set_option maxHeartbeats 1000000 in
theorem b_88_2 {fm : Value} {sx : Nat × (Nat → Int32)} {d : Nat} {Z : zr_Z} {Q : Option Value → zr_Z → Prop} (p : Int32) (q : Int32) (H : (if (zs Z 61) ≤ q then Q (some (.int q)) Z else (if (k_190 (zt Z 61 q)) = true then zw fm sx (d + 2) 88 2 [some (.ref 63), some (.int p), some (.int (q + 1))] [] Z Q else Q (some (.int q)) Z))) : zw fm sx (d + 2) 88 2 [some (.ref 63), some (.int p), some (.int q)] [] Z Q := by
  refine zw_run 2 (pc' := 4) (loc' := [some (.ref 63), some (.int p), some (.int q)]) (stk' := [.ref 63, .int q]) (fun _ _ _ => rfl) ?_
  refine zw_get (v := .ref 61) rfl rfl rfl ?_
  refine zw_callf (As := [.ref 61]) (rest := [.int q]) (c_row_size (id := 61) (by decide) (d := d + 1)) rfl rfl rfl rfl ?_
  show zw fm sx (d + 2) 88 10 [some (.ref 63), some (.int p), some (.int q)] [.int (zs Z 61), .int q] Z Q
  refine zw_br (c := (zs Z 61) ≤ q) (t1 := 33) (t2 := 13) (loc' := [some (.ref 63), some (.int p), some (.int q)]) (stk' := []) (fun _ _ _ => rfl) (fun c1 => ?_) (fun c1 => ?_)
  · rw [if_pos c1] at H
    refine zw_run 1 (pc' := 34) (loc' := [some (.ref 63), some (.int p), some (.int q)]) (stk' := [.int q]) (fun _ _ _ => rfl) ?_
    refine zw_reti (i := .nop) rfl rfl ?_
    exact H
  · rw [if_neg c1] at H
    refine zw_run 1 (pc' := 14) (loc' := [some (.ref 63), some (.int p), some (.int q)]) (stk' := [.ref 63]) (fun _ _ _ => rfl) ?_
    refine zw_get (v := .ref 61) rfl rfl rfl ?_
    refine zw_run 1 (pc' := 18) (loc' := [some (.ref 63), some (.int p), some (.int q)]) (stk' := [.int q, .ref 61]) (fun _ _ _ => rfl) ?_
    refine zw_callf (As := [.ref 61, .int q]) (rest := []) (c_row_at (id := 61) (by decide) q (d := d + 1)) rfl rfl rfl rfl ?_
    show zw fm sx (d + 2) 88 21 [some (.ref 63), some (.int p), some (.int q)] [.int (zt Z 61 q)] Z Q
    refine zw_callf (As := [.int (zt Z 61 q)]) (rest := []) (c_190 (zt Z 61 q) (d := d + 0)) rfl rfl rfl rfl ?_
    show zw fm sx (d + 2) 88 24 [some (.ref 63), some (.int p), some (.int q)] [.int (bI (k_190 (zt Z 61 q)))] Z Q
    refine zw_b0 (b := (k_190 (zt Z 61 q))) (t1 := 27) (t2 := 33) (loc' := [some (.ref 63), some (.int p), some (.int q)]) (stk' := []) (fun _ _ _ => rfl) (fun c2 => ?_) (fun c2 => ?_)
    · rw [if_pos c2] at H
      refine zw_run 2 (pc' := 2) (loc' := [some (.ref 63), some (.int p), some (.int (q + 1))]) (stk' := []) (fun _ _ _ => rfl) ?_
      exact H
    · rw [if_neg c2] at H
      refine zw_run 1 (pc' := 34) (loc' := [some (.ref 63), some (.int p), some (.int q)]) (stk' := [.int q]) (fun _ _ _ => rfl) ?_
      refine zw_reti (i := .nop) rfl rfl ?_
      exact H
theorem l_88 {fm : Value} {sx : Nat × (Nat → Int32)} {d : Nat} {Q : Option Value → zr_Z → Prop} (p : Int32) : ∀ (n : Nat) (Z : zr_Z) (q : Int32), ((zs Z 61).toInt - q.toInt).toNat < n → Q (some (.int (g_88 n Z p q))) Z → zw fm sx (d + 2) 88 2 [some (.ref 63), some (.int p), some (.int q)] [] Z Q := by
  intro n
  induction n with
  | zero => intro Z q hn; exact absurd hn (Nat.not_lt_zero _)
  | succ n ih =>
    intro Z q hn HQ
    refine zw_most fun hm => b_88_2 p q ?_
    unfold g_88 at HQ
    by_cases c51 : (zs Z 61) ≤ q
    · rw [if_pos c51] at HQ ⊢
      exact HQ
    · rw [if_neg c51] at HQ ⊢
      by_cases c52 : (k_190 (zt Z 61 q)) = true
      · rw [if_pos c52] at HQ ⊢
        refine ih Z (q + 1) ?_ HQ
        have u0 := Int32.not_le.mp c51
        have u1 := i32_up (by decide) hm u0 1 (by decide)
        have u2 := i32_lt.mp u0
        have u3 : 1 ≤ (1 : Int32).toInt := (by decide)
        omega
      · rw [if_neg c52] at HQ ⊢
        exact HQ
theorem t_88 {fm : Value} {sx : Nat × (Nat → Int32)} {d : Nat} {Z : zr_Z} {Q : Option Value → zr_Z → Prop} (p : Int32) (HQ : Q (some (.int (f_88 Z p))) Z) : zw fm sx (d + 2) 88 0 [some (.ref 63), some (.int p), none] [] Z Q := by
  refine b_88 p ?_
  unfold f_88 at HQ
  exact l_88 p _ _ _ (Nat.lt_succ_self _) HQ
theorem c_88 {fm : Value} {sx : Nat × (Nat → Int32)} {d : Nat} {Z : zr_Z} (p : Int32) : zl fm sx (d + 3) 88 [.ref 63, .int p] Z (fun r Z' => r = some (.int (f_88 Z p)) ∧ Z' = Z) :=
  zl_of (nL := 3) (loc0 := [some (.ref 63), some (.int p), none]) rfl rfl rfl (t_88 p ⟨rfl, rfl⟩)
/-- MarkInlines$Scan.mailEnd -/
def f_87 (Z : zr_Z) (p : Int32) : Int32 := (if (f_88 Z (p + 1)) = (p + 1) then (-1) else (if (zt Z 61 (f_88 Z (p + 1))) = 64 then (if ((k_197 (zt Z 61 ((f_88 Z (p + 1)) + 1))) && (k_197 (zt Z 61 ((f_88 Z ((f_88 Z (p + 1)) + 1)) - 1)))) = true then (if ¬ (zt Z 61 (f_88 Z ((f_88 Z (p + 1)) + 1))) = 62 then (-1) else ((f_88 Z ((f_88 Z (p + 1)) + 1)) + 1) : Int32) else (-1) : Int32) else (-1)))
set_option maxRecDepth 100000 in
set_option maxHeartbeats 1000000 in
theorem b_87 {fm : Value} {sx : Nat × (Nat → Int32)} {d : Nat} {Z : zr_Z} {Q : Option Value → zr_Z → Prop} (p : Int32) (H : (if (f_88 Z (p + 1)) = (p + 1) then Q (some (.int (-1))) Z else (if (zt Z 61 (f_88 Z (p + 1))) = 64 then Q (some (.int (if ((k_197 (zt Z 61 ((f_88 Z (p + 1)) + 1))) && (k_197 (zt Z 61 ((f_88 Z ((f_88 Z (p + 1)) + 1)) - 1)))) = true then (if ¬ (zt Z 61 (f_88 Z ((f_88 Z (p + 1)) + 1))) = 62 then (-1) else ((f_88 Z ((f_88 Z (p + 1)) + 1)) + 1) : Int32) else (-1) : Int32))) Z else Q (some (.int (-1))) Z))) : zw fm sx (d + 3) 87 0 [some (.ref 63), some (.int p), none, none, none] [] Z Q := by
  refine zw_run 4 (pc' := 4) (loc' := [some (.ref 63), some (.int p), none, none, none]) (stk' := [.int (p + 1), .ref 63]) (fun _ _ _ => rfl) ?_
  refine zw_callf (As := [.ref 63, .int (p + 1)]) (rest := []) (c_88 (p + 1) (d := d + 0)) rfl rfl rfl rfl ?_
  show zw fm sx (d + 3) 87 7 [some (.ref 63), some (.int p), none, none, none] [.int (f_88 Z (p + 1))] Z Q
  refine zw_run 5 (pc' := 12) (loc' := [some (.ref 63), some (.int p), some (.int (f_88 Z (p + 1))), none, none]) (stk' := [.int (p + 1), .int (f_88 Z (p + 1))]) (fun _ _ _ => rfl) ?_
  refine zw_br (c := (f_88 Z (p + 1)) = (p + 1)) (t1 := 28) (t2 := 15) (loc' := [some (.ref 63), some (.int p), some (.int (f_88 Z (p + 1))), none, none]) (stk' := []) (fun _ _ _ => rfl) (fun c1 => ?_) (fun c1 => ?_)
  · rw [if_pos c1] at H
    refine zw_run 1 (pc' := 29) (loc' := [some (.ref 63), some (.int p), some (.int (f_88 Z (p + 1))), none, none]) (stk' := [.int (-1)]) (fun _ _ _ => rfl) ?_
    refine zw_reti (i := .nop) rfl rfl ?_
    exact H
  · rw [if_neg c1] at H
    refine zw_run 1 (pc' := 16) (loc' := [some (.ref 63), some (.int p), some (.int (f_88 Z (p + 1))), none, none]) (stk' := [.ref 63]) (fun _ _ _ => rfl) ?_
    refine zw_get (v := .ref 61) rfl rfl rfl ?_
    refine zw_run 1 (pc' := 20) (loc' := [some (.ref 63), some (.int p), some (.int (f_88 Z (p + 1))), none, none]) (stk' := [.int (f_88 Z (p + 1)), .ref 61]) (fun _ _ _ => rfl) ?_
    refine zw_callf (As := [.ref 61, .int (f_88 Z (p + 1))]) (rest := []) (c_row_at (id := 61) (by decide) (f_88 Z (p + 1)) (d := d + 2)) rfl rfl rfl rfl ?_
    show zw fm sx (d + 3) 87 23 [some (.ref 63), some (.int p), some (.int (f_88 Z (p + 1))), none, none] [.int (zt Z 61 (f_88 Z (p + 1)))] Z Q
    refine zw_run 1 (pc' := 25) (loc' := [some (.ref 63), some (.int p), some (.int (f_88 Z (p + 1))), none, none]) (stk' := [.int 64, .int (zt Z 61 (f_88 Z (p + 1)))]) (fun _ _ _ => rfl) ?_
    refine zw_br (c := (zt Z 61 (f_88 Z (p + 1))) = 64) (t1 := 30) (t2 := 28) (loc' := [some (.ref 63), some (.int p), some (.int (f_88 Z (p + 1))), none, none]) (stk' := []) (fun _ _ _ => rfl) (fun c2 => ?_) (fun c2 => ?_)
    · rw [if_pos c2] at H
      refine zw_run 4 (pc' := 34) (loc' := [some (.ref 63), some (.int p), some (.int (f_88 Z (p + 1))), none, none]) (stk' := [.int ((f_88 Z (p + 1)) + 1), .ref 63]) (fun _ _ _ => rfl) ?_
      refine zw_callf (As := [.ref 63, .int ((f_88 Z (p + 1)) + 1)]) (rest := []) (c_88 ((f_88 Z (p + 1)) + 1) (d := d + 0)) rfl rfl rfl rfl ?_
      show zw fm sx (d + 3) 87 37 [some (.ref 63), some (.int p), some (.int (f_88 Z (p + 1))), none, none] [.int (f_88 Z ((f_88 Z (p + 1)) + 1))] Z Q
      refine zw_run 2 (pc' := 39) (loc' := [some (.ref 63), some (.int p), some (.int (f_88 Z (p + 1))), some (.int (f_88 Z ((f_88 Z (p + 1)) + 1))), none]) (stk' := [.ref 63]) (fun _ _ _ => rfl) ?_
      refine zw_get (v := .ref 61) rfl rfl rfl ?_
      refine zw_run 3 (pc' := 45) (loc' := [some (.ref 63), some (.int p), some (.int (f_88 Z (p + 1))), some (.int (f_88 Z ((f_88 Z (p + 1)) + 1))), none]) (stk' := [.int ((f_88 Z (p + 1)) + 1), .ref 61]) (fun _ _ _ => rfl) ?_
      refine zw_callf (As := [.ref 61, .int ((f_88 Z (p + 1)) + 1)]) (rest := []) (c_row_at (id := 61) (by decide) ((f_88 Z (p + 1)) + 1) (d := d + 2)) rfl rfl rfl rfl ?_
      show zw fm sx (d + 3) 87 48 [some (.ref 63), some (.int p), some (.int (f_88 Z (p + 1))), some (.int (f_88 Z ((f_88 Z (p + 1)) + 1))), none] [.int (zt Z 61 ((f_88 Z (p + 1)) + 1))] Z Q
      refine zw_callf (As := [.int (zt Z 61 ((f_88 Z (p + 1)) + 1))]) (rest := []) (c_197 (zt Z 61 ((f_88 Z (p + 1)) + 1)) (d := d + 2)) rfl rfl rfl rfl ?_
      show zw fm sx (d + 3) 87 51 [some (.ref 63), some (.int p), some (.int (f_88 Z (p + 1))), some (.int (f_88 Z ((f_88 Z (p + 1)) + 1))), none] [.int (bI (k_197 (zt Z 61 ((f_88 Z (p + 1)) + 1))))] Z Q
      have J6 : ∀ (v5 : Int32), v5 = (bI ((k_197 (zt Z 61 ((f_88 Z (p + 1)) + 1))) && (k_197 (zt Z 61 ((f_88 Z ((f_88 Z (p + 1)) + 1)) - 1))))) → zw fm sx (d + 3) 87 75 [some (.ref 63), some (.int p), some (.int (f_88 Z (p + 1))), some (.int (f_88 Z ((f_88 Z (p + 1)) + 1))), none] [.int v5] Z Q := by
        intro v5 ev5
        subst ev5
        refine zw_run 2 (pc' := 79) (loc' := [some (.ref 63), some (.int p), some (.int (f_88 Z (p + 1))), some (.int (f_88 Z ((f_88 Z (p + 1)) + 1))), some (.int (bI ((k_197 (zt Z 61 ((f_88 Z (p + 1)) + 1))) && (k_197 (zt Z 61 ((f_88 Z ((f_88 Z (p + 1)) + 1)) - 1))))))]) (stk' := [.int (bI ((k_197 (zt Z 61 ((f_88 Z (p + 1)) + 1))) && (k_197 (zt Z 61 ((f_88 Z ((f_88 Z (p + 1)) + 1)) - 1)))))]) (fun _ _ _ => rfl) ?_
        have J10 : ∀ (v9 : Int32), v9 = (if ((k_197 (zt Z 61 ((f_88 Z (p + 1)) + 1))) && (k_197 (zt Z 61 ((f_88 Z ((f_88 Z (p + 1)) + 1)) - 1)))) = true then (if ¬ (zt Z 61 (f_88 Z ((f_88 Z (p + 1)) + 1))) = 62 then (-1) else ((f_88 Z ((f_88 Z (p + 1)) + 1)) + 1) : Int32) else (-1) : Int32) → zw fm sx (d + 3) 87 102 [some (.ref 63), some (.int p), some (.int (f_88 Z (p + 1))), some (.int (f_88 Z ((f_88 Z (p + 1)) + 1))), some (.int (bI ((k_197 (zt Z 61 ((f_88 Z (p + 1)) + 1))) && (k_197 (zt Z 61 ((f_88 Z ((f_88 Z (p + 1)) + 1)) - 1))))))] [.int v9] Z Q := by
          intro v9 ev9
          subst ev9
          refine zw_reti (i := .nop) rfl rfl ?_
          exact H
        refine zw_b0 (b := ((k_197 (zt Z 61 ((f_88 Z (p + 1)) + 1))) && (k_197 (zt Z 61 ((f_88 Z ((f_88 Z (p + 1)) + 1)) - 1))))) (t1 := 82) (t2 := 101) (loc' := [some (.ref 63), some (.int p), some (.int (f_88 Z (p + 1))), some (.int (f_88 Z ((f_88 Z (p + 1)) + 1))), some (.int (bI ((k_197 (zt Z 61 ((f_88 Z (p + 1)) + 1))) && (k_197 (zt Z 61 ((f_88 Z ((f_88 Z (p + 1)) + 1)) - 1))))))]) (stk' := []) (fun _ _ _ => rfl) (fun c7 => ?_) (fun c7 => ?_)
        · skip
          refine zw_run 1 (pc' := 83) (loc' := [some (.ref 63), some (.int p), some (.int (f_88 Z (p + 1))), some (.int (f_88 Z ((f_88 Z (p + 1)) + 1))), some (.int (bI ((k_197 (zt Z 61 ((f_88 Z (p + 1)) + 1))) && (k_197 (zt Z 61 ((f_88 Z ((f_88 Z (p + 1)) + 1)) - 1))))))]) (stk' := [.ref 63]) (fun _ _ _ => rfl) ?_
          refine zw_get (v := .ref 61) rfl rfl rfl ?_
          refine zw_run 1 (pc' := 87) (loc' := [some (.ref 63), some (.int p), some (.int (f_88 Z (p + 1))), some (.int (f_88 Z ((f_88 Z (p + 1)) + 1))), some (.int (bI ((k_197 (zt Z 61 ((f_88 Z (p + 1)) + 1))) && (k_197 (zt Z 61 ((f_88 Z ((f_88 Z (p + 1)) + 1)) - 1))))))]) (stk' := [.int (f_88 Z ((f_88 Z (p + 1)) + 1)), .ref 61]) (fun _ _ _ => rfl) ?_
          refine zw_callf (As := [.ref 61, .int (f_88 Z ((f_88 Z (p + 1)) + 1))]) (rest := []) (c_row_at (id := 61) (by decide) (f_88 Z ((f_88 Z (p + 1)) + 1)) (d := d + 2)) rfl rfl rfl rfl ?_
          show zw fm sx (d + 3) 87 90 [some (.ref 63), some (.int p), some (.int (f_88 Z (p + 1))), some (.int (f_88 Z ((f_88 Z (p + 1)) + 1))), some (.int (bI ((k_197 (zt Z 61 ((f_88 Z (p + 1)) + 1))) && (k_197 (zt Z 61 ((f_88 Z ((f_88 Z (p + 1)) + 1)) - 1))))))] [.int (zt Z 61 (f_88 Z ((f_88 Z (p + 1)) + 1)))] Z Q
          refine zw_run 1 (pc' := 92) (loc' := [some (.ref 63), some (.int p), some (.int (f_88 Z (p + 1))), some (.int (f_88 Z ((f_88 Z (p + 1)) + 1))), some (.int (bI ((k_197 (zt Z 61 ((f_88 Z (p + 1)) + 1))) && (k_197 (zt Z 61 ((f_88 Z ((f_88 Z (p + 1)) + 1)) - 1))))))]) (stk' := [.int 62, .int (zt Z 61 (f_88 Z ((f_88 Z (p + 1)) + 1)))]) (fun _ _ _ => rfl) ?_
          refine zw_br (c := ¬ (zt Z 61 (f_88 Z ((f_88 Z (p + 1)) + 1))) = 62) (t1 := 101) (t2 := 95) (loc' := [some (.ref 63), some (.int p), some (.int (f_88 Z (p + 1))), some (.int (f_88 Z ((f_88 Z (p + 1)) + 1))), some (.int (bI ((k_197 (zt Z 61 ((f_88 Z (p + 1)) + 1))) && (k_197 (zt Z 61 ((f_88 Z ((f_88 Z (p + 1)) + 1)) - 1))))))]) (stk' := []) (fun _ _ _ => rfl) (fun c8 => ?_) (fun c8 => ?_)
          · skip
            refine zw_run 1 (pc' := 102) (loc' := [some (.ref 63), some (.int p), some (.int (f_88 Z (p + 1))), some (.int (f_88 Z ((f_88 Z (p + 1)) + 1))), some (.int (bI ((k_197 (zt Z 61 ((f_88 Z (p + 1)) + 1))) && (k_197 (zt Z 61 ((f_88 Z ((f_88 Z (p + 1)) + 1)) - 1))))))]) (stk' := [.int (-1)]) (fun _ _ _ => rfl) ?_
            exact J10 _ (by first | (rw [if_pos c7, if_pos c8]; done) | (rw [if_pos c7, if_pos c8]; rfl) | (clear H J10; simp_all [bI]; done))
          · skip
            refine zw_run 4 (pc' := 102) (loc' := [some (.ref 63), some (.int p), some (.int (f_88 Z (p + 1))), some (.int (f_88 Z ((f_88 Z (p + 1)) + 1))), some (.int (bI ((k_197 (zt Z 61 ((f_88 Z (p + 1)) + 1))) && (k_197 (zt Z 61 ((f_88 Z ((f_88 Z (p + 1)) + 1)) - 1))))))]) (stk' := [.int ((f_88 Z ((f_88 Z (p + 1)) + 1)) + 1)]) (fun _ _ _ => rfl) ?_
            exact J10 _ (by first | (rw [if_pos c7, if_neg c8]; done) | (rw [if_pos c7, if_neg c8]; rfl) | (clear H J10; simp_all [bI]; done))
        · skip
          refine zw_run 1 (pc' := 102) (loc' := [some (.ref 63), some (.int p), some (.int (f_88 Z (p + 1))), some (.int (f_88 Z ((f_88 Z (p + 1)) + 1))), some (.int (bI ((k_197 (zt Z 61 ((f_88 Z (p + 1)) + 1))) && (k_197 (zt Z 61 ((f_88 Z ((f_88 Z (p + 1)) + 1)) - 1))))))]) (stk' := [.int (-1)]) (fun _ _ _ => rfl) ?_
          exact J10 _ (by first | (rw [if_neg c7]; done) | (rw [if_neg c7]; rfl) | (clear H J10; simp_all [bI]; done))
      refine zw_b0 (b := (k_197 (zt Z 61 ((f_88 Z (p + 1)) + 1)))) (t1 := 54) (t2 := 74) (loc' := [some (.ref 63), some (.int p), some (.int (f_88 Z (p + 1))), some (.int (f_88 Z ((f_88 Z (p + 1)) + 1))), none]) (stk' := []) (fun _ _ _ => rfl) (fun c3 => ?_) (fun c3 => ?_)
      · skip
        refine zw_run 1 (pc' := 55) (loc' := [some (.ref 63), some (.int p), some (.int (f_88 Z (p + 1))), some (.int (f_88 Z ((f_88 Z (p + 1)) + 1))), none]) (stk' := [.ref 63]) (fun _ _ _ => rfl) ?_
        refine zw_get (v := .ref 61) rfl rfl rfl ?_
        refine zw_run 3 (pc' := 61) (loc' := [some (.ref 63), some (.int p), some (.int (f_88 Z (p + 1))), some (.int (f_88 Z ((f_88 Z (p + 1)) + 1))), none]) (stk' := [.int ((f_88 Z ((f_88 Z (p + 1)) + 1)) - 1), .ref 61]) (fun _ _ _ => rfl) ?_
        refine zw_callf (As := [.ref 61, .int ((f_88 Z ((f_88 Z (p + 1)) + 1)) - 1)]) (rest := []) (c_row_at (id := 61) (by decide) ((f_88 Z ((f_88 Z (p + 1)) + 1)) - 1) (d := d + 2)) rfl rfl rfl rfl ?_
        show zw fm sx (d + 3) 87 64 [some (.ref 63), some (.int p), some (.int (f_88 Z (p + 1))), some (.int (f_88 Z ((f_88 Z (p + 1)) + 1))), none] [.int (zt Z 61 ((f_88 Z ((f_88 Z (p + 1)) + 1)) - 1))] Z Q
        refine zw_callf (As := [.int (zt Z 61 ((f_88 Z ((f_88 Z (p + 1)) + 1)) - 1))]) (rest := []) (c_197 (zt Z 61 ((f_88 Z ((f_88 Z (p + 1)) + 1)) - 1)) (d := d + 2)) rfl rfl rfl rfl ?_
        show zw fm sx (d + 3) 87 67 [some (.ref 63), some (.int p), some (.int (f_88 Z (p + 1))), some (.int (f_88 Z ((f_88 Z (p + 1)) + 1))), none] [.int (bI (k_197 (zt Z 61 ((f_88 Z ((f_88 Z (p + 1)) + 1)) - 1))))] Z Q
        refine zw_b0 (b := (k_197 (zt Z 61 ((f_88 Z ((f_88 Z (p + 1)) + 1)) - 1)))) (t1 := 70) (t2 := 74) (loc' := [some (.ref 63), some (.int p), some (.int (f_88 Z (p + 1))), some (.int (f_88 Z ((f_88 Z (p + 1)) + 1))), none]) (stk' := []) (fun _ _ _ => rfl) (fun c4 => ?_) (fun c4 => ?_)
        · skip
          refine zw_run 2 (pc' := 75) (loc' := [some (.ref 63), some (.int p), some (.int (f_88 Z (p + 1))), some (.int (f_88 Z ((f_88 Z (p + 1)) + 1))), none]) (stk' := [.int 1]) (fun _ _ _ => rfl) ?_
          exact J6 _ (by clear H J6; first | (simp [bI, c3, c4]; done) | (simp [bI, *]; done) | (simp_all [bI]; done) | (exfalso; simp_all; done))
        · skip
          refine zw_run 1 (pc' := 75) (loc' := [some (.ref 63), some (.int p), some (.int (f_88 Z (p + 1))), some (.int (f_88 Z ((f_88 Z (p + 1)) + 1))), none]) (stk' := [.int 0]) (fun _ _ _ => rfl) ?_
          exact J6 _ (by clear H J6; first | (simp [bI, c3, c4]; done) | (simp [bI, *]; done) | (simp_all [bI]; done) | (exfalso; simp_all; done))
      · skip
        refine zw_run 1 (pc' := 75) (loc' := [some (.ref 63), some (.int p), some (.int (f_88 Z (p + 1))), some (.int (f_88 Z ((f_88 Z (p + 1)) + 1))), none]) (stk' := [.int 0]) (fun _ _ _ => rfl) ?_
        exact J6 _ (by clear H J6; first | (simp [bI, c3]; done) | (simp [bI, *]; done) | (simp_all [bI]; done) | (exfalso; simp_all; done))
    · rw [if_neg c2] at H
      refine zw_run 1 (pc' := 29) (loc' := [some (.ref 63), some (.int p), some (.int (f_88 Z (p + 1))), none, none]) (stk' := [.int (-1)]) (fun _ _ _ => rfl) ?_
      refine zw_reti (i := .nop) rfl rfl ?_
      exact H
theorem t_87 {fm : Value} {sx : Nat × (Nat → Int32)} {d : Nat} {Z : zr_Z} {Q : Option Value → zr_Z → Prop} (p : Int32) (HQ : Q (some (.int (f_87 Z p))) Z) : zw fm sx (d + 3) 87 0 [some (.ref 63), some (.int p), none, none, none] [] Z Q := by
  refine b_87 p ?_
  unfold f_87 at HQ
  by_cases c1 : (f_88 Z (p + 1)) = (p + 1)
  · rw [if_pos c1] at HQ ⊢
    exact HQ
  · rw [if_neg c1] at HQ ⊢
    by_cases c2 : (zt Z 61 (f_88 Z (p + 1))) = 64
    · rw [if_pos c2] at HQ ⊢
      exact HQ
    · rw [if_neg c2] at HQ ⊢
      exact HQ
theorem c_87 {fm : Value} {sx : Nat × (Nat → Int32)} {d : Nat} {Z : zr_Z} (p : Int32) : zl fm sx (d + 4) 87 [.ref 63, .int p] Z (fun r Z' => r = some (.int (f_87 Z p)) ∧ Z' = Z) :=
  zl_of (nL := 5) (loc0 := [some (.ref 63), some (.int p), none, none, none]) rfl rfl rfl (t_87 p ⟨rfl, rfl⟩)
/-- MarkInlines$Scan.laterPlaceOf, its loop -/
def g_90 : Nat → zr_Z → Int32 → Int32 → Int32 → Int32
  | 0, Z, _, _, _ => 0
  | n + 1, Z, s, a, q => (if (zs Z 61) ≤ q then (-1) else (if ¬ (zt Z 61 q) = s then g_90 n Z s a (q + 1) else q))
def f_90 (Z : zr_Z) (s : Int32) (a : Int32) : Int32 := g_90 (((zs Z 61).toInt - a.toInt).toNat + 1) Z s a a
set_option maxRecDepth 100000 in
set_option maxHeartbeats 1000000 in
theorem b_90 {fm : Value} {sx : Nat × (Nat → Int32)} {d : Nat} {Z : zr_Z} {Q : Option Value → zr_Z → Prop} (s : Int32) (a : Int32) (H : zw fm sx (d + 1) 90 2 [some (.ref 63), some (.int s), some (.int a), some (.int a)] [] Z Q) : zw fm sx (d + 1) 90 0 [some (.ref 63), some (.int s), some (.int a), none] [] Z Q := by
  refine zw_run 2 (pc' := 2) (loc' := [some (.ref 63), some (.int s), some (.int a), some (.int a)]) (stk' := []) (fun _ _ _ => rfl) ?_
  exact H
set_option maxRecDepth 100000 in
set_option maxHeartbeats 1000000 in
theorem b_90_2 {fm : Value} {sx : Nat × (Nat → Int32)} {d : Nat} {Z : zr_Z} {Q : Option Value → zr_Z → Prop} (s : Int32) (a : Int32) (q : Int32) (H : (if (zs Z 61) ≤ q then Q (some (.int (-1))) Z else (if ¬ (zt Z 61 q) = s then zw fm sx (d + 1) 90 2 [some (.ref 63), some (.int s), some (.int a), some (.int (q + 1))] [] Z Q else Q (some (.int q)) Z))) : zw fm sx (d + 1) 90 2 [some (.ref 63), some (.int s), some (.int a), some (.int q)] [] Z Q := by
  refine zw_run 2 (pc' := 4) (loc' := [some (.ref 63), some (.int s), some (.int a), some (.int q)]) (stk' := [.ref 63, .int q]) (fun _ _ _ => rfl) ?_
  refine zw_get (v := .ref 61) rfl rfl rfl ?_
  refine zw_callf (As := [.ref 61]) (rest := [.int q]) (c_row_size (id := 61) (by decide) (d := d + 0)) rfl rfl rfl rfl ?_
  show zw fm sx (d + 1) 90 10 [some (.ref 63), some (.int s), some (.int a), some (.int q)] [.int (zs Z 61), .int q] Z Q
  refine zw_br (c := (zs Z 61) ≤ q) (t1 := 33) (t2 := 13) (loc' := [some (.ref 63), some (.int s), some (.int a), some (.int q)]) (stk' := []) (fun _ _ _ => rfl) (fun c1 => ?_) (fun c1 => ?_)
  · rw [if_pos c1] at H
    refine zw_run 1 (pc' := 34) (loc' := [some (.ref 63), some (.int s), some (.int a), some (.int q)]) (stk' := [.int (-1)]) (fun _ _ _ => rfl) ?_
    refine zw_reti (i := .nop) rfl rfl ?_
    exact H
  · rw [if_neg c1] at H
    refine zw_run 1 (pc' := 14) (loc' := [some (.ref 63), some (.int s), some (.int a), some (.int q)]) (stk' := [.ref 63]) (fun _ _ _ => rfl) ?_
    refine zw_get (v := .ref 61) rfl rfl rfl ?_
    refine zw_run 1 (pc' := 18) (loc' := [some (.ref 63), some (.int s), some (.int a), some (.int q)]) (stk' := [.int q, .ref 61]) (fun _ _ _ => rfl) ?_
    refine zw_callf (As := [.ref 61, .int q]) (rest := []) (c_row_at (id := 61) (by decide) q (d := d + 0)) rfl rfl rfl rfl ?_
    show zw fm sx (d + 1) 90 21 [some (.ref 63), some (.int s), some (.int a), some (.int q)] [.int (zt Z 61 q)] Z Q
    refine zw_run 1 (pc' := 22) (loc' := [some (.ref 63), some (.int s), some (.int a), some (.int q)]) (stk' := [.int s, .int (zt Z 61 q)]) (fun _ _ _ => rfl) ?_
    refine zw_br (c := ¬ (zt Z 61 q) = s) (t1 := 27) (t2 := 25) (loc' := [some (.ref 63), some (.int s), some (.int a), some (.int q)]) (stk' := []) (fun _ _ _ => rfl) (fun c2 => ?_) (fun c2 => ?_)
    · rw [if_pos c2] at H
      refine zw_run 2 (pc' := 2) (loc' := [some (.ref 63), some (.int s), some (.int a), some (.int (q + 1))]) (stk' := []) (fun _ _ _ => rfl) ?_
      exact H
    · rw [if_neg c2] at H
      refine zw_run 1 (pc' := 26) (loc' := [some (.ref 63), some (.int s), some (.int a), some (.int q)]) (stk' := [.int q]) (fun _ _ _ => rfl) ?_
      refine zw_reti (i := .nop) rfl rfl ?_
      exact H
theorem l_90 {fm : Value} {sx : Nat × (Nat → Int32)} {d : Nat} {Q : Option Value → zr_Z → Prop} (s : Int32) (a : Int32) : ∀ (n : Nat) (Z : zr_Z) (q : Int32), ((zs Z 61).toInt - q.toInt).toNat < n → Q (some (.int (g_90 n Z s a q))) Z → zw fm sx (d + 1) 90 2 [some (.ref 63), some (.int s), some (.int a), some (.int q)] [] Z Q := by
  intro n
  induction n with
  | zero => intro Z q hn; exact absurd hn (Nat.not_lt_zero _)
  | succ n ih =>
    intro Z q hn HQ
    refine zw_most fun hm => b_90_2 s a q ?_
    unfold g_90 at HQ
    by_cases c51 : (zs Z 61) ≤ q
    · rw [if_pos c51] at HQ ⊢
      exact HQ
    · rw [if_neg c51] at HQ ⊢
      by_cases c52 : ¬ (zt Z 61 q) = s
      · rw [if_pos c52] at HQ ⊢
        refine ih Z (q + 1) ?_ HQ
        have u0 := Int32.not_le.mp c51
        have u1 := i32_up (by decide) hm u0 1 (by decide)
        have u2 := i32_lt.mp u0
        have u3 : 1 ≤ (1 : Int32).toInt := (by decide)
        omega
      · rw [if_neg c52] at HQ ⊢
        exact HQ
theorem t_90 {fm : Value} {sx : Nat × (Nat → Int32)} {d : Nat} {Z : zr_Z} {Q : Option Value → zr_Z → Prop} (s : Int32) (a : Int32) (HQ : Q (some (.int (f_90 Z s a))) Z) : zw fm sx (d + 1) 90 0 [some (.ref 63), some (.int s), some (.int a), none] [] Z Q := by
  refine b_90 s a ?_
  unfold f_90 at HQ
  exact l_90 s a _ _ _ (Nat.lt_succ_self _) HQ
theorem c_90 {fm : Value} {sx : Nat × (Nat → Int32)} {d : Nat} {Z : zr_Z} (s : Int32) (a : Int32) : zl fm sx (d + 2) 90 [.ref 63, .int s, .int a] Z (fun r Z' => r = some (.int (f_90 Z s a)) ∧ Z' = Z) :=
  zl_of (nL := 4) (loc0 := [some (.ref 63), some (.int s), some (.int a), none]) rfl rfl rfl (t_90 s a ⟨rfl, rfl⟩)
/-- MarkInlines$Scan.isRaw -/
def f_89 (Z : zr_Z) (p : Int32) : Bool := (((k_196 (zt Z 61 (p + 1))) || ((decide ((zt Z 61 (p + 1)) = 33)) || ((decide ((zt Z 61 (p + 1)) = 63)) || ((decide ((zt Z 61 (p + 1)) = 47)) && (k_196 (zt Z 61 (p + 2))))))) && (!(decide ((f_90 Z 62 (p + 1)) = (-1)))))
set_option maxRecDepth 100000 in
set_option maxHeartbeats 1000000 in
theorem b_89 {fm : Value} {sx : Nat × (Nat → Int32)} {d : Nat} {Z : zr_Z} {Q : Option Value → zr_Z → Prop} (p : Int32) (H : Q (some (.int (bI (((k_196 (zt Z 61 (p + 1))) || ((decide ((zt Z 61 (p + 1)) = 33)) || ((decide ((zt Z 61 (p + 1)) = 63)) || ((decide ((zt Z 61 (p + 1)) = 47)) && (k_196 (zt Z 61 (p + 2))))))) && (!(decide ((f_90 Z 62 (p + 1)) = (-1)))))))) Z) : zw fm sx (d + 2) 89 0 [some (.ref 63), some (.int p), none, none] [] Z Q := by
  refine zw_run 1 (pc' := 1) (loc' := [some (.ref 63), some (.int p), none, none]) (stk' := [.ref 63]) (fun _ _ _ => rfl) ?_
  refine zw_get (v := .ref 61) rfl rfl rfl ?_
  refine zw_run 3 (pc' := 7) (loc' := [some (.ref 63), some (.int p), none, none]) (stk' := [.int (p + 1), .ref 61]) (fun _ _ _ => rfl) ?_
  refine zw_callf (As := [.ref 61, .int (p + 1)]) (rest := []) (c_row_at (id := 61) (by decide) (p + 1) (d := d + 1)) rfl rfl rfl rfl ?_
  show zw fm sx (d + 2) 89 10 [some (.ref 63), some (.int p), none, none] [.int (zt Z 61 (p + 1))] Z Q
  refine zw_run 2 (pc' := 12) (loc' := [some (.ref 63), some (.int p), some (.int (zt Z 61 (p + 1))), none]) (stk' := [.int (zt Z 61 (p + 1))]) (fun _ _ _ => rfl) ?_
  refine zw_callf (As := [.int (zt Z 61 (p + 1))]) (rest := []) (c_196 (zt Z 61 (p + 1)) (d := d + 1)) rfl rfl rfl rfl ?_
  show zw fm sx (d + 2) 89 15 [some (.ref 63), some (.int p), some (.int (zt Z 61 (p + 1))), none] [.int (bI (k_196 (zt Z 61 (p + 1))))] Z Q
  have J7 : ∀ (v6 : Int32), v6 = (bI ((k_196 (zt Z 61 (p + 1))) || ((decide ((zt Z 61 (p + 1)) = 33)) || ((decide ((zt Z 61 (p + 1)) = 63)) || ((decide ((zt Z 61 (p + 1)) = 47)) && (k_196 (zt Z 61 (p + 2)))))))) → zw fm sx (d + 2) 89 57 [some (.ref 63), some (.int p), some (.int (zt Z 61 (p + 1))), none] [.int v6] Z Q := by
    intro v6 ev6
    subst ev6
    refine zw_run 2 (pc' := 59) (loc' := [some (.ref 63), some (.int p), some (.int (zt Z 61 (p + 1))), some (.int (bI ((k_196 (zt Z 61 (p + 1))) || ((decide ((zt Z 61 (p + 1)) = 33)) || ((decide ((zt Z 61 (p + 1)) = 63)) || ((decide ((zt Z 61 (p + 1)) = 47)) && (k_196 (zt Z 61 (p + 2)))))))))]) (stk' := [.int (bI ((k_196 (zt Z 61 (p + 1))) || ((decide ((zt Z 61 (p + 1)) = 33)) || ((decide ((zt Z 61 (p + 1)) = 63)) || ((decide ((zt Z 61 (p + 1)) = 47)) && (k_196 (zt Z 61 (p + 2))))))))]) (fun _ _ _ => rfl) ?_
    have J11 : ∀ (v10 : Int32), v10 = (bI (((k_196 (zt Z 61 (p + 1))) || ((decide ((zt Z 61 (p + 1)) = 33)) || ((decide ((zt Z 61 (p + 1)) = 63)) || ((decide ((zt Z 61 (p + 1)) = 47)) && (k_196 (zt Z 61 (p + 2))))))) && (!(decide ((f_90 Z 62 (p + 1)) = (-1)))))) → zw fm sx (d + 2) 89 80 [some (.ref 63), some (.int p), some (.int (zt Z 61 (p + 1))), some (.int (bI ((k_196 (zt Z 61 (p + 1))) || ((decide ((zt Z 61 (p + 1)) = 33)) || ((decide ((zt Z 61 (p + 1)) = 63)) || ((decide ((zt Z 61 (p + 1)) = 47)) && (k_196 (zt Z 61 (p + 2)))))))))] [.int v10] Z Q := by
      intro v10 ev10
      subst ev10
      refine zw_retz rfl rfl (bI_01 _) ?_
      exact H
    refine zw_b0 (b := ((k_196 (zt Z 61 (p + 1))) || ((decide ((zt Z 61 (p + 1)) = 33)) || ((decide ((zt Z 61 (p + 1)) = 63)) || ((decide ((zt Z 61 (p + 1)) = 47)) && (k_196 (zt Z 61 (p + 2)))))))) (t1 := 62) (t2 := 79) (loc' := [some (.ref 63), some (.int p), some (.int (zt Z 61 (p + 1))), some (.int (bI ((k_196 (zt Z 61 (p + 1))) || ((decide ((zt Z 61 (p + 1)) = 33)) || ((decide ((zt Z 61 (p + 1)) = 63)) || ((decide ((zt Z 61 (p + 1)) = 47)) && (k_196 (zt Z 61 (p + 2)))))))))]) (stk' := []) (fun _ _ _ => rfl) (fun c8 => ?_) (fun c8 => ?_)
    · skip
      refine zw_run 5 (pc' := 68) (loc' := [some (.ref 63), some (.int p), some (.int (zt Z 61 (p + 1))), some (.int (bI ((k_196 (zt Z 61 (p + 1))) || ((decide ((zt Z 61 (p + 1)) = 33)) || ((decide ((zt Z 61 (p + 1)) = 63)) || ((decide ((zt Z 61 (p + 1)) = 47)) && (k_196 (zt Z 61 (p + 2)))))))))]) (stk' := [.int (p + 1), .int 62, .ref 63]) (fun _ _ _ => rfl) ?_
      refine zw_callf (As := [.ref 63, .int 62, .int (p + 1)]) (rest := []) (c_90 62 (p + 1) (d := d + 0)) rfl rfl rfl rfl ?_
      show zw fm sx (d + 2) 89 71 [some (.ref 63), some (.int p), some (.int (zt Z 61 (p + 1))), some (.int (bI ((k_196 (zt Z 61 (p + 1))) || ((decide ((zt Z 61 (p + 1)) = 33)) || ((decide ((zt Z 61 (p + 1)) = 63)) || ((decide ((zt Z 61 (p + 1)) = 47)) && (k_196 (zt Z 61 (p + 2)))))))))] [.int (f_90 Z 62 (p + 1))] Z Q
      refine zw_run 1 (pc' := 72) (loc' := [some (.ref 63), some (.int p), some (.int (zt Z 61 (p + 1))), some (.int (bI ((k_196 (zt Z 61 (p + 1))) || ((decide ((zt Z 61 (p + 1)) = 33)) || ((decide ((zt Z 61 (p + 1)) = 63)) || ((decide ((zt Z 61 (p + 1)) = 47)) && (k_196 (zt Z 61 (p + 2)))))))))]) (stk' := [.int (-1), .int (f_90 Z 62 (p + 1))]) (fun _ _ _ => rfl) ?_
      refine zw_br (c := (f_90 Z 62 (p + 1)) = (-1)) (t1 := 79) (t2 := 75) (loc' := [some (.ref 63), some (.int p), some (.int (zt Z 61 (p + 1))), some (.int (bI ((k_196 (zt Z 61 (p + 1))) || ((decide ((zt Z 61 (p + 1)) = 33)) || ((decide ((zt Z 61 (p + 1)) = 63)) || ((decide ((zt Z 61 (p + 1)) = 47)) && (k_196 (zt Z 61 (p + 2)))))))))]) (stk' := []) (fun _ _ _ => rfl) (fun c9 => ?_) (fun c9 => ?_)
      · skip
        refine zw_run 1 (pc' := 80) (loc' := [some (.ref 63), some (.int p), some (.int (zt Z 61 (p + 1))), some (.int (bI ((k_196 (zt Z 61 (p + 1))) || ((decide ((zt Z 61 (p + 1)) = 33)) || ((decide ((zt Z 61 (p + 1)) = 63)) || ((decide ((zt Z 61 (p + 1)) = 47)) && (k_196 (zt Z 61 (p + 2)))))))))]) (stk' := [.int 0]) (fun _ _ _ => rfl) ?_
        exact J11 _ (by clear H J11; first | (simp [bI, c8, c9]; done) | (simp [bI, *]; done) | (simp_all [bI]; done) | (exfalso; simp_all; done))
      · skip
        refine zw_run 2 (pc' := 80) (loc' := [some (.ref 63), some (.int p), some (.int (zt Z 61 (p + 1))), some (.int (bI ((k_196 (zt Z 61 (p + 1))) || ((decide ((zt Z 61 (p + 1)) = 33)) || ((decide ((zt Z 61 (p + 1)) = 63)) || ((decide ((zt Z 61 (p + 1)) = 47)) && (k_196 (zt Z 61 (p + 2)))))))))]) (stk' := [.int 1]) (fun _ _ _ => rfl) ?_
        exact J11 _ (by clear H J11; first | (simp [bI, c8, c9]; done) | (simp [bI, *]; done) | (simp_all [bI]; done) | (exfalso; simp_all; done))
    · skip
      refine zw_run 1 (pc' := 80) (loc' := [some (.ref 63), some (.int p), some (.int (zt Z 61 (p + 1))), some (.int (bI ((k_196 (zt Z 61 (p + 1))) || ((decide ((zt Z 61 (p + 1)) = 33)) || ((decide ((zt Z 61 (p + 1)) = 63)) || ((decide ((zt Z 61 (p + 1)) = 47)) && (k_196 (zt Z 61 (p + 2)))))))))]) (stk' := [.int 0]) (fun _ _ _ => rfl) ?_
      exact J11 _ (by clear H J11; first | (simp [bI, c8]; done) | (simp [bI, *]; done) | (simp_all [bI]; done) | (exfalso; simp_all; done))
  refine zw_b1 (b := (k_196 (zt Z 61 (p + 1)))) (t1 := 52) (t2 := 18) (loc' := [some (.ref 63), some (.int p), some (.int (zt Z 61 (p + 1))), none]) (stk' := []) (fun _ _ _ => rfl) (fun c1 => ?_) (fun c1 => ?_)
  · skip
    refine zw_run 2 (pc' := 57) (loc' := [some (.ref 63), some (.int p), some (.int (zt Z 61 (p + 1))), none]) (stk' := [.int 1]) (fun _ _ _ => rfl) ?_
    exact J7 _ (by clear H J7; first | (simp [bI, c1]; done) | (simp [bI, *]; done) | (simp_all [bI]; done) | (exfalso; simp_all; done))
  · skip
    refine zw_run 2 (pc' := 21) (loc' := [some (.ref 63), some (.int p), some (.int (zt Z 61 (p + 1))), none]) (stk' := [.int 33, .int (zt Z 61 (p + 1))]) (fun _ _ _ => rfl) ?_
    refine zw_br (c := (zt Z 61 (p + 1)) = 33) (t1 := 52) (t2 := 24) (loc' := [some (.ref 63), some (.int p), some (.int (zt Z 61 (p + 1))), none]) (stk' := []) (fun _ _ _ => rfl) (fun c2 => ?_) (fun c2 => ?_)
    · skip
      refine zw_run 2 (pc' := 57) (loc' := [some (.ref 63), some (.int p), some (.int (zt Z 61 (p + 1))), none]) (stk' := [.int 1]) (fun _ _ _ => rfl) ?_
      exact J7 _ (by clear H J7; first | (simp [bI, c1, c2]; done) | (simp [bI, *]; done) | (simp_all [bI]; done) | (exfalso; simp_all; done))
    · skip
      refine zw_run 2 (pc' := 27) (loc' := [some (.ref 63), some (.int p), some (.int (zt Z 61 (p + 1))), none]) (stk' := [.int 63, .int (zt Z 61 (p + 1))]) (fun _ _ _ => rfl) ?_
      refine zw_br (c := (zt Z 61 (p + 1)) = 63) (t1 := 52) (t2 := 30) (loc' := [some (.ref 63), some (.int p), some (.int (zt Z 61 (p + 1))), none]) (stk' := []) (fun _ _ _ => rfl) (fun c3 => ?_) (fun c3 => ?_)
      · skip
        refine zw_run 2 (pc' := 57) (loc' := [some (.ref 63), some (.int p), some (.int (zt Z 61 (p + 1))), none]) (stk' := [.int 1]) (fun _ _ _ => rfl) ?_
        exact J7 _ (by clear H J7; first | (simp [bI, c1, c2, c3]; done) | (simp [bI, *]; done) | (simp_all [bI]; done) | (exfalso; simp_all; done))
      · skip
        refine zw_run 2 (pc' := 33) (loc' := [some (.ref 63), some (.int p), some (.int (zt Z 61 (p + 1))), none]) (stk' := [.int 47, .int (zt Z 61 (p + 1))]) (fun _ _ _ => rfl) ?_
        refine zw_br (c := ¬ (zt Z 61 (p + 1)) = 47) (t1 := 56) (t2 := 36) (loc' := [some (.ref 63), some (.int p), some (.int (zt Z 61 (p + 1))), none]) (stk' := []) (fun _ _ _ => rfl) (fun c4 => ?_) (fun c4 => ?_)
        · skip
          refine zw_run 1 (pc' := 57) (loc' := [some (.ref 63), some (.int p), some (.int (zt Z 61 (p + 1))), none]) (stk' := [.int 0]) (fun _ _ _ => rfl) ?_
          exact J7 _ (by clear H J7; first | (simp [bI, c1, c2, c3, c4]; done) | (simp [bI, *]; done) | (simp_all [bI]; done) | (exfalso; simp_all; done))
        · skip
          refine zw_run 1 (pc' := 37) (loc' := [some (.ref 63), some (.int p), some (.int (zt Z 61 (p + 1))), none]) (stk' := [.ref 63]) (fun _ _ _ => rfl) ?_
          refine zw_get (v := .ref 61) rfl rfl rfl ?_
          refine zw_run 3 (pc' := 43) (loc' := [some (.ref 63), some (.int p), some (.int (zt Z 61 (p + 1))), none]) (stk' := [.int (p + 2), .ref 61]) (fun _ _ _ => rfl) ?_
          refine zw_callf (As := [.ref 61, .int (p + 2)]) (rest := []) (c_row_at (id := 61) (by decide) (p + 2) (d := d + 1)) rfl rfl rfl rfl ?_
          show zw fm sx (d + 2) 89 46 [some (.ref 63), some (.int p), some (.int (zt Z 61 (p + 1))), none] [.int (zt Z 61 (p + 2))] Z Q
          refine zw_callf (As := [.int (zt Z 61 (p + 2))]) (rest := []) (c_196 (zt Z 61 (p + 2)) (d := d + 1)) rfl rfl rfl rfl ?_
          show zw fm sx (d + 2) 89 49 [some (.ref 63), some (.int p), some (.int (zt Z 61 (p + 1))), none] [.int (bI (k_196 (zt Z 61 (p + 2))))] Z Q
          refine zw_b0 (b := (k_196 (zt Z 61 (p + 2)))) (t1 := 52) (t2 := 56) (loc' := [some (.ref 63), some (.int p), some (.int (zt Z 61 (p + 1))), none]) (stk' := []) (fun _ _ _ => rfl) (fun c5 => ?_) (fun c5 => ?_)
          · skip
            refine zw_run 2 (pc' := 57) (loc' := [some (.ref 63), some (.int p), some (.int (zt Z 61 (p + 1))), none]) (stk' := [.int 1]) (fun _ _ _ => rfl) ?_
            exact J7 _ (by clear H J7; first | (simp [bI, c1, c2, c3, c4, c5]; done) | (simp [bI, *]; done) | (simp_all [bI]; done) | (exfalso; simp_all; done))
          · skip
            refine zw_run 1 (pc' := 57) (loc' := [some (.ref 63), some (.int p), some (.int (zt Z 61 (p + 1))), none]) (stk' := [.int 0]) (fun _ _ _ => rfl) ?_
            exact J7 _ (by clear H J7; first | (simp [bI, c1, c2, c3, c4, c5]; done) | (simp [bI, *]; done) | (simp_all [bI]; done) | (exfalso; simp_all; done))
theorem t_89 {fm : Value} {sx : Nat × (Nat → Int32)} {d : Nat} {Z : zr_Z} {Q : Option Value → zr_Z → Prop} (p : Int32) (HQ : Q (some (.int (bI (f_89 Z p)))) Z) : zw fm sx (d + 2) 89 0 [some (.ref 63), some (.int p), none, none] [] Z Q := by
  refine b_89 p ?_
  unfold f_89 at HQ
  exact HQ
theorem c_89 {fm : Value} {sx : Nat × (Nat → Int32)} {d : Nat} {Z : zr_Z} (p : Int32) : zl fm sx (d + 3) 89 [.ref 63, .int p] Z (fun r Z' => r = some (.int (bI (f_89 Z p))) ∧ Z' = Z) :=
  zl_of (nL := 4) (loc0 := [some (.ref 63), some (.int p), none, none]) rfl rfl rfl (t_89 p ⟨rfl, rfl⟩)
