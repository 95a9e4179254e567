/-! walks into Option; written by wip/whole/gen_opt.py -/
/-- MarkInlines$Reader.markReference -/
def o_61 (Z : zr_Z) (p : Int32) : Option (Int32 × zr_Z) := (Option.bind (o_63 Z p) fun u1 => (if ¬ u1.1 = (-1) then (if (k_200 (zc u1.2 0)) = true then (olet (f_35 (zput (f_52 u1.2 1 p) 68 p (zc (f_52 u1.2 1 p) 0)) (p + 1) u1.1 : zr_Z) fun Z4 => some (u1.1, Z4)) else some (u1.1, f_35 (zput u1.2 68 p (zc u1.2 0)) (p + 1) u1.1)) else some (p + 1, u1.2)))
set_option maxRecDepth 100000 in
set_option maxHeartbeats 4000000 in
theorem t_61 {fm : Value} {sx : Nat × (Nat → Int32)} {d : Nat} {Z : zr_Z} {Q : Option Value → zr_Z → Prop} (hu : fm = .null ∨ ∃ q, fm = .ref q) (p : Int32) (H : oq (o_61 Z p) (fun x => Q (some (.int x.1)) x.2)) : zw fm sx (d + 6) 61 0 [some (.ref 89), some (.int p), none] [] Z Q := by
  unfold o_61 at H
  refine zw_run 1 (pc' := 1) (loc' := [some (.ref 89), some (.int p), none]) (stk' := [.ref 89]) (fun _ _ _ => rfl) ?_
  refine zw_get (v := .ref 64) rfl rfl rfl ?_
  refine zw_run 1 (pc' := 5) (loc' := [some (.ref 89), some (.int p), none]) (stk' := [.int p, .ref 64]) (fun _ _ _ => rfl) ?_
  obtain ⟨u1, hu1, H⟩ := oq_bind H
  refine zw_callf (As := [.ref 64, .int p]) (rest := []) (c_63 hu p hu1 (d := d + 0)) rfl rfl rfl rfl ?_
  show zw fm sx (d + 6) 61 8 [some (.ref 89), some (.int p), none] [.int u1.1] u1.2 Q
  refine zw_run 3 (pc' := 11) (loc' := [some (.ref 89), some (.int p), some (.int u1.1)]) (stk' := [.int (-1), .int u1.1]) (fun _ _ _ => rfl) ?_
  refine zw_br (c := ¬ u1.1 = (-1)) (t1 := 18) (t2 := 14) (loc' := [some (.ref 89), some (.int p), some (.int u1.1)]) (stk' := []) (fun _ _ _ => rfl) (fun c2 => ?_) (fun c2 => ?_)
  · rw [if_pos c2] at H
    refine zw_run 1 (pc' := 19) (loc' := [some (.ref 89), some (.int p), some (.int u1.1)]) (stk' := [.ref 89]) (fun _ _ _ => rfl) ?_
    refine zw_get (v := .ref 64) rfl rfl rfl ?_
    refine zw_get (v := .int (zc u1.2 0)) rfl rfl rfl ?_
    refine zw_callf (As := [.int (zc u1.2 0)]) (rest := []) (c_200 (zc u1.2 0) (d := d + 5)) rfl rfl rfl rfl ?_
    show zw fm sx (d + 6) 61 28 [some (.ref 89), some (.int p), some (.int u1.1)] [.int (bI (k_200 (zc u1.2 0)))] u1.2 Q
    refine zw_b0 (b := (k_200 (zc u1.2 0))) (t1 := 31) (t2 := 37) (loc' := [some (.ref 89), some (.int p), some (.int u1.1)]) (stk' := []) (fun _ _ _ => rfl) (fun c3 => ?_) (fun c3 => ?_)
    · rw [if_pos c3] at H
      refine zw_run 3 (pc' := 34) (loc' := [some (.ref 89), some (.int p), some (.int u1.1)]) (stk' := [.int p, .int 1, .ref 89]) (fun _ _ _ => rfl) ?_
      refine zw_callf (As := [.ref 89, .int 1, .int p]) (rest := []) (c_52 1 p (d := d + 5)) rfl rfl rfl rfl ?_
      show zw fm sx (d + 6) 61 37 [some (.ref 89), some (.int p), some (.int u1.1)] [] (f_52 u1.2 1 p) Q
      refine zw_run 1 (pc' := 38) (loc' := [some (.ref 89), some (.int p), some (.int u1.1)]) (stk' := [.ref 89]) (fun _ _ _ => rfl) ?_
      refine zw_get (v := .ref 65) rfl rfl rfl ?_
      refine zw_get (v := .ref 68) rfl rfl rfl ?_
      refine zw_run 2 (pc' := 46) (loc' := [some (.ref 89), some (.int p), some (.int u1.1)]) (stk' := [.ref 89, .int p, .ref 68]) (fun _ _ _ => rfl) ?_
      refine zw_get (v := .ref 64) rfl rfl rfl ?_
      refine zw_get (v := .int (zc (f_52 u1.2 1 p) 0)) rfl rfl rfl ?_
      refine zw_callf (As := [.ref 68, .int p, .int (zc (f_52 u1.2 1 p) 0)]) (rest := []) (c_row_put (id := 68) (by decide) p (zc (f_52 u1.2 1 p) 0) (d := d + 5)) rfl rfl rfl rfl ?_
      show zw fm sx (d + 6) 61 55 [some (.ref 89), some (.int p), some (.int u1.1)] [] (zput (f_52 u1.2 1 p) 68 p (zc (f_52 u1.2 1 p) 0)) Q
      refine zw_run 1 (pc' := 56) (loc' := [some (.ref 89), some (.int p), some (.int u1.1)]) (stk' := [.ref 89]) (fun _ _ _ => rfl) ?_
      refine zw_get (v := .ref 65) rfl rfl rfl ?_
      refine zw_run 4 (pc' := 63) (loc' := [some (.ref 89), some (.int p), some (.int u1.1)]) (stk' := [.int u1.1, .int (p + 1), .ref 65]) (fun _ _ _ => rfl) ?_
      refine zw_callf (As := [.ref 65, .int (p + 1), .int u1.1]) (rest := []) (c_35 (p + 1) u1.1 (d := d + 4)) rfl rfl rfl rfl ?_
      show zw fm sx (d + 6) 61 66 [some (.ref 89), some (.int p), some (.int u1.1)] [] (f_35 (zput (f_52 u1.2 1 p) 68 p (zc (f_52 u1.2 1 p) 0)) (p + 1) u1.1) Q
      obtain ⟨Z4, hZ4⟩ : ∃ w : zr_Z, w = f_35 (zput (f_52 u1.2 1 p) 68 p (zc (f_52 u1.2 1 p) 0)) (p + 1) u1.1 := ⟨_, rfl⟩
      rw [← hZ4]
      have H := oq_let H Z4 hZ4
      refine zw_run 1 (pc' := 67) (loc' := [some (.ref 89), some (.int p), some (.int u1.1)]) (stk' := [.int u1.1]) (fun _ _ _ => rfl) ?_
      refine zw_reti (i := .nop) rfl rfl ?_
      have H := oq_some H
      exact H
    · rw [if_neg c3] at H
      refine zw_run 1 (pc' := 38) (loc' := [some (.ref 89), some (.int p), some (.int u1.1)]) (stk' := [.ref 89]) (fun _ _ _ => rfl) ?_
      refine zw_get (v := .ref 65) rfl rfl rfl ?_
      refine zw_get (v := .ref 68) rfl rfl rfl ?_
      refine zw_run 2 (pc' := 46) (loc' := [some (.ref 89), some (.int p), some (.int u1.1)]) (stk' := [.ref 89, .int p, .ref 68]) (fun _ _ _ => rfl) ?_
      refine zw_get (v := .ref 64) rfl rfl rfl ?_
      refine zw_get (v := .int (zc u1.2 0)) rfl rfl rfl ?_
      refine zw_callf (As := [.ref 68, .int p, .int (zc u1.2 0)]) (rest := []) (c_row_put (id := 68) (by decide) p (zc u1.2 0) (d := d + 5)) rfl rfl rfl rfl ?_
      show zw fm sx (d + 6) 61 55 [some (.ref 89), some (.int p), some (.int u1.1)] [] (zput u1.2 68 p (zc u1.2 0)) Q
      refine zw_run 1 (pc' := 56) (loc' := [some (.ref 89), some (.int p), some (.int u1.1)]) (stk' := [.ref 89]) (fun _ _ _ => rfl) ?_
      refine zw_get (v := .ref 65) rfl rfl rfl ?_
      refine zw_run 4 (pc' := 63) (loc' := [some (.ref 89), some (.int p), some (.int u1.1)]) (stk' := [.int u1.1, .int (p + 1), .ref 65]) (fun _ _ _ => rfl) ?_
      refine zw_callf (As := [.ref 65, .int (p + 1), .int u1.1]) (rest := []) (c_35 (p + 1) u1.1 (d := d + 4)) rfl rfl rfl rfl ?_
      show zw fm sx (d + 6) 61 66 [some (.ref 89), some (.int p), some (.int u1.1)] [] (f_35 (zput u1.2 68 p (zc u1.2 0)) (p + 1) u1.1) Q
      refine zw_run 1 (pc' := 67) (loc' := [some (.ref 89), some (.int p), some (.int u1.1)]) (stk' := [.int u1.1]) (fun _ _ _ => rfl) ?_
      refine zw_reti (i := .nop) rfl rfl ?_
      have H := oq_some H
      exact H
  · rw [if_neg c2] at H
    refine zw_run 3 (pc' := 17) (loc' := [some (.ref 89), some (.int p), some (.int u1.1)]) (stk' := [.int (p + 1)]) (fun _ _ _ => rfl) ?_
    refine zw_reti (i := .nop) rfl rfl ?_
    have H := oq_some H
    exact H
theorem c_61 {fm : Value} {sx : Nat × (Nat → Int32)} {d : Nat} {Z : zr_Z} (hu : fm = .null ∨ ∃ q, fm = .ref q) (p : Int32) {x : Int32 × zr_Z} (hx : o_61 Z p = some x) : zl fm sx (d + 7) 61 [.ref 89, .int p] Z (fun r Z' => r = some (.int x.1) ∧ Z' = x.2) :=
  zl_of (nL := 3) (loc0 := [some (.ref 89), some (.int p), none]) rfl rfl rfl (t_61 hu p ⟨x, hx, rfl, rfl⟩)
/-- MarkInlines$Reader.markCoding, its loop at 31 -/
def g_58_31 : Nat → zr_Z → Int32 → Int32 → Int32 → Bool → Int32 → Option (Int32 × zr_Z)
  | 0, _, _, _, _, _, _ => none
  | n + 1, Z, p, x2, x3, y4, x5 => (if x3 ≤ x5 then (olet (zput (zput (f_35 (f_35 Z p x2) x3 ((x3 + x2) - p)) 66 p 3) 66 x3 10 : zr_Z) fun Z2 => (if y4 = true then some ((x3 + x2) - p, Z2) else (if ¬ (zt Z2 68 x2) = 32 then some ((x3 + x2) - p, Z2) else (if ¬ (zt Z2 68 (x3 - 1)) = 32 then some ((x3 + x2) - p, Z2) else some ((x3 + x2) - p, f_35 (f_35 Z2 x2 (x2 + 1)) (x3 - 1) x3))))) else (if ¬ (zt Z 61 x5) = 10 then (olet ((y4 && (decide ((zt Z 68 x5) = 32))) : Bool) fun y11 => g_58_31 n Z p x2 x3 y11 (x5 + 1)) else (olet ((y4 && (decide ((zt (zput Z 68 x5 32) 68 x5) = 32))) : Bool) fun y16 => g_58_31 n (zput Z 68 x5 32) p x2 x3 y16 (x5 + 1))))
set_option maxRecDepth 100000 in
set_option maxHeartbeats 4000000 in
theorem l_58_31 {fm : Value} {sx : Nat × (Nat → Int32)} {d : Nat} {Q : Option Value → zr_Z → Prop} (hu : fm = .null ∨ ∃ q, fm = .ref q) (p : Int32) : ∀ (n : Nat) (Z : zr_Z) (x2 : Int32) (x3 : Int32) (y4 : Bool) (x5 : Int32), oq (g_58_31 n Z p x2 x3 y4 x5) (fun x => Q (some (.int x.1)) x.2) → zw fm sx (d + 3) 58 31 [some (.ref 89), some (.int p), some (.int x2), some (.int x3), some (.int (bI y4)), some (.int x5)] [] Z Q := by
  intro n
  induction n with
  | zero => intro Z x2 x3 y4 x5 H; exact absurd H oq_none
  | succ n ih =>
    intro Z x2 x3 y4 x5 H
    unfold g_58_31 at H
    refine zw_run 2 (pc' := 34) (loc' := [some (.ref 89), some (.int p), some (.int x2), some (.int x3), some (.int (bI y4)), some (.int x5)]) (stk' := [.int x3, .int x5]) (fun _ _ _ => rfl) ?_
    refine zw_br (c := x3 ≤ x5) (t1 := 100) (t2 := 37) (loc' := [some (.ref 89), some (.int p), some (.int x2), some (.int x3), some (.int (bI y4)), some (.int x5)]) (stk' := []) (fun _ _ _ => rfl) (fun c1 => ?_) (fun c1 => ?_)
    · rw [if_pos c1] at H
      refine zw_run 7 (pc' := 108) (loc' := [some (.ref 89), some (.int p), some (.int x2), some (.int x3), some (.int (bI y4)), some (.int ((x3 + x2) - p))]) (stk' := [.ref 89]) (fun _ _ _ => rfl) ?_
      refine zw_get (v := .ref 65) rfl rfl rfl ?_
      refine zw_run 2 (pc' := 113) (loc' := [some (.ref 89), some (.int p), some (.int x2), some (.int x3), some (.int (bI y4)), some (.int ((x3 + x2) - p))]) (stk' := [.int x2, .int p, .ref 65]) (fun _ _ _ => rfl) ?_
      refine zw_callf (As := [.ref 65, .int p, .int x2]) (rest := []) (c_35 p x2 (d := d + 1)) rfl rfl rfl rfl ?_
      show zw fm sx (d + 3) 58 116 [some (.ref 89), some (.int p), some (.int x2), some (.int x3), some (.int (bI y4)), some (.int ((x3 + x2) - p))] [] (f_35 Z p x2) Q
      refine zw_run 1 (pc' := 117) (loc' := [some (.ref 89), some (.int p), some (.int x2), some (.int x3), some (.int (bI y4)), some (.int ((x3 + x2) - p))]) (stk' := [.ref 89]) (fun _ _ _ => rfl) ?_
      refine zw_get (v := .ref 65) rfl rfl rfl ?_
      refine zw_run 2 (pc' := 123) (loc' := [some (.ref 89), some (.int p), some (.int x2), some (.int x3), some (.int (bI y4)), some (.int ((x3 + x2) - p))]) (stk' := [.int ((x3 + x2) - p), .int x3, .ref 65]) (fun _ _ _ => rfl) ?_
      refine zw_callf (As := [.ref 65, .int x3, .int ((x3 + x2) - p)]) (rest := []) (c_35 x3 ((x3 + x2) - p) (d := d + 1)) rfl rfl rfl rfl ?_
      show zw fm sx (d + 3) 58 126 [some (.ref 89), some (.int p), some (.int x2), some (.int x3), some (.int (bI y4)), some (.int ((x3 + x2) - p))] [] (f_35 (f_35 Z p x2) x3 ((x3 + x2) - p)) Q
      refine zw_run 1 (pc' := 127) (loc' := [some (.ref 89), some (.int p), some (.int x2), some (.int x3), some (.int (bI y4)), some (.int ((x3 + x2) - p))]) (stk' := [.ref 89]) (fun _ _ _ => rfl) ?_
      refine zw_get (v := .ref 65) rfl rfl rfl ?_
      refine zw_get (v := .ref 66) rfl rfl rfl ?_
      refine zw_run 2 (pc' := 135) (loc' := [some (.ref 89), some (.int p), some (.int x2), some (.int x3), some (.int (bI y4)), some (.int ((x3 + x2) - p))]) (stk' := [.int 3, .int p, .ref 66]) (fun _ _ _ => rfl) ?_
      refine zw_callf (As := [.ref 66, .int p, .int 3]) (rest := []) (c_row_put (id := 66) (by decide) p 3 (d := d + 2)) rfl rfl rfl rfl ?_
      show zw fm sx (d + 3) 58 138 [some (.ref 89), some (.int p), some (.int x2), some (.int x3), some (.int (bI y4)), some (.int ((x3 + x2) - p))] [] (zput (f_35 (f_35 Z p x2) x3 ((x3 + x2) - p)) 66 p 3) Q
      refine zw_run 1 (pc' := 139) (loc' := [some (.ref 89), some (.int p), some (.int x2), some (.int x3), some (.int (bI y4)), some (.int ((x3 + x2) - p))]) (stk' := [.ref 89]) (fun _ _ _ => rfl) ?_
      refine zw_get (v := .ref 65) rfl rfl rfl ?_
      refine zw_get (v := .ref 66) rfl rfl rfl ?_
      refine zw_run 2 (pc' := 148) (loc' := [some (.ref 89), some (.int p), some (.int x2), some (.int x3), some (.int (bI y4)), some (.int ((x3 + x2) - p))]) (stk' := [.int 10, .int x3, .ref 66]) (fun _ _ _ => rfl) ?_
      refine zw_callf (As := [.ref 66, .int x3, .int 10]) (rest := []) (c_row_put (id := 66) (by decide) x3 10 (d := d + 2)) rfl rfl rfl rfl ?_
      show zw fm sx (d + 3) 58 151 [some (.ref 89), some (.int p), some (.int x2), some (.int x3), some (.int (bI y4)), some (.int ((x3 + x2) - p))] [] (zput (zput (f_35 (f_35 Z p x2) x3 ((x3 + x2) - p)) 66 p 3) 66 x3 10) Q
      obtain ⟨Z2, hZ2⟩ : ∃ w : zr_Z, w = zput (zput (f_35 (f_35 Z p x2) x3 ((x3 + x2) - p)) 66 p 3) 66 x3 10 := ⟨_, rfl⟩
      rw [← hZ2]
      have H := oq_let H Z2 hZ2
      refine zw_run 1 (pc' := 153) (loc' := [some (.ref 89), some (.int p), some (.int x2), some (.int x3), some (.int (bI y4)), some (.int ((x3 + x2) - p))]) (stk' := [.int (bI y4)]) (fun _ _ _ => rfl) ?_
      refine zw_b1 (b := y4) (t1 := 212) (t2 := 156) (loc' := [some (.ref 89), some (.int p), some (.int x2), some (.int x3), some (.int (bI y4)), some (.int ((x3 + x2) - p))]) (stk' := []) (fun _ _ _ => rfl) (fun c3 => ?_) (fun c3 => ?_)
      · rw [if_pos c3] at H
        refine zw_run 1 (pc' := 214) (loc' := [some (.ref 89), some (.int p), some (.int x2), some (.int x3), some (.int (bI y4)), some (.int ((x3 + x2) - p))]) (stk' := [.int ((x3 + x2) - p)]) (fun _ _ _ => rfl) ?_
        refine zw_reti (i := .nop) rfl rfl ?_
        have H := oq_some H
        exact H
      · rw [if_neg c3] at H
        refine zw_run 1 (pc' := 157) (loc' := [some (.ref 89), some (.int p), some (.int x2), some (.int x3), some (.int (bI y4)), some (.int ((x3 + x2) - p))]) (stk' := [.ref 89]) (fun _ _ _ => rfl) ?_
        refine zw_get (v := .ref 65) rfl rfl rfl ?_
        refine zw_get (v := .ref 68) rfl rfl rfl ?_
        refine zw_run 1 (pc' := 164) (loc' := [some (.ref 89), some (.int p), some (.int x2), some (.int x3), some (.int (bI y4)), some (.int ((x3 + x2) - p))]) (stk' := [.int x2, .ref 68]) (fun _ _ _ => rfl) ?_
        refine zw_callf (As := [.ref 68, .int x2]) (rest := []) (c_row_at (id := 68) (by decide) x2 (d := d + 2)) rfl rfl rfl rfl ?_
        show zw fm sx (d + 3) 58 167 [some (.ref 89), some (.int p), some (.int x2), some (.int x3), some (.int (bI y4)), some (.int ((x3 + x2) - p))] [.int (zt Z2 68 x2)] Z2 Q
        refine zw_run 1 (pc' := 169) (loc' := [some (.ref 89), some (.int p), some (.int x2), some (.int x3), some (.int (bI y4)), some (.int ((x3 + x2) - p))]) (stk' := [.int 32, .int (zt Z2 68 x2)]) (fun _ _ _ => rfl) ?_
        refine zw_br (c := ¬ (zt Z2 68 x2) = 32) (t1 := 212) (t2 := 172) (loc' := [some (.ref 89), some (.int p), some (.int x2), some (.int x3), some (.int (bI y4)), some (.int ((x3 + x2) - p))]) (stk' := []) (fun _ _ _ => rfl) (fun c4 => ?_) (fun c4 => ?_)
        · rw [if_pos c4] at H
          refine zw_run 1 (pc' := 214) (loc' := [some (.ref 89), some (.int p), some (.int x2), some (.int x3), some (.int (bI y4)), some (.int ((x3 + x2) - p))]) (stk' := [.int ((x3 + x2) - p)]) (fun _ _ _ => rfl) ?_
          refine zw_reti (i := .nop) rfl rfl ?_
          have H := oq_some H
          exact H
        · rw [if_neg c4] at H
          refine zw_run 1 (pc' := 173) (loc' := [some (.ref 89), some (.int p), some (.int x2), some (.int x3), some (.int (bI y4)), some (.int ((x3 + x2) - p))]) (stk' := [.ref 89]) (fun _ _ _ => rfl) ?_
          refine zw_get (v := .ref 65) rfl rfl rfl ?_
          refine zw_get (v := .ref 68) rfl rfl rfl ?_
          refine zw_run 3 (pc' := 182) (loc' := [some (.ref 89), some (.int p), some (.int x2), some (.int x3), some (.int (bI y4)), some (.int ((x3 + x2) - p))]) (stk' := [.int (x3 - 1), .ref 68]) (fun _ _ _ => rfl) ?_
          refine zw_callf (As := [.ref 68, .int (x3 - 1)]) (rest := []) (c_row_at (id := 68) (by decide) (x3 - 1) (d := d + 2)) rfl rfl rfl rfl ?_
          show zw fm sx (d + 3) 58 185 [some (.ref 89), some (.int p), some (.int x2), some (.int x3), some (.int (bI y4)), some (.int ((x3 + x2) - p))] [.int (zt Z2 68 (x3 - 1))] Z2 Q
          refine zw_run 1 (pc' := 187) (loc' := [some (.ref 89), some (.int p), some (.int x2), some (.int x3), some (.int (bI y4)), some (.int ((x3 + x2) - p))]) (stk' := [.int 32, .int (zt Z2 68 (x3 - 1))]) (fun _ _ _ => rfl) ?_
          refine zw_br (c := ¬ (zt Z2 68 (x3 - 1)) = 32) (t1 := 212) (t2 := 190) (loc' := [some (.ref 89), some (.int p), some (.int x2), some (.int x3), some (.int (bI y4)), some (.int ((x3 + x2) - p))]) (stk' := []) (fun _ _ _ => rfl) (fun c5 => ?_) (fun c5 => ?_)
          · rw [if_pos c5] at H
            refine zw_run 1 (pc' := 214) (loc' := [some (.ref 89), some (.int p), some (.int x2), some (.int x3), some (.int (bI y4)), some (.int ((x3 + x2) - p))]) (stk' := [.int ((x3 + x2) - p)]) (fun _ _ _ => rfl) ?_
            refine zw_reti (i := .nop) rfl rfl ?_
            have H := oq_some H
            exact H
          · rw [if_neg c5] at H
            refine zw_run 1 (pc' := 191) (loc' := [some (.ref 89), some (.int p), some (.int x2), some (.int x3), some (.int (bI y4)), some (.int ((x3 + x2) - p))]) (stk' := [.ref 89]) (fun _ _ _ => rfl) ?_
            refine zw_get (v := .ref 65) rfl rfl rfl ?_
            refine zw_run 4 (pc' := 198) (loc' := [some (.ref 89), some (.int p), some (.int x2), some (.int x3), some (.int (bI y4)), some (.int ((x3 + x2) - p))]) (stk' := [.int (x2 + 1), .int x2, .ref 65]) (fun _ _ _ => rfl) ?_
            refine zw_callf (As := [.ref 65, .int x2, .int (x2 + 1)]) (rest := []) (c_35 x2 (x2 + 1) (d := d + 1)) rfl rfl rfl rfl ?_
            show zw fm sx (d + 3) 58 201 [some (.ref 89), some (.int p), some (.int x2), some (.int x3), some (.int (bI y4)), some (.int ((x3 + x2) - p))] [] (f_35 Z2 x2 (x2 + 1)) Q
            refine zw_run 1 (pc' := 202) (loc' := [some (.ref 89), some (.int p), some (.int x2), some (.int x3), some (.int (bI y4)), some (.int ((x3 + x2) - p))]) (stk' := [.ref 89]) (fun _ _ _ => rfl) ?_
            refine zw_get (v := .ref 65) rfl rfl rfl ?_
            refine zw_run 4 (pc' := 209) (loc' := [some (.ref 89), some (.int p), some (.int x2), some (.int x3), some (.int (bI y4)), some (.int ((x3 + x2) - p))]) (stk' := [.int x3, .int (x3 - 1), .ref 65]) (fun _ _ _ => rfl) ?_
            refine zw_callf (As := [.ref 65, .int (x3 - 1), .int x3]) (rest := []) (c_35 (x3 - 1) x3 (d := d + 1)) rfl rfl rfl rfl ?_
            show zw fm sx (d + 3) 58 212 [some (.ref 89), some (.int p), some (.int x2), some (.int x3), some (.int (bI y4)), some (.int ((x3 + x2) - p))] [] (f_35 (f_35 Z2 x2 (x2 + 1)) (x3 - 1) x3) Q
            refine zw_run 1 (pc' := 214) (loc' := [some (.ref 89), some (.int p), some (.int x2), some (.int x3), some (.int (bI y4)), some (.int ((x3 + x2) - p))]) (stk' := [.int ((x3 + x2) - p)]) (fun _ _ _ => rfl) ?_
            refine zw_reti (i := .nop) rfl rfl ?_
            have H := oq_some H
            exact H
    · rw [if_neg c1] at H
      refine zw_run 1 (pc' := 38) (loc' := [some (.ref 89), some (.int p), some (.int x2), some (.int x3), some (.int (bI y4)), some (.int x5)]) (stk' := [.ref 89]) (fun _ _ _ => rfl) ?_
      refine zw_get (v := .ref 61) rfl rfl rfl ?_
      refine zw_run 1 (pc' := 43) (loc' := [some (.ref 89), some (.int p), some (.int x2), some (.int x3), some (.int (bI y4)), some (.int x5)]) (stk' := [.int x5, .ref 61]) (fun _ _ _ => rfl) ?_
      refine zw_callf (As := [.ref 61, .int x5]) (rest := []) (c_row_at (id := 61) (by decide) x5 (d := d + 2)) rfl rfl rfl rfl ?_
      show zw fm sx (d + 3) 58 46 [some (.ref 89), some (.int p), some (.int x2), some (.int x3), some (.int (bI y4)), some (.int x5)] [.int (zt Z 61 x5)] Z Q
      refine zw_run 1 (pc' := 48) (loc' := [some (.ref 89), some (.int p), some (.int x2), some (.int x3), some (.int (bI y4)), some (.int x5)]) (stk' := [.int 10, .int (zt Z 61 x5)]) (fun _ _ _ => rfl) ?_
      refine zw_br (c := ¬ (zt Z 61 x5) = 10) (t1 := 65) (t2 := 51) (loc' := [some (.ref 89), some (.int p), some (.int x2), some (.int x3), some (.int (bI y4)), some (.int x5)]) (stk' := []) (fun _ _ _ => rfl) (fun c6 => ?_) (fun c6 => ?_)
      · rw [if_pos c6] at H
        refine zw_run 1 (pc' := 67) (loc' := [some (.ref 89), some (.int p), some (.int x2), some (.int x3), some (.int (bI y4)), some (.int x5)]) (stk' := [.int (bI y4)]) (fun _ _ _ => rfl) ?_
        have J10 : ∀ (v9 : Int32), v9 = (bI (y4 && (decide ((zt Z 68 x5) = 32)))) → zw fm sx (d + 3) 58 92 [some (.ref 89), some (.int p), some (.int x2), some (.int x3), some (.int (bI y4)), some (.int x5)] [.int v9] Z Q := by
          intro v9 ev9
          subst ev9
          refine zw_run 1 (pc' := 94) (loc' := [some (.ref 89), some (.int p), some (.int x2), some (.int x3), some (.int (bI (y4 && (decide ((zt Z 68 x5) = 32))))), some (.int x5)]) (stk' := []) (fun _ _ _ => rfl) ?_
          obtain ⟨y11, hy11⟩ : ∃ w : Bool, w = (y4 && (decide ((zt Z 68 x5) = 32))) := ⟨_, rfl⟩
          rw [← hy11]
          have H := oq_let H y11 hy11
          refine zw_run 2 (pc' := 31) (loc' := [some (.ref 89), some (.int p), some (.int x2), some (.int x3), some (.int (bI y11)), some (.int (x5 + 1))]) (stk' := []) (fun _ _ _ => rfl) ?_
          exact ih Z x2 x3 y11 (x5 + 1) H
        refine zw_b0 (b := y4) (t1 := 70) (t2 := 91) (loc' := [some (.ref 89), some (.int p), some (.int x2), some (.int x3), some (.int (bI y4)), some (.int x5)]) (stk' := []) (fun _ _ _ => rfl) (fun c7 => ?_) (fun c7 => ?_)
        · skip
          refine zw_run 1 (pc' := 71) (loc' := [some (.ref 89), some (.int p), some (.int x2), some (.int x3), some (.int (bI y4)), some (.int x5)]) (stk' := [.ref 89]) (fun _ _ _ => rfl) ?_
          refine zw_get (v := .ref 65) rfl rfl rfl ?_
          refine zw_get (v := .ref 68) rfl rfl rfl ?_
          refine zw_run 1 (pc' := 79) (loc' := [some (.ref 89), some (.int p), some (.int x2), some (.int x3), some (.int (bI y4)), some (.int x5)]) (stk' := [.int x5, .ref 68]) (fun _ _ _ => rfl) ?_
          refine zw_callf (As := [.ref 68, .int x5]) (rest := []) (c_row_at (id := 68) (by decide) x5 (d := d + 2)) rfl rfl rfl rfl ?_
          show zw fm sx (d + 3) 58 82 [some (.ref 89), some (.int p), some (.int x2), some (.int x3), some (.int (bI y4)), some (.int x5)] [.int (zt Z 68 x5)] Z Q
          refine zw_run 1 (pc' := 84) (loc' := [some (.ref 89), some (.int p), some (.int x2), some (.int x3), some (.int (bI y4)), some (.int x5)]) (stk' := [.int 32, .int (zt Z 68 x5)]) (fun _ _ _ => rfl) ?_
          refine zw_br (c := ¬ (zt Z 68 x5) = 32) (t1 := 91) (t2 := 87) (loc' := [some (.ref 89), some (.int p), some (.int x2), some (.int x3), some (.int (bI y4)), some (.int x5)]) (stk' := []) (fun _ _ _ => rfl) (fun c8 => ?_) (fun c8 => ?_)
          · skip
            refine zw_run 1 (pc' := 92) (loc' := [some (.ref 89), some (.int p), some (.int x2), some (.int x3), some (.int (bI y4)), some (.int x5)]) (stk' := [.int 0]) (fun _ _ _ => rfl) ?_
            exact J10 _ (by clear H J10; first | (simp [bI, c7, c8]; done) | (simp [bI, *]; done) | (simp_all [bI]; done) | (exfalso; simp_all; done))
          · skip
            refine zw_run 2 (pc' := 92) (loc' := [some (.ref 89), some (.int p), some (.int x2), some (.int x3), some (.int (bI y4)), some (.int x5)]) (stk' := [.int 1]) (fun _ _ _ => rfl) ?_
            exact J10 _ (by clear H J10; first | (simp [bI, c7, c8]; done) | (simp [bI, *]; done) | (simp_all [bI]; done) | (exfalso; simp_all; done))
        · skip
          refine zw_run 1 (pc' := 92) (loc' := [some (.ref 89), some (.int p), some (.int x2), some (.int x3), some (.int (bI y4)), some (.int x5)]) (stk' := [.int 0]) (fun _ _ _ => rfl) ?_
          exact J10 _ (by clear H J10; first | (simp [bI, c7]; done) | (simp [bI, *]; done) | (simp_all [bI]; done) | (exfalso; simp_all; done))
      · rw [if_neg c6] at H
        refine zw_run 1 (pc' := 52) (loc' := [some (.ref 89), some (.int p), some (.int x2), some (.int x3), some (.int (bI y4)), some (.int x5)]) (stk' := [.ref 89]) (fun _ _ _ => rfl) ?_
        refine zw_get (v := .ref 65) rfl rfl rfl ?_
        refine zw_get (v := .ref 68) rfl rfl rfl ?_
        refine zw_run 2 (pc' := 62) (loc' := [some (.ref 89), some (.int p), some (.int x2), some (.int x3), some (.int (bI y4)), some (.int x5)]) (stk' := [.int 32, .int x5, .ref 68]) (fun _ _ _ => rfl) ?_
        refine zw_callf (As := [.ref 68, .int x5, .int 32]) (rest := []) (c_row_put (id := 68) (by decide) x5 32 (d := d + 2)) rfl rfl rfl rfl ?_
        show zw fm sx (d + 3) 58 65 [some (.ref 89), some (.int p), some (.int x2), some (.int x3), some (.int (bI y4)), some (.int x5)] [] (zput Z 68 x5 32) Q
        refine zw_run 1 (pc' := 67) (loc' := [some (.ref 89), some (.int p), some (.int x2), some (.int x3), some (.int (bI y4)), some (.int x5)]) (stk' := [.int (bI y4)]) (fun _ _ _ => rfl) ?_
        have J15 : ∀ (v14 : Int32), v14 = (bI (y4 && (decide ((zt (zput Z 68 x5 32) 68 x5) = 32)))) → zw fm sx (d + 3) 58 92 [some (.ref 89), some (.int p), some (.int x2), some (.int x3), some (.int (bI y4)), some (.int x5)] [.int v14] (zput Z 68 x5 32) Q := by
          intro v14 ev14
          subst ev14
          refine zw_run 1 (pc' := 94) (loc' := [some (.ref 89), some (.int p), some (.int x2), some (.int x3), some (.int (bI (y4 && (decide ((zt (zput Z 68 x5 32) 68 x5) = 32))))), some (.int x5)]) (stk' := []) (fun _ _ _ => rfl) ?_
          obtain ⟨y16, hy16⟩ : ∃ w : Bool, w = (y4 && (decide ((zt (zput Z 68 x5 32) 68 x5) = 32))) := ⟨_, rfl⟩
          rw [← hy16]
          have H := oq_let H y16 hy16
          refine zw_run 2 (pc' := 31) (loc' := [some (.ref 89), some (.int p), some (.int x2), some (.int x3), some (.int (bI y16)), some (.int (x5 + 1))]) (stk' := []) (fun _ _ _ => rfl) ?_
          exact ih (zput Z 68 x5 32) x2 x3 y16 (x5 + 1) H
        refine zw_b0 (b := y4) (t1 := 70) (t2 := 91) (loc' := [some (.ref 89), some (.int p), some (.int x2), some (.int x3), some (.int (bI y4)), some (.int x5)]) (stk' := []) (fun _ _ _ => rfl) (fun c12 => ?_) (fun c12 => ?_)
        · skip
          refine zw_run 1 (pc' := 71) (loc' := [some (.ref 89), some (.int p), some (.int x2), some (.int x3), some (.int (bI y4)), some (.int x5)]) (stk' := [.ref 89]) (fun _ _ _ => rfl) ?_
          refine zw_get (v := .ref 65) rfl rfl rfl ?_
          refine zw_get (v := .ref 68) rfl rfl rfl ?_
          refine zw_run 1 (pc' := 79) (loc' := [some (.ref 89), some (.int p), some (.int x2), some (.int x3), some (.int (bI y4)), some (.int x5)]) (stk' := [.int x5, .ref 68]) (fun _ _ _ => rfl) ?_
          refine zw_callf (As := [.ref 68, .int x5]) (rest := []) (c_row_at (id := 68) (by decide) x5 (d := d + 2)) rfl rfl rfl rfl ?_
          show zw fm sx (d + 3) 58 82 [some (.ref 89), some (.int p), some (.int x2), some (.int x3), some (.int (bI y4)), some (.int x5)] [.int (zt (zput Z 68 x5 32) 68 x5)] (zput Z 68 x5 32) Q
          refine zw_run 1 (pc' := 84) (loc' := [some (.ref 89), some (.int p), some (.int x2), some (.int x3), some (.int (bI y4)), some (.int x5)]) (stk' := [.int 32, .int (zt (zput Z 68 x5 32) 68 x5)]) (fun _ _ _ => rfl) ?_
          refine zw_br (c := ¬ (zt (zput Z 68 x5 32) 68 x5) = 32) (t1 := 91) (t2 := 87) (loc' := [some (.ref 89), some (.int p), some (.int x2), some (.int x3), some (.int (bI y4)), some (.int x5)]) (stk' := []) (fun _ _ _ => rfl) (fun c13 => ?_) (fun c13 => ?_)
          · skip
            refine zw_run 1 (pc' := 92) (loc' := [some (.ref 89), some (.int p), some (.int x2), some (.int x3), some (.int (bI y4)), some (.int x5)]) (stk' := [.int 0]) (fun _ _ _ => rfl) ?_
            exact J15 _ (by clear H J15; first | (simp [bI, c12, c13]; done) | (simp [bI, *]; done) | (simp_all [bI]; done) | (exfalso; simp_all; done))
          · skip
            refine zw_run 2 (pc' := 92) (loc' := [some (.ref 89), some (.int p), some (.int x2), some (.int x3), some (.int (bI y4)), some (.int x5)]) (stk' := [.int 1]) (fun _ _ _ => rfl) ?_
            exact J15 _ (by clear H J15; first | (simp [bI, c12, c13]; done) | (simp [bI, *]; done) | (simp_all [bI]; done) | (exfalso; simp_all; done))
        · skip
          refine zw_run 1 (pc' := 92) (loc' := [some (.ref 89), some (.int p), some (.int x2), some (.int x3), some (.int (bI y4)), some (.int x5)]) (stk' := [.int 0]) (fun _ _ _ => rfl) ?_
          exact J15 _ (by clear H J15; first | (simp [bI, c12]; done) | (simp [bI, *]; done) | (simp_all [bI]; done) | (exfalso; simp_all; done))
/-- MarkInlines$Reader.markCoding -/
def o_58 (Z : zr_Z) (p : Int32) : Option (Int32 × zr_Z) := (olet (f_59 Z (f_93 Z p) ((f_93 Z p) - p) : Int32) fun x1 => (if ¬ x1 = (-1) then g_58_31 oF Z p (f_93 Z p) x1 true (f_93 Z p) else some (f_93 Z p, Z)))
set_option maxRecDepth 100000 in
set_option maxHeartbeats 4000000 in
theorem t_58 {fm : Value} {sx : Nat × (Nat → Int32)} {d : Nat} {Z : zr_Z} {Q : Option Value → zr_Z → Prop} (hu : fm = .null ∨ ∃ q, fm = .ref q) (p : Int32) (H : oq (o_58 Z p) (fun x => Q (some (.int x.1)) x.2)) : zw fm sx (d + 3) 58 0 [some (.ref 89), some (.int p), none, none, none, none] [] Z Q := by
  unfold o_58 at H
  refine zw_run 1 (pc' := 1) (loc' := [some (.ref 89), some (.int p), none, none, none, none]) (stk' := [.ref 89]) (fun _ _ _ => rfl) ?_
  refine zw_get (v := .ref 63) rfl rfl rfl ?_
  refine zw_run 1 (pc' := 5) (loc' := [some (.ref 89), some (.int p), none, none, none, none]) (stk' := [.int p, .ref 63]) (fun _ _ _ => rfl) ?_
  refine zw_callf (As := [.ref 63, .int p]) (rest := []) (c_93 p (d := d + 1)) rfl rfl rfl rfl ?_
  show zw fm sx (d + 3) 58 8 [some (.ref 89), some (.int p), none, none, none, none] [.int (f_93 Z p)] Z Q
  refine zw_run 6 (pc' := 14) (loc' := [some (.ref 89), some (.int p), some (.int (f_93 Z p)), none, none, none]) (stk' := [.int ((f_93 Z p) - p), .int (f_93 Z p), .ref 89]) (fun _ _ _ => rfl) ?_
  refine zw_callf (As := [.ref 89, .int (f_93 Z p), .int ((f_93 Z p) - p)]) (rest := []) (c_59 (f_93 Z p) ((f_93 Z p) - p) (d := d + 0)) rfl rfl rfl rfl ?_
  show zw fm sx (d + 3) 58 17 [some (.ref 89), some (.int p), some (.int (f_93 Z p)), none, none, none] [.int (f_59 Z (f_93 Z p) ((f_93 Z p) - p))] Z Q
  refine zw_run 1 (pc' := 18) (loc' := [some (.ref 89), some (.int p), some (.int (f_93 Z p)), some (.int (f_59 Z (f_93 Z p) ((f_93 Z p) - p))), none, none]) (stk' := []) (fun _ _ _ => rfl) ?_
  obtain ⟨x1, hx1⟩ : ∃ w : Int32, w = f_59 Z (f_93 Z p) ((f_93 Z p) - p) := ⟨_, rfl⟩
  rw [← hx1]
  have H := oq_let H x1 hx1
  refine zw_run 2 (pc' := 20) (loc' := [some (.ref 89), some (.int p), some (.int (f_93 Z p)), some (.int x1), none, none]) (stk' := [.int (-1), .int x1]) (fun _ _ _ => rfl) ?_
  refine zw_br (c := ¬ x1 = (-1)) (t1 := 25) (t2 := 23) (loc' := [some (.ref 89), some (.int p), some (.int (f_93 Z p)), some (.int x1), none, none]) (stk' := []) (fun _ _ _ => rfl) (fun c2 => ?_) (fun c2 => ?_)
  · rw [if_pos c2] at H
    refine zw_run 4 (pc' := 31) (loc' := [some (.ref 89), some (.int p), some (.int (f_93 Z p)), some (.int x1), some (.int 1), some (.int (f_93 Z p))]) (stk' := []) (fun _ _ _ => rfl) ?_
    exact l_58_31 hu p _ Z (f_93 Z p) x1 true (f_93 Z p) H
  · rw [if_neg c2] at H
    refine zw_run 1 (pc' := 24) (loc' := [some (.ref 89), some (.int p), some (.int (f_93 Z p)), some (.int x1), none, none]) (stk' := [.int (f_93 Z p)]) (fun _ _ _ => rfl) ?_
    refine zw_reti (i := .nop) rfl rfl ?_
    have H := oq_some H
    exact H
theorem c_58 {fm : Value} {sx : Nat × (Nat → Int32)} {d : Nat} {Z : zr_Z} (hu : fm = .null ∨ ∃ q, fm = .ref q) (p : Int32) {x : Int32 × zr_Z} (hx : o_58 Z p = some x) : zl fm sx (d + 4) 58 [.ref 89, .int p] Z (fun r Z' => r = some (.int x.1) ∧ Z' = x.2) :=
  zl_of (nL := 6) (loc0 := [some (.ref 89), some (.int p), none, none, none, none]) rfl rfl rfl (t_58 hu p ⟨x, hx, rfl, rfl⟩)
/-- MarkInlines$Runs.openerFor, its loop at 26 -/
def g_82_26 : Nat → zr_Z → Int32 → Int32 → Int32 → Option Int32
  | 0, _, _, _, _ => none
  | n + 1, Z, c, base, x3 => (if x3 < base then some (-1) else (if ¬ (zt Z 99 x3) = 1 then g_82_26 n Z c base (x3 + (-1)) else (if ¬ (zt Z 91 x3) = (zt Z 91 c) then g_82_26 n Z c base (x3 + (-1)) else (if (f_81 Z x3) ≤ 0 then g_82_26 n Z c base (x3 + (-1)) else (if (f_83 Z x3 c) = true then g_82_26 n Z c base (x3 + (-1)) else some x3)))))
set_option maxRecDepth 100000 in
set_option maxHeartbeats 4000000 in
theorem l_82_26 {fm : Value} {sx : Nat × (Nat → Int32)} {d : Nat} {Q : Option Value → zr_Z → Prop} (hu : fm = .null ∨ ∃ q, fm = .ref q) (c : Int32) (base : Int32) : ∀ (n : Nat) (Z : zr_Z) (x3 : Int32), oq (g_82_26 n Z c base x3) (fun x => Q (some (.int x)) Z) → zw fm sx (d + 2) 82 26 [some (.ref 90), some (.int c), some (.int base), some (.int x3)] [] Z Q := by
  intro n
  induction n with
  | zero => intro Z x3 H; exact absurd H oq_none
  | succ n ih =>
    intro Z x3 H
    unfold g_82_26 at H
    refine zw_run 2 (pc' := 28) (loc' := [some (.ref 90), some (.int c), some (.int base), some (.int x3)]) (stk' := [.int base, .int x3]) (fun _ _ _ => rfl) ?_
    refine zw_br (c := x3 < base) (t1 := 87) (t2 := 31) (loc' := [some (.ref 90), some (.int c), some (.int base), some (.int x3)]) (stk' := []) (fun _ _ _ => rfl) (fun c1 => ?_) (fun c1 => ?_)
    · rw [if_pos c1] at H
      refine zw_run 1 (pc' := 88) (loc' := [some (.ref 90), some (.int c), some (.int base), some (.int x3)]) (stk' := [.int (-1)]) (fun _ _ _ => rfl) ?_
      refine zw_reti (i := .nop) rfl rfl ?_
      have H := oq_some H
      exact H
    · rw [if_neg c1] at H
      refine zw_run 1 (pc' := 32) (loc' := [some (.ref 90), some (.int c), some (.int base), some (.int x3)]) (stk' := [.ref 90]) (fun _ _ _ => rfl) ?_
      refine zw_get (v := .ref 99) rfl rfl rfl ?_
      refine zw_run 1 (pc' := 36) (loc' := [some (.ref 90), some (.int c), some (.int base), some (.int x3)]) (stk' := [.int x3, .ref 99]) (fun _ _ _ => rfl) ?_
      refine zw_callf (As := [.ref 99, .int x3]) (rest := []) (c_row_at (id := 99) (by decide) x3 (d := d + 1)) rfl rfl rfl rfl ?_
      show zw fm sx (d + 2) 82 39 [some (.ref 90), some (.int c), some (.int base), some (.int x3)] [.int (zt Z 99 x3)] Z Q
      refine zw_run 1 (pc' := 40) (loc' := [some (.ref 90), some (.int c), some (.int base), some (.int x3)]) (stk' := [.int 1, .int (zt Z 99 x3)]) (fun _ _ _ => rfl) ?_
      refine zw_br (c := ¬ (zt Z 99 x3) = 1) (t1 := 81) (t2 := 43) (loc' := [some (.ref 90), some (.int c), some (.int base), some (.int x3)]) (stk' := []) (fun _ _ _ => rfl) (fun c2 => ?_) (fun c2 => ?_)
      · rw [if_pos c2] at H
        refine zw_run 2 (pc' := 26) (loc' := [some (.ref 90), some (.int c), some (.int base), some (.int (x3 + (-1)))]) (stk' := []) (fun _ _ _ => rfl) ?_
        exact ih Z (x3 + (-1)) H
      · rw [if_neg c2] at H
        refine zw_run 1 (pc' := 44) (loc' := [some (.ref 90), some (.int c), some (.int base), some (.int x3)]) (stk' := [.ref 90]) (fun _ _ _ => rfl) ?_
        refine zw_get (v := .ref 91) rfl rfl rfl ?_
        refine zw_run 1 (pc' := 48) (loc' := [some (.ref 90), some (.int c), some (.int base), some (.int x3)]) (stk' := [.int x3, .ref 91]) (fun _ _ _ => rfl) ?_
        refine zw_callf (As := [.ref 91, .int x3]) (rest := []) (c_row_at (id := 91) (by decide) x3 (d := d + 1)) rfl rfl rfl rfl ?_
        show zw fm sx (d + 2) 82 51 [some (.ref 90), some (.int c), some (.int base), some (.int x3)] [.int (zt Z 91 x3)] Z Q
        refine zw_run 1 (pc' := 52) (loc' := [some (.ref 90), some (.int c), some (.int base), some (.int x3)]) (stk' := [.ref 90, .int (zt Z 91 x3)]) (fun _ _ _ => rfl) ?_
        refine zw_get (v := .ref 91) rfl rfl rfl ?_
        refine zw_run 1 (pc' := 56) (loc' := [some (.ref 90), some (.int c), some (.int base), some (.int x3)]) (stk' := [.int c, .ref 91, .int (zt Z 91 x3)]) (fun _ _ _ => rfl) ?_
        refine zw_callf (As := [.ref 91, .int c]) (rest := [.int (zt Z 91 x3)]) (c_row_at (id := 91) (by decide) c (d := d + 1)) rfl rfl rfl rfl ?_
        show zw fm sx (d + 2) 82 59 [some (.ref 90), some (.int c), some (.int base), some (.int x3)] [.int (zt Z 91 c), .int (zt Z 91 x3)] Z Q
        refine zw_br (c := ¬ (zt Z 91 x3) = (zt Z 91 c)) (t1 := 81) (t2 := 62) (loc' := [some (.ref 90), some (.int c), some (.int base), some (.int x3)]) (stk' := []) (fun _ _ _ => rfl) (fun c3 => ?_) (fun c3 => ?_)
        · rw [if_pos c3] at H
          refine zw_run 2 (pc' := 26) (loc' := [some (.ref 90), some (.int c), some (.int base), some (.int (x3 + (-1)))]) (stk' := []) (fun _ _ _ => rfl) ?_
          exact ih Z (x3 + (-1)) H
        · rw [if_neg c3] at H
          refine zw_run 2 (pc' := 64) (loc' := [some (.ref 90), some (.int c), some (.int base), some (.int x3)]) (stk' := [.int x3, .ref 90]) (fun _ _ _ => rfl) ?_
          refine zw_callf (As := [.ref 90, .int x3]) (rest := []) (c_81 x3 (d := d + 0)) rfl rfl rfl rfl ?_
          show zw fm sx (d + 2) 82 67 [some (.ref 90), some (.int c), some (.int base), some (.int x3)] [.int (f_81 Z x3)] Z Q
          refine zw_br (c := (f_81 Z x3) ≤ 0) (t1 := 81) (t2 := 70) (loc' := [some (.ref 90), some (.int c), some (.int base), some (.int x3)]) (stk' := []) (fun _ _ _ => rfl) (fun c4 => ?_) (fun c4 => ?_)
          · rw [if_pos c4] at H
            refine zw_run 2 (pc' := 26) (loc' := [some (.ref 90), some (.int c), some (.int base), some (.int (x3 + (-1)))]) (stk' := []) (fun _ _ _ => rfl) ?_
            exact ih Z (x3 + (-1)) H
          · rw [if_neg c4] at H
            refine zw_run 3 (pc' := 73) (loc' := [some (.ref 90), some (.int c), some (.int base), some (.int x3)]) (stk' := [.int c, .int x3, .ref 90]) (fun _ _ _ => rfl) ?_
            refine zw_callf (As := [.ref 90, .int x3, .int c]) (rest := []) (c_83 x3 c (d := d + 0)) rfl rfl rfl rfl ?_
            show zw fm sx (d + 2) 82 76 [some (.ref 90), some (.int c), some (.int base), some (.int x3)] [.int (bI (f_83 Z x3 c))] Z Q
            refine zw_b1 (b := (f_83 Z x3 c)) (t1 := 81) (t2 := 79) (loc' := [some (.ref 90), some (.int c), some (.int base), some (.int x3)]) (stk' := []) (fun _ _ _ => rfl) (fun c5 => ?_) (fun c5 => ?_)
            · rw [if_pos c5] at H
              refine zw_run 2 (pc' := 26) (loc' := [some (.ref 90), some (.int c), some (.int base), some (.int (x3 + (-1)))]) (stk' := []) (fun _ _ _ => rfl) ?_
              exact ih Z (x3 + (-1)) H
            · rw [if_neg c5] at H
              refine zw_run 1 (pc' := 80) (loc' := [some (.ref 90), some (.int c), some (.int base), some (.int x3)]) (stk' := [.int x3]) (fun _ _ _ => rfl) ?_
              refine zw_reti (i := .nop) rfl rfl ?_
              have H := oq_some H
              exact H
/-- MarkInlines$Runs.openerFor -/
def o_82 (Z : zr_Z) (c : Int32) (base : Int32) : Option Int32 := (if ¬ (zt Z 101 c) = 1 then some (-1) else (if ¬ (f_81 Z c) = 0 then g_82_26 oF Z c base (c - 1) else some (-1)))
set_option maxRecDepth 100000 in
set_option maxHeartbeats 4000000 in
theorem t_82 {fm : Value} {sx : Nat × (Nat → Int32)} {d : Nat} {Z : zr_Z} {Q : Option Value → zr_Z → Prop} (hu : fm = .null ∨ ∃ q, fm = .ref q) (c : Int32) (base : Int32) (H : oq (o_82 Z c base) (fun x => Q (some (.int x)) Z)) : zw fm sx (d + 2) 82 0 [some (.ref 90), some (.int c), some (.int base), none] [] Z Q := by
  unfold o_82 at H
  refine zw_run 1 (pc' := 1) (loc' := [some (.ref 90), some (.int c), some (.int base), none]) (stk' := [.ref 90]) (fun _ _ _ => rfl) ?_
  refine zw_get (v := .ref 101) rfl rfl rfl ?_
  refine zw_run 1 (pc' := 5) (loc' := [some (.ref 90), some (.int c), some (.int base), none]) (stk' := [.int c, .ref 101]) (fun _ _ _ => rfl) ?_
  refine zw_callf (As := [.ref 101, .int c]) (rest := []) (c_row_at (id := 101) (by decide) c (d := d + 1)) rfl rfl rfl rfl ?_
  show zw fm sx (d + 2) 82 8 [some (.ref 90), some (.int c), some (.int base), none] [.int (zt Z 101 c)] Z Q
  refine zw_run 1 (pc' := 9) (loc' := [some (.ref 90), some (.int c), some (.int base), none]) (stk' := [.int 1, .int (zt Z 101 c)]) (fun _ _ _ => rfl) ?_
  refine zw_br (c := ¬ (zt Z 101 c) = 1) (t1 := 20) (t2 := 12) (loc' := [some (.ref 90), some (.int c), some (.int base), none]) (stk' := []) (fun _ _ _ => rfl) (fun c1 => ?_) (fun c1 => ?_)
  · rw [if_pos c1] at H
    refine zw_run 1 (pc' := 21) (loc' := [some (.ref 90), some (.int c), some (.int base), none]) (stk' := [.int (-1)]) (fun _ _ _ => rfl) ?_
    refine zw_reti (i := .nop) rfl rfl ?_
    have H := oq_some H
    exact H
  · rw [if_neg c1] at H
    refine zw_run 2 (pc' := 14) (loc' := [some (.ref 90), some (.int c), some (.int base), none]) (stk' := [.int c, .ref 90]) (fun _ _ _ => rfl) ?_
    refine zw_callf (As := [.ref 90, .int c]) (rest := []) (c_81 c (d := d + 0)) rfl rfl rfl rfl ?_
    show zw fm sx (d + 2) 82 17 [some (.ref 90), some (.int c), some (.int base), none] [.int (f_81 Z c)] Z Q
    refine zw_br (c := ¬ (f_81 Z c) = 0) (t1 := 22) (t2 := 20) (loc' := [some (.ref 90), some (.int c), some (.int base), none]) (stk' := []) (fun _ _ _ => rfl) (fun c2 => ?_) (fun c2 => ?_)
    · rw [if_pos c2] at H
      refine zw_run 4 (pc' := 26) (loc' := [some (.ref 90), some (.int c), some (.int base), some (.int (c - 1))]) (stk' := []) (fun _ _ _ => rfl) ?_
      exact l_82_26 hu c base _ Z (c - 1) H
    · rw [if_neg c2] at H
      refine zw_run 1 (pc' := 21) (loc' := [some (.ref 90), some (.int c), some (.int base), none]) (stk' := [.int (-1)]) (fun _ _ _ => rfl) ?_
      refine zw_reti (i := .nop) rfl rfl ?_
      have H := oq_some H
      exact H
theorem c_82 {fm : Value} {sx : Nat × (Nat → Int32)} {d : Nat} {Z : zr_Z} (hu : fm = .null ∨ ∃ q, fm = .ref q) (c : Int32) (base : Int32) {x : Int32} (hx : o_82 Z c base = some x) : zl fm sx (d + 3) 82 [.ref 90, .int c, .int base] Z (fun r Z' => r = some (.int x) ∧ Z' = Z) :=
  zl_of (nL := 4) (loc0 := [some (.ref 90), some (.int c), some (.int base), none]) rfl rfl rfl (t_82 hu c base ⟨x, hx, rfl, rfl⟩)
/-- MarkInlines$Runs.pairFrom, its loop at 27 -/
def g_80_27 : Nat → zr_Z → Int32 → Int32 → Int32 → Int32 → (zr_Z → Int32 → Option zr_Z) → Option zr_Z
  | 0, _, _, _, _, _, _ => none
  | n + 1, Z, base, x2, x3, x4, K2 => (if x4 ≤ 0 then K2 Z (x2 + 1) else (if x3 = (-1) then K2 Z (x2 + 1) else (Option.bind (o_82 (f_74 Z x3 x2) x2 base) fun u3 => g_80_27 n (f_74 Z x3 x2) base x2 u3 (x4 + (-1)) K2)))
set_option maxRecDepth 100000 in
set_option maxHeartbeats 4000000 in
theorem l_80_27 {fm : Value} {sx : Nat × (Nat → Int32)} {d : Nat} {Q : Option Value → zr_Z → Prop} (hu : fm = .null ∨ ∃ q, fm = .ref q) (base : Int32) (K2 : zr_Z → Int32 → Option zr_Z) (HK2 : ∀ (Z : zr_Z) (x2 : Int32), oq (K2 Z x2) (fun x => Q none x) → zw fm sx (d + 3) 80 2 [some (.ref 90), some (.int base), some (.int x2), none, none] [] Z Q) : ∀ (n : Nat) (Z : zr_Z) (x2 : Int32) (x3 : Int32) (x4 : Int32), oq (g_80_27 n Z base x2 x3 x4 K2) (fun x => Q none x) → zw fm sx (d + 3) 80 27 [some (.ref 90), some (.int base), some (.int x2), some (.int x3), some (.int x4)] [] Z Q := by
  intro n
  induction n with
  | zero => intro Z x2 x3 x4 H; exact absurd H oq_none
  | succ n ih =>
    intro Z x2 x3 x4 H
    unfold g_80_27 at H
    refine zw_run 1 (pc' := 29) (loc' := [some (.ref 90), some (.int base), some (.int x2), some (.int x3), some (.int x4)]) (stk' := [.int x4]) (fun _ _ _ => rfl) ?_
    refine zw_br (c := x4 ≤ 0) (t1 := 56) (t2 := 32) (loc' := [some (.ref 90), some (.int base), some (.int x2), some (.int x3), some (.int x4)]) (stk' := []) (fun _ _ _ => rfl) (fun c1 => ?_) (fun c1 => ?_)
    · rw [if_pos c1] at H
      refine zw_run 2 (pc' := 2) (loc' := [some (.ref 90), some (.int base), some (.int (x2 + 1)), some (.int x3), some (.int x4)]) (stk' := []) (fun _ _ _ => rfl) ?_
      refine zw_fgt [true, true, true, false, false] rfl ?_
      exact HK2 Z (x2 + 1) H
    · rw [if_neg c1] at H
      refine zw_run 2 (pc' := 34) (loc' := [some (.ref 90), some (.int base), some (.int x2), some (.int x3), some (.int x4)]) (stk' := [.int (-1), .int x3]) (fun _ _ _ => rfl) ?_
      refine zw_br (c := x3 = (-1)) (t1 := 56) (t2 := 37) (loc' := [some (.ref 90), some (.int base), some (.int x2), some (.int x3), some (.int x4)]) (stk' := []) (fun _ _ _ => rfl) (fun c2 => ?_) (fun c2 => ?_)
      · rw [if_pos c2] at H
        refine zw_run 2 (pc' := 2) (loc' := [some (.ref 90), some (.int base), some (.int (x2 + 1)), some (.int x3), some (.int x4)]) (stk' := []) (fun _ _ _ => rfl) ?_
        refine zw_fgt [true, true, true, false, false] rfl ?_
        exact HK2 Z (x2 + 1) H
      · rw [if_neg c2] at H
        refine zw_run 3 (pc' := 40) (loc' := [some (.ref 90), some (.int base), some (.int x2), some (.int x3), some (.int x4)]) (stk' := [.int x2, .int x3, .ref 90]) (fun _ _ _ => rfl) ?_
        refine zw_callf (As := [.ref 90, .int x3, .int x2]) (rest := []) (c_74 x3 x2 (d := d + 0)) rfl rfl rfl rfl ?_
        show zw fm sx (d + 3) 80 43 [some (.ref 90), some (.int base), some (.int x2), some (.int x3), some (.int x4)] [] (f_74 Z x3 x2) Q
        refine zw_run 3 (pc' := 46) (loc' := [some (.ref 90), some (.int base), some (.int x2), some (.int x3), some (.int x4)]) (stk' := [.int base, .int x2, .ref 90]) (fun _ _ _ => rfl) ?_
        obtain ⟨u3, hu3, H⟩ := oq_bind H
        refine zw_callf (As := [.ref 90, .int x2, .int base]) (rest := []) (c_82 hu x2 base hu3 (d := d + 0)) rfl rfl rfl rfl ?_
        show zw fm sx (d + 3) 80 49 [some (.ref 90), some (.int base), some (.int x2), some (.int x3), some (.int x4)] [.int u3] (f_74 Z x3 x2) Q
        refine zw_run 3 (pc' := 27) (loc' := [some (.ref 90), some (.int base), some (.int x2), some (.int u3), some (.int (x4 + (-1)))]) (stk' := []) (fun _ _ _ => rfl) ?_
        exact ih (f_74 Z x3 x2) x2 u3 (x4 + (-1)) H
/-- MarkInlines$Runs.pairFrom, its loop at 2 -/
def g_80_2 : Nat → zr_Z → Int32 → Int32 → Option zr_Z
  | 0, _, _, _ => none
  | n + 1, Z, base, x2 => (if (zs Z 91) ≤ x2 then some (f_77 Z base) else (Option.bind (o_82 Z x2 base) fun u2 => g_80_27 oF Z base x2 u2 (f_81 Z x2) (fun Z x2 => g_80_2 n Z base x2)))
set_option maxRecDepth 100000 in
set_option maxHeartbeats 4000000 in
theorem l_80_2 {fm : Value} {sx : Nat × (Nat → Int32)} {d : Nat} {Q : Option Value → zr_Z → Prop} (hu : fm = .null ∨ ∃ q, fm = .ref q) (base : Int32) : ∀ (n : Nat) (Z : zr_Z) (x2 : Int32), oq (g_80_2 n Z base x2) (fun x => Q none x) → zw fm sx (d + 3) 80 2 [some (.ref 90), some (.int base), some (.int x2), none, none] [] Z Q := by
  intro n
  induction n with
  | zero => intro Z x2 H; exact absurd H oq_none
  | succ n ih =>
    intro Z x2 H
    unfold g_80_2 at H
    refine zw_run 2 (pc' := 4) (loc' := [some (.ref 90), some (.int base), some (.int x2), none, none]) (stk' := [.ref 90, .int x2]) (fun _ _ _ => rfl) ?_
    refine zw_get (v := .ref 91) rfl rfl rfl ?_
    refine zw_callf (As := [.ref 91]) (rest := [.int x2]) (c_row_size (id := 91) (by decide) (d := d + 2)) rfl rfl rfl rfl ?_
    show zw fm sx (d + 3) 80 10 [some (.ref 90), some (.int base), some (.int x2), none, none] [.int (zs Z 91), .int x2] Z Q
    refine zw_br (c := (zs Z 91) ≤ x2) (t1 := 62) (t2 := 13) (loc' := [some (.ref 90), some (.int base), some (.int x2), none, none]) (stk' := []) (fun _ _ _ => rfl) (fun c1 => ?_) (fun c1 => ?_)
    · rw [if_pos c1] at H
      refine zw_run 2 (pc' := 64) (loc' := [some (.ref 90), some (.int base), some (.int x2), none, none]) (stk' := [.int base, .ref 90]) (fun _ _ _ => rfl) ?_
      refine zw_callf (As := [.ref 90, .int base]) (rest := []) (c_77 base (d := d + 1)) rfl rfl rfl rfl ?_
      show zw fm sx (d + 3) 80 67 [some (.ref 90), some (.int base), some (.int x2), none, none] [] (f_77 Z base) Q
      refine zw_retv rfl rfl ?_
      have H := oq_some H
      exact H
    · rw [if_neg c1] at H
      refine zw_run 3 (pc' := 16) (loc' := [some (.ref 90), some (.int base), some (.int x2), none, none]) (stk' := [.int base, .int x2, .ref 90]) (fun _ _ _ => rfl) ?_
      obtain ⟨u2, hu2, H⟩ := oq_bind H
      refine zw_callf (As := [.ref 90, .int x2, .int base]) (rest := []) (c_82 hu x2 base hu2 (d := d + 0)) rfl rfl rfl rfl ?_
      show zw fm sx (d + 3) 80 19 [some (.ref 90), some (.int base), some (.int x2), none, none] [.int u2] Z Q
      refine zw_run 3 (pc' := 22) (loc' := [some (.ref 90), some (.int base), some (.int x2), some (.int u2), none]) (stk' := [.int x2, .ref 90]) (fun _ _ _ => rfl) ?_
      refine zw_callf (As := [.ref 90, .int x2]) (rest := []) (c_81 x2 (d := d + 1)) rfl rfl rfl rfl ?_
      show zw fm sx (d + 3) 80 25 [some (.ref 90), some (.int base), some (.int x2), some (.int u2), none] [.int (f_81 Z x2)] Z Q
      refine zw_run 1 (pc' := 27) (loc' := [some (.ref 90), some (.int base), some (.int x2), some (.int u2), some (.int (f_81 Z x2))]) (stk' := []) (fun _ _ _ => rfl) ?_
      exact l_80_27 hu base _ (fun Z x2 q => ih Z x2 q) _ Z x2 u2 (f_81 Z x2) H
/-- MarkInlines$Runs.pairFrom -/
def o_80 (Z : zr_Z) (base : Int32) : Option zr_Z := g_80_2 oF Z base base
set_option maxRecDepth 100000 in
set_option maxHeartbeats 4000000 in
theorem t_80 {fm : Value} {sx : Nat × (Nat → Int32)} {d : Nat} {Z : zr_Z} {Q : Option Value → zr_Z → Prop} (hu : fm = .null ∨ ∃ q, fm = .ref q) (base : Int32) (H : oq (o_80 Z base) (fun x => Q none x)) : zw fm sx (d + 3) 80 0 [some (.ref 90), some (.int base), none, none, none] [] Z Q := by
  unfold o_80 at H
  refine zw_run 2 (pc' := 2) (loc' := [some (.ref 90), some (.int base), some (.int base), none, none]) (stk' := []) (fun _ _ _ => rfl) ?_
  exact l_80_2 hu base _ Z base H
theorem c_80 {fm : Value} {sx : Nat × (Nat → Int32)} {d : Nat} {Z : zr_Z} (hu : fm = .null ∨ ∃ q, fm = .ref q) (base : Int32) {x : zr_Z} (hx : o_80 Z base = some x) : zl fm sx (d + 4) 80 [.ref 90, .int base] Z (fun r Z' => r = none ∧ Z' = x) :=
  zl_of (nL := 5) (loc0 := [some (.ref 90), some (.int base), none, none, none]) rfl rfl rfl (t_80 hu base ⟨x, hx, rfl, rfl⟩)
/-- MarkInlines$Links.close -/
def o_29 (Z : zr_Z) (p : Int32) : Option (Int32 × zr_Z) := (if 0 ≤ ((zs Z 104) - 1) then (if ¬ (zt Z 108 ((zs Z 104) - 1)) = 0 then some (p + 1, f_26 Z ((zs Z 104) - 1)) else (if ((f_32 Z (p + 1)).1) = (-1) then (olet ((f_31 ((f_32 Z (p + 1)).2) ((zs Z 104) - 1) p).1 : Int32) fun x4 => (if ¬ x4 = (-1) then (olet (((decide ((zt ((f_31 ((f_32 Z (p + 1)).2) ((zs Z 104) - 1) p).2) 106 ((zs Z 104) - 1)) = 1))) : Bool) fun y9 => (olet (f_35 ((f_31 ((f_32 Z (p + 1)).2) ((zs Z 104) - 1) p).2) (zt ((f_31 ((f_32 Z (p + 1)).2) ((zs Z 104) - 1) p).2) 104 ((zs Z 104) - 1)) (f_30 ((f_31 ((f_32 Z (p + 1)).2) ((zs Z 104) - 1) p).2) ((zs Z 104) - 1)) : zr_Z) fun Z10 => (olet (f_36 Z10 (if y9 = true then 7 else 6 : Int32) (zt Z10 104 ((zs Z 104) - 1)) p : zr_Z) fun Z14 => (Option.bind (o_80 (f_35 Z14 (p + 1) x4) (zt (f_35 Z14 (p + 1) x4) 110 ((zs Z 104) - 1))) fun u15 => (if y9 = true then some (x4, f_26 u15 ((zs Z 104) - 1)) else some (x4, f_28 (f_26 u15 ((zs Z 104) - 1)))))))) else (olet (f_26 ((f_31 ((f_32 Z (p + 1)).2) ((zs Z 104) - 1) p).2) ((zs Z 104) - 1) : zr_Z) fun Z17 => some (p + 1, Z17)))) else (if ¬ ((f_32 Z (p + 1)).1) = (-1) then (olet (((decide ((zt ((f_32 Z (p + 1)).2) 106 ((zs Z 104) - 1)) = 1))) : Bool) fun y22 => (olet (f_35 ((f_32 Z (p + 1)).2) (zt ((f_32 Z (p + 1)).2) 104 ((zs Z 104) - 1)) (f_30 ((f_32 Z (p + 1)).2) ((zs Z 104) - 1)) : zr_Z) fun Z23 => (olet (f_36 Z23 (if y22 = true then 7 else 6 : Int32) (zt Z23 104 ((zs Z 104) - 1)) p : zr_Z) fun Z27 => (Option.bind (o_80 (f_35 Z27 (p + 1) ((f_32 Z (p + 1)).1)) (zt (f_35 Z27 (p + 1) ((f_32 Z (p + 1)).1)) 110 ((zs Z 104) - 1))) fun u28 => (if y22 = true then some ((f_32 Z (p + 1)).1, f_26 u28 ((zs Z 104) - 1)) else some ((f_32 Z (p + 1)).1, f_28 (f_26 u28 ((zs Z 104) - 1)))))))) else some (p + 1, f_26 ((f_32 Z (p + 1)).2) ((zs Z 104) - 1))))) else some (p + 1, Z))
set_option maxRecDepth 100000 in
set_option maxHeartbeats 4000000 in
theorem t_29 {fm : Value} {sx : Nat × (Nat → Int32)} {d : Nat} {Z : zr_Z} {Q : Option Value → zr_Z → Prop} (hu : fm = .null ∨ ∃ q, fm = .ref q) (p : Int32) (H : oq (o_29 Z p) (fun x => Q (some (.int x.1)) x.2)) : zw fm sx (d + 5) 29 0 [some (.ref 103), some (.int p), none, none, none] [] Z Q := by
  unfold o_29 at H
  refine zw_run 1 (pc' := 1) (loc' := [some (.ref 103), some (.int p), none, none, none]) (stk' := [.ref 103]) (fun _ _ _ => rfl) ?_
  refine zw_get (v := .ref 104) rfl rfl rfl ?_
  refine zw_callf (As := [.ref 104]) (rest := []) (c_row_size (id := 104) (by decide) (d := d + 4)) rfl rfl rfl rfl ?_
  show zw fm sx (d + 5) 29 7 [some (.ref 103), some (.int p), none, none, none] [.int (zs Z 104)] Z Q
  refine zw_run 4 (pc' := 11) (loc' := [some (.ref 103), some (.int p), some (.int ((zs Z 104) - 1)), none, none]) (stk' := [.int ((zs Z 104) - 1)]) (fun _ _ _ => rfl) ?_
  refine zw_br (c := 0 ≤ ((zs Z 104) - 1)) (t1 := 18) (t2 := 14) (loc' := [some (.ref 103), some (.int p), some (.int ((zs Z 104) - 1)), none, none]) (stk' := []) (fun _ _ _ => rfl) (fun c1 => ?_) (fun c1 => ?_)
  · rw [if_pos c1] at H
    refine zw_run 3 (pc' := 21) (loc' := [some (.ref 103), some (.int p), some (.int ((zs Z 104) - 1)), some (.int (-1)), none]) (stk' := [.ref 103]) (fun _ _ _ => rfl) ?_
    refine zw_get (v := .ref 108) rfl rfl rfl ?_
    refine zw_run 1 (pc' := 25) (loc' := [some (.ref 103), some (.int p), some (.int ((zs Z 104) - 1)), some (.int (-1)), none]) (stk' := [.int ((zs Z 104) - 1), .ref 108]) (fun _ _ _ => rfl) ?_
    refine zw_callf (As := [.ref 108, .int ((zs Z 104) - 1)]) (rest := []) (c_row_at (id := 108) (by decide) ((zs Z 104) - 1) (d := d + 4)) rfl rfl rfl rfl ?_
    show zw fm sx (d + 5) 29 28 [some (.ref 103), some (.int p), some (.int ((zs Z 104) - 1)), some (.int (-1)), none] [.int (zt Z 108 ((zs Z 104) - 1))] Z Q
    refine zw_br (c := ¬ (zt Z 108 ((zs Z 104) - 1)) = 0) (t1 := 55) (t2 := 31) (loc' := [some (.ref 103), some (.int p), some (.int ((zs Z 104) - 1)), some (.int (-1)), none]) (stk' := []) (fun _ _ _ => rfl) (fun c2 => ?_) (fun c2 => ?_)
    · rw [if_pos c2] at H
      refine zw_run 2 (pc' := 57) (loc' := [some (.ref 103), some (.int p), some (.int ((zs Z 104) - 1)), some (.int (-1)), none]) (stk' := [.int (-1), .int (-1)]) (fun _ _ _ => rfl) ?_
      refine zw_run 3 (pc' := 62) (loc' := [some (.ref 103), some (.int p), some (.int ((zs Z 104) - 1)), some (.int (-1)), none]) (stk' := [.int ((zs Z 104) - 1), .ref 103]) (fun _ _ _ => rfl) ?_
      refine zw_callf (As := [.ref 103, .int ((zs Z 104) - 1)]) (rest := []) (c_26 ((zs Z 104) - 1) (d := d + 3)) rfl rfl rfl rfl ?_
      show zw fm sx (d + 5) 29 65 [some (.ref 103), some (.int p), some (.int ((zs Z 104) - 1)), some (.int (-1)), none] [] (f_26 Z ((zs Z 104) - 1)) Q
      refine zw_run 3 (pc' := 68) (loc' := [some (.ref 103), some (.int p), some (.int ((zs Z 104) - 1)), some (.int (-1)), none]) (stk' := [.int (p + 1)]) (fun _ _ _ => rfl) ?_
      refine zw_reti (i := .nop) rfl rfl ?_
      have H := oq_some H
      exact H
    · rw [if_neg c2] at H
      refine zw_run 4 (pc' := 35) (loc' := [some (.ref 103), some (.int p), some (.int ((zs Z 104) - 1)), some (.int (-1)), none]) (stk' := [.int (p + 1), .ref 103]) (fun _ _ _ => rfl) ?_
      refine zw_callf (As := [.ref 103, .int (p + 1)]) (rest := []) (c_32 (p + 1) (d := d + 1)) rfl rfl rfl rfl ?_
      show zw fm sx (d + 5) 29 38 [some (.ref 103), some (.int p), some (.int ((zs Z 104) - 1)), some (.int (-1)), none] [.int ((f_32 Z (p + 1)).1)] ((f_32 Z (p + 1)).2) Q
      refine zw_run 3 (pc' := 41) (loc' := [some (.ref 103), some (.int p), some (.int ((zs Z 104) - 1)), some (.int ((f_32 Z (p + 1)).1)), none]) (stk' := [.int (-1), .int ((f_32 Z (p + 1)).1)]) (fun _ _ _ => rfl) ?_
      refine zw_br (c := ((f_32 Z (p + 1)).1) = (-1)) (t1 := 48) (t2 := 44) (loc' := [some (.ref 103), some (.int p), some (.int ((zs Z 104) - 1)), some (.int ((f_32 Z (p + 1)).1)), none]) (stk' := []) (fun _ _ _ => rfl) (fun c3 => ?_) (fun c3 => ?_)
      · rw [if_pos c3] at H
        refine zw_run 3 (pc' := 51) (loc' := [some (.ref 103), some (.int p), some (.int ((zs Z 104) - 1)), some (.int ((f_32 Z (p + 1)).1)), none]) (stk' := [.int p, .int ((zs Z 104) - 1), .ref 103]) (fun _ _ _ => rfl) ?_
        refine zw_callf (As := [.ref 103, .int ((zs Z 104) - 1), .int p]) (rest := []) (c_31 ((zs Z 104) - 1) p (d := d + 0)) rfl rfl rfl rfl ?_
        show zw fm sx (d + 5) 29 54 [some (.ref 103), some (.int p), some (.int ((zs Z 104) - 1)), some (.int ((f_32 Z (p + 1)).1)), none] [.int ((f_31 ((f_32 Z (p + 1)).2) ((zs Z 104) - 1) p).1)] ((f_31 ((f_32 Z (p + 1)).2) ((zs Z 104) - 1) p).2) Q
        refine zw_run 1 (pc' := 55) (loc' := [some (.ref 103), some (.int p), some (.int ((zs Z 104) - 1)), some (.int ((f_31 ((f_32 Z (p + 1)).2) ((zs Z 104) - 1) p).1)), none]) (stk' := []) (fun _ _ _ => rfl) ?_
        obtain ⟨x4, hx4⟩ : ∃ w : Int32, w = (f_31 ((f_32 Z (p + 1)).2) ((zs Z 104) - 1) p).1 := ⟨_, rfl⟩
        rw [← hx4]
        have H := oq_let H x4 hx4
        refine zw_run 2 (pc' := 57) (loc' := [some (.ref 103), some (.int p), some (.int ((zs Z 104) - 1)), some (.int x4), none]) (stk' := [.int (-1), .int x4]) (fun _ _ _ => rfl) ?_
        refine zw_br (c := ¬ x4 = (-1)) (t1 := 69) (t2 := 60) (loc' := [some (.ref 103), some (.int p), some (.int ((zs Z 104) - 1)), some (.int x4), none]) (stk' := []) (fun _ _ _ => rfl) (fun c5 => ?_) (fun c5 => ?_)
        · rw [if_pos c5] at H
          refine zw_run 1 (pc' := 70) (loc' := [some (.ref 103), some (.int p), some (.int ((zs Z 104) - 1)), some (.int x4), none]) (stk' := [.ref 103]) (fun _ _ _ => rfl) ?_
          refine zw_get (v := .ref 106) rfl rfl rfl ?_
          refine zw_run 1 (pc' := 74) (loc' := [some (.ref 103), some (.int p), some (.int ((zs Z 104) - 1)), some (.int x4), none]) (stk' := [.int ((zs Z 104) - 1), .ref 106]) (fun _ _ _ => rfl) ?_
          refine zw_callf (As := [.ref 106, .int ((zs Z 104) - 1)]) (rest := []) (c_row_at (id := 106) (by decide) ((zs Z 104) - 1) (d := d + 4)) rfl rfl rfl rfl ?_
          show zw fm sx (d + 5) 29 77 [some (.ref 103), some (.int p), some (.int ((zs Z 104) - 1)), some (.int x4), none] [.int (zt ((f_31 ((f_32 Z (p + 1)).2) ((zs Z 104) - 1) p).2) 106 ((zs Z 104) - 1))] ((f_31 ((f_32 Z (p + 1)).2) ((zs Z 104) - 1) p).2) Q
          refine zw_run 1 (pc' := 78) (loc' := [some (.ref 103), some (.int p), some (.int ((zs Z 104) - 1)), some (.int x4), none]) (stk' := [.int 1, .int (zt ((f_31 ((f_32 Z (p + 1)).2) ((zs Z 104) - 1) p).2) 106 ((zs Z 104) - 1))]) (fun _ _ _ => rfl) ?_
          have J8 : ∀ (v7 : Int32), v7 = (bI ((decide ((zt ((f_31 ((f_32 Z (p + 1)).2) ((zs Z 104) - 1) p).2) 106 ((zs Z 104) - 1)) = 1)))) → zw fm sx (d + 5) 29 86 [some (.ref 103), some (.int p), some (.int ((zs Z 104) - 1)), some (.int x4), none] [.int v7] ((f_31 ((f_32 Z (p + 1)).2) ((zs Z 104) - 1) p).2) Q := by
            intro v7 ev7
            subst ev7
            refine zw_run 1 (pc' := 88) (loc' := [some (.ref 103), some (.int p), some (.int ((zs Z 104) - 1)), some (.int x4), some (.int (bI ((decide ((zt ((f_31 ((f_32 Z (p + 1)).2) ((zs Z 104) - 1) p).2) 106 ((zs Z 104) - 1)) = 1)))))]) (stk' := []) (fun _ _ _ => rfl) ?_
            obtain ⟨y9, hy9⟩ : ∃ w : Bool, w = ((decide ((zt ((f_31 ((f_32 Z (p + 1)).2) ((zs Z 104) - 1) p).2) 106 ((zs Z 104) - 1)) = 1))) := ⟨_, rfl⟩
            rw [← hy9]
            have H := oq_let H y9 hy9
            refine zw_run 1 (pc' := 89) (loc' := [some (.ref 103), some (.int p), some (.int ((zs Z 104) - 1)), some (.int x4), some (.int (bI y9))]) (stk' := [.ref 103]) (fun _ _ _ => rfl) ?_
            refine zw_get (v := .ref 65) rfl rfl rfl ?_
            refine zw_run 1 (pc' := 93) (loc' := [some (.ref 103), some (.int p), some (.int ((zs Z 104) - 1)), some (.int x4), some (.int (bI y9))]) (stk' := [.ref 103, .ref 65]) (fun _ _ _ => rfl) ?_
            refine zw_get (v := .ref 104) rfl rfl rfl ?_
            refine zw_run 1 (pc' := 97) (loc' := [some (.ref 103), some (.int p), some (.int ((zs Z 104) - 1)), some (.int x4), some (.int (bI y9))]) (stk' := [.int ((zs Z 104) - 1), .ref 104, .ref 65]) (fun _ _ _ => rfl) ?_
            refine zw_callf (As := [.ref 104, .int ((zs Z 104) - 1)]) (rest := [.ref 65]) (c_row_at (id := 104) (by decide) ((zs Z 104) - 1) (d := d + 4)) rfl rfl rfl rfl ?_
            show zw fm sx (d + 5) 29 100 [some (.ref 103), some (.int p), some (.int ((zs Z 104) - 1)), some (.int x4), some (.int (bI y9))] [.int (zt ((f_31 ((f_32 Z (p + 1)).2) ((zs Z 104) - 1) p).2) 104 ((zs Z 104) - 1)), .ref 65] ((f_31 ((f_32 Z (p + 1)).2) ((zs Z 104) - 1) p).2) Q
            refine zw_run 2 (pc' := 102) (loc' := [some (.ref 103), some (.int p), some (.int ((zs Z 104) - 1)), some (.int x4), some (.int (bI y9))]) (stk' := [.int ((zs Z 104) - 1), .ref 103, .int (zt ((f_31 ((f_32 Z (p + 1)).2) ((zs Z 104) - 1) p).2) 104 ((zs Z 104) - 1)), .ref 65]) (fun _ _ _ => rfl) ?_
            refine zw_callf (As := [.ref 103, .int ((zs Z 104) - 1)]) (rest := [.int (zt ((f_31 ((f_32 Z (p + 1)).2) ((zs Z 104) - 1) p).2) 104 ((zs Z 104) - 1)), .ref 65]) (c_30 ((zs Z 104) - 1) (d := d + 3)) rfl rfl rfl rfl ?_
            show zw fm sx (d + 5) 29 105 [some (.ref 103), some (.int p), some (.int ((zs Z 104) - 1)), some (.int x4), some (.int (bI y9))] [.int (f_30 ((f_31 ((f_32 Z (p + 1)).2) ((zs Z 104) - 1) p).2) ((zs Z 104) - 1)), .int (zt ((f_31 ((f_32 Z (p + 1)).2) ((zs Z 104) - 1) p).2) 104 ((zs Z 104) - 1)), .ref 65] ((f_31 ((f_32 Z (p + 1)).2) ((zs Z 104) - 1) p).2) Q
            refine zw_callf (As := [.ref 65, .int (zt ((f_31 ((f_32 Z (p + 1)).2) ((zs Z 104) - 1) p).2) 104 ((zs Z 104) - 1)), .int (f_30 ((f_31 ((f_32 Z (p + 1)).2) ((zs Z 104) - 1) p).2) ((zs Z 104) - 1))]) (rest := []) (c_35 (zt ((f_31 ((f_32 Z (p + 1)).2) ((zs Z 104) - 1) p).2) 104 ((zs Z 104) - 1)) (f_30 ((f_31 ((f_32 Z (p + 1)).2) ((zs Z 104) - 1) p).2) ((zs Z 104) - 1)) (d := d + 3)) rfl rfl rfl rfl ?_
            show zw fm sx (d + 5) 29 108 [some (.ref 103), some (.int p), some (.int ((zs Z 104) - 1)), some (.int x4), some (.int (bI y9))] [] (f_35 ((f_31 ((f_32 Z (p + 1)).2) ((zs Z 104) - 1) p).2) (zt ((f_31 ((f_32 Z (p + 1)).2) ((zs Z 104) - 1) p).2) 104 ((zs Z 104) - 1)) (f_30 ((f_31 ((f_32 Z (p + 1)).2) ((zs Z 104) - 1) p).2) ((zs Z 104) - 1))) Q
            obtain ⟨Z10, hZ10⟩ : ∃ w : zr_Z, w = f_35 ((f_31 ((f_32 Z (p + 1)).2) ((zs Z 104) - 1) p).2) (zt ((f_31 ((f_32 Z (p + 1)).2) ((zs Z 104) - 1) p).2) 104 ((zs Z 104) - 1)) (f_30 ((f_31 ((f_32 Z (p + 1)).2) ((zs Z 104) - 1) p).2) ((zs Z 104) - 1)) := ⟨_, rfl⟩
            rw [← hZ10]
            have H := oq_let H Z10 hZ10
            refine zw_run 1 (pc' := 109) (loc' := [some (.ref 103), some (.int p), some (.int ((zs Z 104) - 1)), some (.int x4), some (.int (bI y9))]) (stk' := [.ref 103]) (fun _ _ _ => rfl) ?_
            refine zw_get (v := .ref 65) rfl rfl rfl ?_
            refine zw_run 1 (pc' := 114) (loc' := [some (.ref 103), some (.int p), some (.int ((zs Z 104) - 1)), some (.int x4), some (.int (bI y9))]) (stk' := [.int (bI y9), .ref 65]) (fun _ _ _ => rfl) ?_
            have J13 : ∀ (v12 : Int32), v12 = (if y9 = true then 7 else 6 : Int32) → zw fm sx (d + 5) 29 124 [some (.ref 103), some (.int p), some (.int ((zs Z 104) - 1)), some (.int x4), some (.int (bI y9))] [.int v12, .ref 65] Z10 Q := by
              intro v12 ev12
              subst ev12
              refine zw_run 1 (pc' := 125) (loc' := [some (.ref 103), some (.int p), some (.int ((zs Z 104) - 1)), some (.int x4), some (.int (bI y9))]) (stk' := [.ref 103, .int (if y9 = true then 7 else 6 : Int32), .ref 65]) (fun _ _ _ => rfl) ?_
              refine zw_get (v := .ref 104) rfl rfl rfl ?_
              refine zw_run 1 (pc' := 129) (loc' := [some (.ref 103), some (.int p), some (.int ((zs Z 104) - 1)), some (.int x4), some (.int (bI y9))]) (stk' := [.int ((zs Z 104) - 1), .ref 104, .int (if y9 = true then 7 else 6 : Int32), .ref 65]) (fun _ _ _ => rfl) ?_
              refine zw_callf (As := [.ref 104, .int ((zs Z 104) - 1)]) (rest := [.int (if y9 = true then 7 else 6 : Int32), .ref 65]) (c_row_at (id := 104) (by decide) ((zs Z 104) - 1) (d := d + 4)) rfl rfl rfl rfl ?_
              show zw fm sx (d + 5) 29 132 [some (.ref 103), some (.int p), some (.int ((zs Z 104) - 1)), some (.int x4), some (.int (bI y9))] [.int (zt Z10 104 ((zs Z 104) - 1)), .int (if y9 = true then 7 else 6 : Int32), .ref 65] Z10 Q
              refine zw_run 1 (pc' := 133) (loc' := [some (.ref 103), some (.int p), some (.int ((zs Z 104) - 1)), some (.int x4), some (.int (bI y9))]) (stk' := [.int p, .int (zt Z10 104 ((zs Z 104) - 1)), .int (if y9 = true then 7 else 6 : Int32), .ref 65]) (fun _ _ _ => rfl) ?_
              refine zw_callf (As := [.ref 65, .int (if y9 = true then 7 else 6 : Int32), .int (zt Z10 104 ((zs Z 104) - 1)), .int p]) (rest := []) (c_36 (if y9 = true then 7 else 6 : Int32) (zt Z10 104 ((zs Z 104) - 1)) p (d := d + 3)) rfl rfl rfl rfl ?_
              show zw fm sx (d + 5) 29 136 [some (.ref 103), some (.int p), some (.int ((zs Z 104) - 1)), some (.int x4), some (.int (bI y9))] [] (f_36 Z10 (if y9 = true then 7 else 6 : Int32) (zt Z10 104 ((zs Z 104) - 1)) p) Q
              obtain ⟨Z14, hZ14⟩ : ∃ w : zr_Z, w = f_36 Z10 (if y9 = true then 7 else 6 : Int32) (zt Z10 104 ((zs Z 104) - 1)) p := ⟨_, rfl⟩
              rw [← hZ14]
              have H := oq_let H Z14 hZ14
              refine zw_run 1 (pc' := 137) (loc' := [some (.ref 103), some (.int p), some (.int ((zs Z 104) - 1)), some (.int x4), some (.int (bI y9))]) (stk' := [.ref 103]) (fun _ _ _ => rfl) ?_
              refine zw_get (v := .ref 65) rfl rfl rfl ?_
              refine zw_run 4 (pc' := 144) (loc' := [some (.ref 103), some (.int p), some (.int ((zs Z 104) - 1)), some (.int x4), some (.int (bI y9))]) (stk' := [.int x4, .int (p + 1), .ref 65]) (fun _ _ _ => rfl) ?_
              refine zw_callf (As := [.ref 65, .int (p + 1), .int x4]) (rest := []) (c_35 (p + 1) x4 (d := d + 3)) rfl rfl rfl rfl ?_
              show zw fm sx (d + 5) 29 147 [some (.ref 103), some (.int p), some (.int ((zs Z 104) - 1)), some (.int x4), some (.int (bI y9))] [] (f_35 Z14 (p + 1) x4) Q
              refine zw_run 1 (pc' := 148) (loc' := [some (.ref 103), some (.int p), some (.int ((zs Z 104) - 1)), some (.int x4), some (.int (bI y9))]) (stk' := [.ref 103]) (fun _ _ _ => rfl) ?_
              refine zw_get (v := .ref 90) rfl rfl rfl ?_
              refine zw_run 1 (pc' := 152) (loc' := [some (.ref 103), some (.int p), some (.int ((zs Z 104) - 1)), some (.int x4), some (.int (bI y9))]) (stk' := [.ref 103, .ref 90]) (fun _ _ _ => rfl) ?_
              refine zw_get (v := .ref 110) rfl rfl rfl ?_
              refine zw_run 1 (pc' := 156) (loc' := [some (.ref 103), some (.int p), some (.int ((zs Z 104) - 1)), some (.int x4), some (.int (bI y9))]) (stk' := [.int ((zs Z 104) - 1), .ref 110, .ref 90]) (fun _ _ _ => rfl) ?_
              refine zw_callf (As := [.ref 110, .int ((zs Z 104) - 1)]) (rest := [.ref 90]) (c_row_at (id := 110) (by decide) ((zs Z 104) - 1) (d := d + 4)) rfl rfl rfl rfl ?_
              show zw fm sx (d + 5) 29 159 [some (.ref 103), some (.int p), some (.int ((zs Z 104) - 1)), some (.int x4), some (.int (bI y9))] [.int (zt (f_35 Z14 (p + 1) x4) 110 ((zs Z 104) - 1)), .ref 90] (f_35 Z14 (p + 1) x4) Q
              obtain ⟨u15, hu15, H⟩ := oq_bind H
              refine zw_callf (As := [.ref 90, .int (zt (f_35 Z14 (p + 1) x4) 110 ((zs Z 104) - 1))]) (rest := []) (c_80 hu (zt (f_35 Z14 (p + 1) x4) 110 ((zs Z 104) - 1)) hu15 (d := d + 1)) rfl rfl rfl rfl ?_
              show zw fm sx (d + 5) 29 162 [some (.ref 103), some (.int p), some (.int ((zs Z 104) - 1)), some (.int x4), some (.int (bI y9))] [] u15 Q
              refine zw_run 2 (pc' := 164) (loc' := [some (.ref 103), some (.int p), some (.int ((zs Z 104) - 1)), some (.int x4), some (.int (bI y9))]) (stk' := [.int ((zs Z 104) - 1), .ref 103]) (fun _ _ _ => rfl) ?_
              refine zw_callf (As := [.ref 103, .int ((zs Z 104) - 1)]) (rest := []) (c_26 ((zs Z 104) - 1) (d := d + 3)) rfl rfl rfl rfl ?_
              show zw fm sx (d + 5) 29 167 [some (.ref 103), some (.int p), some (.int ((zs Z 104) - 1)), some (.int x4), some (.int (bI y9))] [] (f_26 u15 ((zs Z 104) - 1)) Q
              refine zw_run 1 (pc' := 169) (loc' := [some (.ref 103), some (.int p), some (.int ((zs Z 104) - 1)), some (.int x4), some (.int (bI y9))]) (stk' := [.int (bI y9)]) (fun _ _ _ => rfl) ?_
              refine zw_b1 (b := y9) (t1 := 176) (t2 := 172) (loc' := [some (.ref 103), some (.int p), some (.int ((zs Z 104) - 1)), some (.int x4), some (.int (bI y9))]) (stk' := []) (fun _ _ _ => rfl) (fun c16 => ?_) (fun c16 => ?_)
              · rw [if_pos c16] at H
                refine zw_run 1 (pc' := 177) (loc' := [some (.ref 103), some (.int p), some (.int ((zs Z 104) - 1)), some (.int x4), some (.int (bI y9))]) (stk' := [.int x4]) (fun _ _ _ => rfl) ?_
                refine zw_reti (i := .nop) rfl rfl ?_
                have H := oq_some H
                exact H
              · rw [if_neg c16] at H
                refine zw_run 1 (pc' := 173) (loc' := [some (.ref 103), some (.int p), some (.int ((zs Z 104) - 1)), some (.int x4), some (.int (bI y9))]) (stk' := [.ref 103]) (fun _ _ _ => rfl) ?_
                refine zw_callf (As := [.ref 103]) (rest := []) (c_28 (d := d + 3)) rfl rfl rfl rfl ?_
                show zw fm sx (d + 5) 29 176 [some (.ref 103), some (.int p), some (.int ((zs Z 104) - 1)), some (.int x4), some (.int (bI y9))] [] (f_28 (f_26 u15 ((zs Z 104) - 1))) Q
                refine zw_run 1 (pc' := 177) (loc' := [some (.ref 103), some (.int p), some (.int ((zs Z 104) - 1)), some (.int x4), some (.int (bI y9))]) (stk' := [.int x4]) (fun _ _ _ => rfl) ?_
                refine zw_reti (i := .nop) rfl rfl ?_
                have H := oq_some H
                exact H
            refine zw_b0 (b := y9) (t1 := 117) (t2 := 122) (loc' := [some (.ref 103), some (.int p), some (.int ((zs Z 104) - 1)), some (.int x4), some (.int (bI y9))]) (stk' := [.ref 65]) (fun _ _ _ => rfl) (fun c11 => ?_) (fun c11 => ?_)
            · skip
              refine zw_run 2 (pc' := 124) (loc' := [some (.ref 103), some (.int p), some (.int ((zs Z 104) - 1)), some (.int x4), some (.int (bI y9))]) (stk' := [.int 7, .ref 65]) (fun _ _ _ => rfl) ?_
              exact J13 _ (by first | (rw [if_pos c11]; done) | (rw [if_pos c11]; rfl) | (clear H J13; simp_all [bI]; done))
            · skip
              refine zw_run 1 (pc' := 124) (loc' := [some (.ref 103), some (.int p), some (.int ((zs Z 104) - 1)), some (.int x4), some (.int (bI y9))]) (stk' := [.int 6, .ref 65]) (fun _ _ _ => rfl) ?_
              exact J13 _ (by first | (rw [if_neg c11]; done) | (rw [if_neg c11]; rfl) | (clear H J13; simp_all [bI]; done))
          refine zw_br (c := ¬ (zt ((f_31 ((f_32 Z (p + 1)).2) ((zs Z 104) - 1) p).2) 106 ((zs Z 104) - 1)) = 1) (t1 := 85) (t2 := 81) (loc' := [some (.ref 103), some (.int p), some (.int ((zs Z 104) - 1)), some (.int x4), none]) (stk' := []) (fun _ _ _ => rfl) (fun c6 => ?_) (fun c6 => ?_)
          · skip
            refine zw_run 1 (pc' := 86) (loc' := [some (.ref 103), some (.int p), some (.int ((zs Z 104) - 1)), some (.int x4), none]) (stk' := [.int 0]) (fun _ _ _ => rfl) ?_
            exact J8 _ (by clear H J8; first | (simp [bI, c6]; done) | (simp [bI, *]; done) | (simp_all [bI]; done) | (exfalso; simp_all; done))
          · skip
            refine zw_run 2 (pc' := 86) (loc' := [some (.ref 103), some (.int p), some (.int ((zs Z 104) - 1)), some (.int x4), none]) (stk' := [.int 1]) (fun _ _ _ => rfl) ?_
            exact J8 _ (by clear H J8; first | (simp [bI, c6]; done) | (simp [bI, *]; done) | (simp_all [bI]; done) | (exfalso; simp_all; done))
        · rw [if_neg c5] at H
          refine zw_run 2 (pc' := 62) (loc' := [some (.ref 103), some (.int p), some (.int ((zs Z 104) - 1)), some (.int x4), none]) (stk' := [.int ((zs Z 104) - 1), .ref 103]) (fun _ _ _ => rfl) ?_
          refine zw_callf (As := [.ref 103, .int ((zs Z 104) - 1)]) (rest := []) (c_26 ((zs Z 104) - 1) (d := d + 3)) rfl rfl rfl rfl ?_
          show zw fm sx (d + 5) 29 65 [some (.ref 103), some (.int p), some (.int ((zs Z 104) - 1)), some (.int x4), none] [] (f_26 ((f_31 ((f_32 Z (p + 1)).2) ((zs Z 104) - 1) p).2) ((zs Z 104) - 1)) Q
          obtain ⟨Z17, hZ17⟩ : ∃ w : zr_Z, w = f_26 ((f_31 ((f_32 Z (p + 1)).2) ((zs Z 104) - 1) p).2) ((zs Z 104) - 1) := ⟨_, rfl⟩
          rw [← hZ17]
          have H := oq_let H Z17 hZ17
          refine zw_run 3 (pc' := 68) (loc' := [some (.ref 103), some (.int p), some (.int ((zs Z 104) - 1)), some (.int x4), none]) (stk' := [.int (p + 1)]) (fun _ _ _ => rfl) ?_
          refine zw_reti (i := .nop) rfl rfl ?_
          have H := oq_some H
          exact H
      · rw [if_neg c3] at H
        refine zw_run 5 (pc' := 57) (loc' := [some (.ref 103), some (.int p), some (.int ((zs Z 104) - 1)), some (.int ((f_32 Z (p + 1)).1)), none]) (stk' := [.int (-1), .int ((f_32 Z (p + 1)).1)]) (fun _ _ _ => rfl) ?_
        refine zw_br (c := ¬ ((f_32 Z (p + 1)).1) = (-1)) (t1 := 69) (t2 := 60) (loc' := [some (.ref 103), some (.int p), some (.int ((zs Z 104) - 1)), some (.int ((f_32 Z (p + 1)).1)), none]) (stk' := []) (fun _ _ _ => rfl) (fun c18 => ?_) (fun c18 => ?_)
        · rw [if_pos c18] at H
          refine zw_run 1 (pc' := 70) (loc' := [some (.ref 103), some (.int p), some (.int ((zs Z 104) - 1)), some (.int ((f_32 Z (p + 1)).1)), none]) (stk' := [.ref 103]) (fun _ _ _ => rfl) ?_
          refine zw_get (v := .ref 106) rfl rfl rfl ?_
          refine zw_run 1 (pc' := 74) (loc' := [some (.ref 103), some (.int p), some (.int ((zs Z 104) - 1)), some (.int ((f_32 Z (p + 1)).1)), none]) (stk' := [.int ((zs Z 104) - 1), .ref 106]) (fun _ _ _ => rfl) ?_
          refine zw_callf (As := [.ref 106, .int ((zs Z 104) - 1)]) (rest := []) (c_row_at (id := 106) (by decide) ((zs Z 104) - 1) (d := d + 4)) rfl rfl rfl rfl ?_
          show zw fm sx (d + 5) 29 77 [some (.ref 103), some (.int p), some (.int ((zs Z 104) - 1)), some (.int ((f_32 Z (p + 1)).1)), none] [.int (zt ((f_32 Z (p + 1)).2) 106 ((zs Z 104) - 1))] ((f_32 Z (p + 1)).2) Q
          refine zw_run 1 (pc' := 78) (loc' := [some (.ref 103), some (.int p), some (.int ((zs Z 104) - 1)), some (.int ((f_32 Z (p + 1)).1)), none]) (stk' := [.int 1, .int (zt ((f_32 Z (p + 1)).2) 106 ((zs Z 104) - 1))]) (fun _ _ _ => rfl) ?_
          have J21 : ∀ (v20 : Int32), v20 = (bI ((decide ((zt ((f_32 Z (p + 1)).2) 106 ((zs Z 104) - 1)) = 1)))) → zw fm sx (d + 5) 29 86 [some (.ref 103), some (.int p), some (.int ((zs Z 104) - 1)), some (.int ((f_32 Z (p + 1)).1)), none] [.int v20] ((f_32 Z (p + 1)).2) Q := by
            intro v20 ev20
            subst ev20
            refine zw_run 1 (pc' := 88) (loc' := [some (.ref 103), some (.int p), some (.int ((zs Z 104) - 1)), some (.int ((f_32 Z (p + 1)).1)), some (.int (bI ((decide ((zt ((f_32 Z (p + 1)).2) 106 ((zs Z 104) - 1)) = 1)))))]) (stk' := []) (fun _ _ _ => rfl) ?_
            obtain ⟨y22, hy22⟩ : ∃ w : Bool, w = ((decide ((zt ((f_32 Z (p + 1)).2) 106 ((zs Z 104) - 1)) = 1))) := ⟨_, rfl⟩
            rw [← hy22]
            have H := oq_let H y22 hy22
            refine zw_run 1 (pc' := 89) (loc' := [some (.ref 103), some (.int p), some (.int ((zs Z 104) - 1)), some (.int ((f_32 Z (p + 1)).1)), some (.int (bI y22))]) (stk' := [.ref 103]) (fun _ _ _ => rfl) ?_
            refine zw_get (v := .ref 65) rfl rfl rfl ?_
            refine zw_run 1 (pc' := 93) (loc' := [some (.ref 103), some (.int p), some (.int ((zs Z 104) - 1)), some (.int ((f_32 Z (p + 1)).1)), some (.int (bI y22))]) (stk' := [.ref 103, .ref 65]) (fun _ _ _ => rfl) ?_
            refine zw_get (v := .ref 104) rfl rfl rfl ?_
            refine zw_run 1 (pc' := 97) (loc' := [some (.ref 103), some (.int p), some (.int ((zs Z 104) - 1)), some (.int ((f_32 Z (p + 1)).1)), some (.int (bI y22))]) (stk' := [.int ((zs Z 104) - 1), .ref 104, .ref 65]) (fun _ _ _ => rfl) ?_
            refine zw_callf (As := [.ref 104, .int ((zs Z 104) - 1)]) (rest := [.ref 65]) (c_row_at (id := 104) (by decide) ((zs Z 104) - 1) (d := d + 4)) rfl rfl rfl rfl ?_
            show zw fm sx (d + 5) 29 100 [some (.ref 103), some (.int p), some (.int ((zs Z 104) - 1)), some (.int ((f_32 Z (p + 1)).1)), some (.int (bI y22))] [.int (zt ((f_32 Z (p + 1)).2) 104 ((zs Z 104) - 1)), .ref 65] ((f_32 Z (p + 1)).2) Q
            refine zw_run 2 (pc' := 102) (loc' := [some (.ref 103), some (.int p), some (.int ((zs Z 104) - 1)), some (.int ((f_32 Z (p + 1)).1)), some (.int (bI y22))]) (stk' := [.int ((zs Z 104) - 1), .ref 103, .int (zt ((f_32 Z (p + 1)).2) 104 ((zs Z 104) - 1)), .ref 65]) (fun _ _ _ => rfl) ?_
            refine zw_callf (As := [.ref 103, .int ((zs Z 104) - 1)]) (rest := [.int (zt ((f_32 Z (p + 1)).2) 104 ((zs Z 104) - 1)), .ref 65]) (c_30 ((zs Z 104) - 1) (d := d + 3)) rfl rfl rfl rfl ?_
            show zw fm sx (d + 5) 29 105 [some (.ref 103), some (.int p), some (.int ((zs Z 104) - 1)), some (.int ((f_32 Z (p + 1)).1)), some (.int (bI y22))] [.int (f_30 ((f_32 Z (p + 1)).2) ((zs Z 104) - 1)), .int (zt ((f_32 Z (p + 1)).2) 104 ((zs Z 104) - 1)), .ref 65] ((f_32 Z (p + 1)).2) Q
            refine zw_callf (As := [.ref 65, .int (zt ((f_32 Z (p + 1)).2) 104 ((zs Z 104) - 1)), .int (f_30 ((f_32 Z (p + 1)).2) ((zs Z 104) - 1))]) (rest := []) (c_35 (zt ((f_32 Z (p + 1)).2) 104 ((zs Z 104) - 1)) (f_30 ((f_32 Z (p + 1)).2) ((zs Z 104) - 1)) (d := d + 3)) rfl rfl rfl rfl ?_
            show zw fm sx (d + 5) 29 108 [some (.ref 103), some (.int p), some (.int ((zs Z 104) - 1)), some (.int ((f_32 Z (p + 1)).1)), some (.int (bI y22))] [] (f_35 ((f_32 Z (p + 1)).2) (zt ((f_32 Z (p + 1)).2) 104 ((zs Z 104) - 1)) (f_30 ((f_32 Z (p + 1)).2) ((zs Z 104) - 1))) Q
            obtain ⟨Z23, hZ23⟩ : ∃ w : zr_Z, w = f_35 ((f_32 Z (p + 1)).2) (zt ((f_32 Z (p + 1)).2) 104 ((zs Z 104) - 1)) (f_30 ((f_32 Z (p + 1)).2) ((zs Z 104) - 1)) := ⟨_, rfl⟩
            rw [← hZ23]
            have H := oq_let H Z23 hZ23
            refine zw_run 1 (pc' := 109) (loc' := [some (.ref 103), some (.int p), some (.int ((zs Z 104) - 1)), some (.int ((f_32 Z (p + 1)).1)), some (.int (bI y22))]) (stk' := [.ref 103]) (fun _ _ _ => rfl) ?_
            refine zw_get (v := .ref 65) rfl rfl rfl ?_
            refine zw_run 1 (pc' := 114) (loc' := [some (.ref 103), some (.int p), some (.int ((zs Z 104) - 1)), some (.int ((f_32 Z (p + 1)).1)), some (.int (bI y22))]) (stk' := [.int (bI y22), .ref 65]) (fun _ _ _ => rfl) ?_
            have J26 : ∀ (v25 : Int32), v25 = (if y22 = true then 7 else 6 : Int32) → zw fm sx (d + 5) 29 124 [some (.ref 103), some (.int p), some (.int ((zs Z 104) - 1)), some (.int ((f_32 Z (p + 1)).1)), some (.int (bI y22))] [.int v25, .ref 65] Z23 Q := by
              intro v25 ev25
              subst ev25
              refine zw_run 1 (pc' := 125) (loc' := [some (.ref 103), some (.int p), some (.int ((zs Z 104) - 1)), some (.int ((f_32 Z (p + 1)).1)), some (.int (bI y22))]) (stk' := [.ref 103, .int (if y22 = true then 7 else 6 : Int32), .ref 65]) (fun _ _ _ => rfl) ?_
              refine zw_get (v := .ref 104) rfl rfl rfl ?_
              refine zw_run 1 (pc' := 129) (loc' := [some (.ref 103), some (.int p), some (.int ((zs Z 104) - 1)), some (.int ((f_32 Z (p + 1)).1)), some (.int (bI y22))]) (stk' := [.int ((zs Z 104) - 1), .ref 104, .int (if y22 = true then 7 else 6 : Int32), .ref 65]) (fun _ _ _ => rfl) ?_
              refine zw_callf (As := [.ref 104, .int ((zs Z 104) - 1)]) (rest := [.int (if y22 = true then 7 else 6 : Int32), .ref 65]) (c_row_at (id := 104) (by decide) ((zs Z 104) - 1) (d := d + 4)) rfl rfl rfl rfl ?_
              show zw fm sx (d + 5) 29 132 [some (.ref 103), some (.int p), some (.int ((zs Z 104) - 1)), some (.int ((f_32 Z (p + 1)).1)), some (.int (bI y22))] [.int (zt Z23 104 ((zs Z 104) - 1)), .int (if y22 = true then 7 else 6 : Int32), .ref 65] Z23 Q
              refine zw_run 1 (pc' := 133) (loc' := [some (.ref 103), some (.int p), some (.int ((zs Z 104) - 1)), some (.int ((f_32 Z (p + 1)).1)), some (.int (bI y22))]) (stk' := [.int p, .int (zt Z23 104 ((zs Z 104) - 1)), .int (if y22 = true then 7 else 6 : Int32), .ref 65]) (fun _ _ _ => rfl) ?_
              refine zw_callf (As := [.ref 65, .int (if y22 = true then 7 else 6 : Int32), .int (zt Z23 104 ((zs Z 104) - 1)), .int p]) (rest := []) (c_36 (if y22 = true then 7 else 6 : Int32) (zt Z23 104 ((zs Z 104) - 1)) p (d := d + 3)) rfl rfl rfl rfl ?_
              show zw fm sx (d + 5) 29 136 [some (.ref 103), some (.int p), some (.int ((zs Z 104) - 1)), some (.int ((f_32 Z (p + 1)).1)), some (.int (bI y22))] [] (f_36 Z23 (if y22 = true then 7 else 6 : Int32) (zt Z23 104 ((zs Z 104) - 1)) p) Q
              obtain ⟨Z27, hZ27⟩ : ∃ w : zr_Z, w = f_36 Z23 (if y22 = true then 7 else 6 : Int32) (zt Z23 104 ((zs Z 104) - 1)) p := ⟨_, rfl⟩
              rw [← hZ27]
              have H := oq_let H Z27 hZ27
              refine zw_run 1 (pc' := 137) (loc' := [some (.ref 103), some (.int p), some (.int ((zs Z 104) - 1)), some (.int ((f_32 Z (p + 1)).1)), some (.int (bI y22))]) (stk' := [.ref 103]) (fun _ _ _ => rfl) ?_
              refine zw_get (v := .ref 65) rfl rfl rfl ?_
              refine zw_run 4 (pc' := 144) (loc' := [some (.ref 103), some (.int p), some (.int ((zs Z 104) - 1)), some (.int ((f_32 Z (p + 1)).1)), some (.int (bI y22))]) (stk' := [.int ((f_32 Z (p + 1)).1), .int (p + 1), .ref 65]) (fun _ _ _ => rfl) ?_
              refine zw_callf (As := [.ref 65, .int (p + 1), .int ((f_32 Z (p + 1)).1)]) (rest := []) (c_35 (p + 1) ((f_32 Z (p + 1)).1) (d := d + 3)) rfl rfl rfl rfl ?_
              show zw fm sx (d + 5) 29 147 [some (.ref 103), some (.int p), some (.int ((zs Z 104) - 1)), some (.int ((f_32 Z (p + 1)).1)), some (.int (bI y22))] [] (f_35 Z27 (p + 1) ((f_32 Z (p + 1)).1)) Q
              refine zw_run 1 (pc' := 148) (loc' := [some (.ref 103), some (.int p), some (.int ((zs Z 104) - 1)), some (.int ((f_32 Z (p + 1)).1)), some (.int (bI y22))]) (stk' := [.ref 103]) (fun _ _ _ => rfl) ?_
              refine zw_get (v := .ref 90) rfl rfl rfl ?_
              refine zw_run 1 (pc' := 152) (loc' := [some (.ref 103), some (.int p), some (.int ((zs Z 104) - 1)), some (.int ((f_32 Z (p + 1)).1)), some (.int (bI y22))]) (stk' := [.ref 103, .ref 90]) (fun _ _ _ => rfl) ?_
              refine zw_get (v := .ref 110) rfl rfl rfl ?_
              refine zw_run 1 (pc' := 156) (loc' := [some (.ref 103), some (.int p), some (.int ((zs Z 104) - 1)), some (.int ((f_32 Z (p + 1)).1)), some (.int (bI y22))]) (stk' := [.int ((zs Z 104) - 1), .ref 110, .ref 90]) (fun _ _ _ => rfl) ?_
              refine zw_callf (As := [.ref 110, .int ((zs Z 104) - 1)]) (rest := [.ref 90]) (c_row_at (id := 110) (by decide) ((zs Z 104) - 1) (d := d + 4)) rfl rfl rfl rfl ?_
              show zw fm sx (d + 5) 29 159 [some (.ref 103), some (.int p), some (.int ((zs Z 104) - 1)), some (.int ((f_32 Z (p + 1)).1)), some (.int (bI y22))] [.int (zt (f_35 Z27 (p + 1) ((f_32 Z (p + 1)).1)) 110 ((zs Z 104) - 1)), .ref 90] (f_35 Z27 (p + 1) ((f_32 Z (p + 1)).1)) Q
              obtain ⟨u28, hu28, H⟩ := oq_bind H
              refine zw_callf (As := [.ref 90, .int (zt (f_35 Z27 (p + 1) ((f_32 Z (p + 1)).1)) 110 ((zs Z 104) - 1))]) (rest := []) (c_80 hu (zt (f_35 Z27 (p + 1) ((f_32 Z (p + 1)).1)) 110 ((zs Z 104) - 1)) hu28 (d := d + 1)) rfl rfl rfl rfl ?_
              show zw fm sx (d + 5) 29 162 [some (.ref 103), some (.int p), some (.int ((zs Z 104) - 1)), some (.int ((f_32 Z (p + 1)).1)), some (.int (bI y22))] [] u28 Q
              refine zw_run 2 (pc' := 164) (loc' := [some (.ref 103), some (.int p), some (.int ((zs Z 104) - 1)), some (.int ((f_32 Z (p + 1)).1)), some (.int (bI y22))]) (stk' := [.int ((zs Z 104) - 1), .ref 103]) (fun _ _ _ => rfl) ?_
              refine zw_callf (As := [.ref 103, .int ((zs Z 104) - 1)]) (rest := []) (c_26 ((zs Z 104) - 1) (d := d + 3)) rfl rfl rfl rfl ?_
              show zw fm sx (d + 5) 29 167 [some (.ref 103), some (.int p), some (.int ((zs Z 104) - 1)), some (.int ((f_32 Z (p + 1)).1)), some (.int (bI y22))] [] (f_26 u28 ((zs Z 104) - 1)) Q
              refine zw_run 1 (pc' := 169) (loc' := [some (.ref 103), some (.int p), some (.int ((zs Z 104) - 1)), some (.int ((f_32 Z (p + 1)).1)), some (.int (bI y22))]) (stk' := [.int (bI y22)]) (fun _ _ _ => rfl) ?_
              refine zw_b1 (b := y22) (t1 := 176) (t2 := 172) (loc' := [some (.ref 103), some (.int p), some (.int ((zs Z 104) - 1)), some (.int ((f_32 Z (p + 1)).1)), some (.int (bI y22))]) (stk' := []) (fun _ _ _ => rfl) (fun c29 => ?_) (fun c29 => ?_)
              · rw [if_pos c29] at H
                refine zw_run 1 (pc' := 177) (loc' := [some (.ref 103), some (.int p), some (.int ((zs Z 104) - 1)), some (.int ((f_32 Z (p + 1)).1)), some (.int (bI y22))]) (stk' := [.int ((f_32 Z (p + 1)).1)]) (fun _ _ _ => rfl) ?_
                refine zw_reti (i := .nop) rfl rfl ?_
                have H := oq_some H
                exact H
              · rw [if_neg c29] at H
                refine zw_run 1 (pc' := 173) (loc' := [some (.ref 103), some (.int p), some (.int ((zs Z 104) - 1)), some (.int ((f_32 Z (p + 1)).1)), some (.int (bI y22))]) (stk' := [.ref 103]) (fun _ _ _ => rfl) ?_
                refine zw_callf (As := [.ref 103]) (rest := []) (c_28 (d := d + 3)) rfl rfl rfl rfl ?_
                show zw fm sx (d + 5) 29 176 [some (.ref 103), some (.int p), some (.int ((zs Z 104) - 1)), some (.int ((f_32 Z (p + 1)).1)), some (.int (bI y22))] [] (f_28 (f_26 u28 ((zs Z 104) - 1))) Q
                refine zw_run 1 (pc' := 177) (loc' := [some (.ref 103), some (.int p), some (.int ((zs Z 104) - 1)), some (.int ((f_32 Z (p + 1)).1)), some (.int (bI y22))]) (stk' := [.int ((f_32 Z (p + 1)).1)]) (fun _ _ _ => rfl) ?_
                refine zw_reti (i := .nop) rfl rfl ?_
                have H := oq_some H
                exact H
            refine zw_b0 (b := y22) (t1 := 117) (t2 := 122) (loc' := [some (.ref 103), some (.int p), some (.int ((zs Z 104) - 1)), some (.int ((f_32 Z (p + 1)).1)), some (.int (bI y22))]) (stk' := [.ref 65]) (fun _ _ _ => rfl) (fun c24 => ?_) (fun c24 => ?_)
            · skip
              refine zw_run 2 (pc' := 124) (loc' := [some (.ref 103), some (.int p), some (.int ((zs Z 104) - 1)), some (.int ((f_32 Z (p + 1)).1)), some (.int (bI y22))]) (stk' := [.int 7, .ref 65]) (fun _ _ _ => rfl) ?_
              exact J26 _ (by first | (rw [if_pos c24]; done) | (rw [if_pos c24]; rfl) | (clear H J26; simp_all [bI]; done))
            · skip
              refine zw_run 1 (pc' := 124) (loc' := [some (.ref 103), some (.int p), some (.int ((zs Z 104) - 1)), some (.int ((f_32 Z (p + 1)).1)), some (.int (bI y22))]) (stk' := [.int 6, .ref 65]) (fun _ _ _ => rfl) ?_
              exact J26 _ (by first | (rw [if_neg c24]; done) | (rw [if_neg c24]; rfl) | (clear H J26; simp_all [bI]; done))
          refine zw_br (c := ¬ (zt ((f_32 Z (p + 1)).2) 106 ((zs Z 104) - 1)) = 1) (t1 := 85) (t2 := 81) (loc' := [some (.ref 103), some (.int p), some (.int ((zs Z 104) - 1)), some (.int ((f_32 Z (p + 1)).1)), none]) (stk' := []) (fun _ _ _ => rfl) (fun c19 => ?_) (fun c19 => ?_)
          · skip
            refine zw_run 1 (pc' := 86) (loc' := [some (.ref 103), some (.int p), some (.int ((zs Z 104) - 1)), some (.int ((f_32 Z (p + 1)).1)), none]) (stk' := [.int 0]) (fun _ _ _ => rfl) ?_
            exact J21 _ (by clear H J21; first | (simp [bI, c19]; done) | (simp [bI, *]; done) | (simp_all [bI]; done) | (exfalso; simp_all; done))
          · skip
            refine zw_run 2 (pc' := 86) (loc' := [some (.ref 103), some (.int p), some (.int ((zs Z 104) - 1)), some (.int ((f_32 Z (p + 1)).1)), none]) (stk' := [.int 1]) (fun _ _ _ => rfl) ?_
            exact J21 _ (by clear H J21; first | (simp [bI, c19]; done) | (simp [bI, *]; done) | (simp_all [bI]; done) | (exfalso; simp_all; done))
        · rw [if_neg c18] at H
          refine zw_run 2 (pc' := 62) (loc' := [some (.ref 103), some (.int p), some (.int ((zs Z 104) - 1)), some (.int ((f_32 Z (p + 1)).1)), none]) (stk' := [.int ((zs Z 104) - 1), .ref 103]) (fun _ _ _ => rfl) ?_
          refine zw_callf (As := [.ref 103, .int ((zs Z 104) - 1)]) (rest := []) (c_26 ((zs Z 104) - 1) (d := d + 3)) rfl rfl rfl rfl ?_
          show zw fm sx (d + 5) 29 65 [some (.ref 103), some (.int p), some (.int ((zs Z 104) - 1)), some (.int ((f_32 Z (p + 1)).1)), none] [] (f_26 ((f_32 Z (p + 1)).2) ((zs Z 104) - 1)) Q
          refine zw_run 3 (pc' := 68) (loc' := [some (.ref 103), some (.int p), some (.int ((zs Z 104) - 1)), some (.int ((f_32 Z (p + 1)).1)), none]) (stk' := [.int (p + 1)]) (fun _ _ _ => rfl) ?_
          refine zw_reti (i := .nop) rfl rfl ?_
          have H := oq_some H
          exact H
  · rw [if_neg c1] at H
    refine zw_run 3 (pc' := 17) (loc' := [some (.ref 103), some (.int p), some (.int ((zs Z 104) - 1)), none, none]) (stk' := [.int (p + 1)]) (fun _ _ _ => rfl) ?_
    refine zw_reti (i := .nop) rfl rfl ?_
    have H := oq_some H
    exact H
theorem c_29 {fm : Value} {sx : Nat × (Nat → Int32)} {d : Nat} {Z : zr_Z} (hu : fm = .null ∨ ∃ q, fm = .ref q) (p : Int32) {x : Int32 × zr_Z} (hx : o_29 Z p = some x) : zl fm sx (d + 6) 29 [.ref 103, .int p] Z (fun r Z' => r = some (.int x.1) ∧ Z' = x.2) :=
  zl_of (nL := 5) (loc0 := [some (.ref 103), some (.int p), none, none, none]) rfl rfl rfl (t_29 hu p ⟨x, hx, rfl, rfl⟩)
/-- MarkInlines$Reader.markAll, its loop at 6 -/
def g_54_6 : Nat → zr_Z → Int32 → Option zr_Z
  | 0, _, _ => none
  | n + 1, Z, x1 => (if (zs Z 61) ≤ x1 then (Option.bind (o_80 Z 0) fun u2 => some u2) else (if ¬ (zc Z 2) = 0 then (Option.bind (o_80 Z 0) fun u4 => some u4) else (if zt Z 61 x1 = 10 then g_54_6 n (f_56 Z x1) (zmax (x1 + 1) (x1 + 1)) else (if zt Z 61 x1 = 33 then (olet (zmax (x1 + 1) ((f_51 Z x1).1) : Int32) fun x7 => g_54_6 n ((f_51 Z x1).2) x7) else (if zt Z 61 x1 = 38 then (Option.bind (o_61 Z x1) fun u9 => g_54_6 n u9.2 (zmax (x1 + 1) u9.1)) else (if zt Z 61 x1 = 42 then (olet (zmax (x1 + 1) (f_93 Z x1) : Int32) fun x11 => g_54_6 n (f_78 Z x1 (f_93 Z x1)) x11) else (if zt Z 61 x1 = 60 then (olet (zmax (x1 + 1) ((f_60 Z x1).1) : Int32) fun x13 => g_54_6 n ((f_60 Z x1).2) x13) else (if zt Z 61 x1 = 91 then (olet (zmax (x1 + 1) ((f_51 Z x1).1) : Int32) fun x15 => g_54_6 n ((f_51 Z x1).2) x15) else (if zt Z 61 x1 = 92 then (olet (zmax (x1 + 1) ((f_57 Z x1).1) : Int32) fun x17 => g_54_6 n ((f_57 Z x1).2) x17) else (if zt Z 61 x1 = 93 then (Option.bind (o_29 Z x1) fun u19 => g_54_6 n u19.2 (zmax (x1 + 1) u19.1)) else (if zt Z 61 x1 = 95 then (olet (zmax (x1 + 1) (f_93 Z x1) : Int32) fun x21 => g_54_6 n (f_78 Z x1 (f_93 Z x1)) x21) else (if zt Z 61 x1 = 96 then (Option.bind (o_58 Z x1) fun u23 => g_54_6 n u23.2 (zmax (x1 + 1) u23.1)) else g_54_6 n Z (zmax (x1 + 1) (x1 + 1))))))))))))))
set_option maxRecDepth 100000 in
set_option maxHeartbeats 4000000 in
theorem l_54_6 {fm : Value} {sx : Nat × (Nat → Int32)} {d : Nat} {Q : Option Value → zr_Z → Prop} (hu : fm = .null ∨ ∃ q, fm = .ref q)  : ∀ (n : Nat) (Z : zr_Z) (x1 : Int32), oq (g_54_6 n Z x1) (fun x => Q none x) → zw fm sx (d + 7) 54 6 [some (.ref 89), some (.int x1), none] [] Z Q := by
  intro n
  induction n with
  | zero => intro Z x1 H; exact absurd H oq_none
  | succ n ih =>
    intro Z x1 H
    unfold g_54_6 at H
    refine zw_run 2 (pc' := 8) (loc' := [some (.ref 89), some (.int x1), none]) (stk' := [.ref 89, .int x1]) (fun _ _ _ => rfl) ?_
    refine zw_get (v := .ref 61) rfl rfl rfl ?_
    refine zw_callf (As := [.ref 61]) (rest := [.int x1]) (c_row_size (id := 61) (by decide) (d := d + 6)) rfl rfl rfl rfl ?_
    show zw fm sx (d + 7) 54 14 [some (.ref 89), some (.int x1), none] [.int (zs Z 61), .int x1] Z Q
    refine zw_br (c := (zs Z 61) ≤ x1) (t1 := 225) (t2 := 17) (loc' := [some (.ref 89), some (.int x1), none]) (stk' := []) (fun _ _ _ => rfl) (fun c1 => ?_) (fun c1 => ?_)
    · rw [if_pos c1] at H
      refine zw_run 1 (pc' := 226) (loc' := [some (.ref 89), some (.int x1), none]) (stk' := [.ref 89]) (fun _ _ _ => rfl) ?_
      refine zw_get (v := .ref 90) rfl rfl rfl ?_
      refine zw_run 1 (pc' := 230) (loc' := [some (.ref 89), some (.int x1), none]) (stk' := [.int 0, .ref 90]) (fun _ _ _ => rfl) ?_
      obtain ⟨u2, hu2, H⟩ := oq_bind H
      refine zw_callf (As := [.ref 90, .int 0]) (rest := []) (c_80 hu 0 hu2 (d := d + 3)) rfl rfl rfl rfl ?_
      show zw fm sx (d + 7) 54 233 [some (.ref 89), some (.int x1), none] [] u2 Q
      refine zw_retv rfl rfl ?_
      have H := oq_some H
      exact H
    · rw [if_neg c1] at H
      refine zw_run 1 (pc' := 18) (loc' := [some (.ref 89), some (.int x1), none]) (stk' := [.ref 89]) (fun _ _ _ => rfl) ?_
      refine zw_get (v := .int (zc Z 2)) rfl rfl rfl ?_
      refine zw_br (c := ¬ (zc Z 2) = 0) (t1 := 225) (t2 := 24) (loc' := [some (.ref 89), some (.int x1), none]) (stk' := []) (fun _ _ _ => rfl) (fun c3 => ?_) (fun c3 => ?_)
      · rw [if_pos c3] at H
        refine zw_run 1 (pc' := 226) (loc' := [some (.ref 89), some (.int x1), none]) (stk' := [.ref 89]) (fun _ _ _ => rfl) ?_
        refine zw_get (v := .ref 90) rfl rfl rfl ?_
        refine zw_run 1 (pc' := 230) (loc' := [some (.ref 89), some (.int x1), none]) (stk' := [.int 0, .ref 90]) (fun _ _ _ => rfl) ?_
        obtain ⟨u4, hu4, H⟩ := oq_bind H
        refine zw_callf (As := [.ref 90, .int 0]) (rest := []) (c_80 hu 0 hu4 (d := d + 3)) rfl rfl rfl rfl ?_
        show zw fm sx (d + 7) 54 233 [some (.ref 89), some (.int x1), none] [] u4 Q
        refine zw_retv rfl rfl ?_
        have H := oq_some H
        exact H
      · rw [if_neg c3] at H
        refine zw_run 5 (pc' := 29) (loc' := [some (.ref 89), some (.int x1), some (.int (x1 + 1))]) (stk' := [.ref 89]) (fun _ _ _ => rfl) ?_
        refine zw_get (v := .ref 61) rfl rfl rfl ?_
        refine zw_run 1 (pc' := 33) (loc' := [some (.ref 89), some (.int x1), some (.int (x1 + 1))]) (stk' := [.int x1, .ref 61]) (fun _ _ _ => rfl) ?_
        refine zw_callf (As := [.ref 61, .int x1]) (rest := []) (c_row_at (id := 61) (by decide) x1 (d := d + 6)) rfl rfl rfl rfl ?_
        show zw fm sx (d + 7) 54 36 [some (.ref 89), some (.int x1), some (.int (x1 + 1))] [.int (zt Z 61 x1)] Z Q
        by_cases c5 : zt Z 61 x1 = 10
        · rw [if_pos c5] at H
          refine zw_run 1 (pc' := 128) (loc' := [some (.ref 89), some (.int x1), some (.int (x1 + 1))]) (stk' := []) (fun _ _ _ => by rw [c5]; rfl) ?_
          refine zw_run 2 (pc' := 130) (loc' := [some (.ref 89), some (.int x1), some (.int (x1 + 1))]) (stk' := [.int x1, .ref 89]) (fun _ _ _ => rfl) ?_
          refine zw_callf (As := [.ref 89, .int x1]) (rest := []) (c_56 x1 (d := d + 4)) rfl rfl rfl rfl ?_
          show zw fm sx (d + 7) 54 133 [some (.ref 89), some (.int x1), some (.int (x1 + 1))] [] (f_56 Z x1) Q
          refine zw_run 5 (pc' := 218) (loc' := [some (.ref 89), some (.int x1), some (.int (x1 + 1))]) (stk' := [.int (x1 + 1), .int (x1 + 1)]) (fun _ _ _ => rfl) ?_
          refine zw_max rfl rfl ?_
          show zw fm sx (d + 7) 54 221 [some (.ref 89), some (.int x1), some (.int (x1 + 1))] [.int (zmax (x1 + 1) (x1 + 1))] (f_56 Z x1) Q
          refine zw_run 2 (pc' := 6) (loc' := [some (.ref 89), some (.int (zmax (x1 + 1) (x1 + 1))), some (.int (x1 + 1))]) (stk' := []) (fun _ _ _ => rfl) ?_
          refine zw_fgt [true, true, false] rfl ?_
          exact ih (f_56 Z x1) (zmax (x1 + 1) (x1 + 1)) H
        rw [if_neg c5] at H
        by_cases c6 : zt Z 61 x1 = 33
        · rw [if_pos c6] at H
          refine zw_run 1 (pc' := 193) (loc' := [some (.ref 89), some (.int x1), some (.int (x1 + 1))]) (stk' := []) (fun _ _ _ => by rw [c6]; rfl) ?_
          refine zw_run 2 (pc' := 195) (loc' := [some (.ref 89), some (.int x1), some (.int (x1 + 1))]) (stk' := [.int x1, .ref 89]) (fun _ _ _ => rfl) ?_
          refine zw_callf (As := [.ref 89, .int x1]) (rest := []) (c_51 x1 (d := d + 3)) rfl rfl rfl rfl ?_
          show zw fm sx (d + 7) 54 198 [some (.ref 89), some (.int x1), some (.int (x1 + 1))] [.int ((f_51 Z x1).1)] ((f_51 Z x1).2) Q
          refine zw_run 6 (pc' := 218) (loc' := [some (.ref 89), some (.int x1), some (.int ((f_51 Z x1).1))]) (stk' := [.int ((f_51 Z x1).1), .int (x1 + 1)]) (fun _ _ _ => rfl) ?_
          refine zw_max rfl rfl ?_
          show zw fm sx (d + 7) 54 221 [some (.ref 89), some (.int x1), some (.int ((f_51 Z x1).1))] [.int (zmax (x1 + 1) ((f_51 Z x1).1))] ((f_51 Z x1).2) Q
          refine zw_run 1 (pc' := 222) (loc' := [some (.ref 89), some (.int (zmax (x1 + 1) ((f_51 Z x1).1))), some (.int ((f_51 Z x1).1))]) (stk' := []) (fun _ _ _ => rfl) ?_
          obtain ⟨x7, hx7⟩ : ∃ w : Int32, w = zmax (x1 + 1) ((f_51 Z x1).1) := ⟨_, rfl⟩
          rw [← hx7]
          have H := oq_let H x7 hx7
          refine zw_run 1 (pc' := 6) (loc' := [some (.ref 89), some (.int x7), some (.int ((f_51 Z x1).1))]) (stk' := []) (fun _ _ _ => rfl) ?_
          refine zw_fgt [true, true, false] rfl ?_
          exact ih ((f_51 Z x1).2) x7 H
        rw [if_neg c6] at H
        by_cases c8 : zt Z 61 x1 = 38
        · rw [if_pos c8] at H
          refine zw_run 1 (pc' := 163) (loc' := [some (.ref 89), some (.int x1), some (.int (x1 + 1))]) (stk' := []) (fun _ _ _ => by rw [c8]; rfl) ?_
          refine zw_run 2 (pc' := 165) (loc' := [some (.ref 89), some (.int x1), some (.int (x1 + 1))]) (stk' := [.int x1, .ref 89]) (fun _ _ _ => rfl) ?_
          obtain ⟨u9, hu9, H⟩ := oq_bind H
          refine zw_callf (As := [.ref 89, .int x1]) (rest := []) (c_61 hu x1 hu9 (d := d + 0)) rfl rfl rfl rfl ?_
          show zw fm sx (d + 7) 54 168 [some (.ref 89), some (.int x1), some (.int (x1 + 1))] [.int u9.1] u9.2 Q
          refine zw_run 6 (pc' := 218) (loc' := [some (.ref 89), some (.int x1), some (.int u9.1)]) (stk' := [.int u9.1, .int (x1 + 1)]) (fun _ _ _ => rfl) ?_
          refine zw_max rfl rfl ?_
          show zw fm sx (d + 7) 54 221 [some (.ref 89), some (.int x1), some (.int u9.1)] [.int (zmax (x1 + 1) u9.1)] u9.2 Q
          refine zw_run 2 (pc' := 6) (loc' := [some (.ref 89), some (.int (zmax (x1 + 1) u9.1)), some (.int u9.1)]) (stk' := []) (fun _ _ _ => rfl) ?_
          refine zw_fgt [true, true, false] rfl ?_
          exact ih u9.2 (zmax (x1 + 1) u9.1) H
        rw [if_neg c8] at H
        by_cases c10 : zt Z 61 x1 = 42
        · rw [if_pos c10] at H
          refine zw_run 1 (pc' := 172) (loc' := [some (.ref 89), some (.int x1), some (.int (x1 + 1))]) (stk' := []) (fun _ _ _ => by rw [c10]; rfl) ?_
          refine zw_run 1 (pc' := 173) (loc' := [some (.ref 89), some (.int x1), some (.int (x1 + 1))]) (stk' := [.ref 89]) (fun _ _ _ => rfl) ?_
          refine zw_get (v := .ref 63) rfl rfl rfl ?_
          refine zw_run 1 (pc' := 177) (loc' := [some (.ref 89), some (.int x1), some (.int (x1 + 1))]) (stk' := [.int x1, .ref 63]) (fun _ _ _ => rfl) ?_
          refine zw_callf (As := [.ref 63, .int x1]) (rest := []) (c_93 x1 (d := d + 5)) rfl rfl rfl rfl ?_
          show zw fm sx (d + 7) 54 180 [some (.ref 89), some (.int x1), some (.int (x1 + 1))] [.int (f_93 Z x1)] Z Q
          refine zw_run 2 (pc' := 182) (loc' := [some (.ref 89), some (.int x1), some (.int (f_93 Z x1))]) (stk' := [.ref 89]) (fun _ _ _ => rfl) ?_
          refine zw_get (v := .ref 90) rfl rfl rfl ?_
          refine zw_run 2 (pc' := 187) (loc' := [some (.ref 89), some (.int x1), some (.int (f_93 Z x1))]) (stk' := [.int (f_93 Z x1), .int x1, .ref 90]) (fun _ _ _ => rfl) ?_
          refine zw_callf (As := [.ref 90, .int x1, .int (f_93 Z x1)]) (rest := []) (c_78 x1 (f_93 Z x1) (d := d + 3)) rfl rfl rfl rfl ?_
          show zw fm sx (d + 7) 54 190 [some (.ref 89), some (.int x1), some (.int (f_93 Z x1))] [] (f_78 Z x1 (f_93 Z x1)) Q
          refine zw_run 5 (pc' := 218) (loc' := [some (.ref 89), some (.int x1), some (.int (f_93 Z x1))]) (stk' := [.int (f_93 Z x1), .int (x1 + 1)]) (fun _ _ _ => rfl) ?_
          refine zw_max rfl rfl ?_
          show zw fm sx (d + 7) 54 221 [some (.ref 89), some (.int x1), some (.int (f_93 Z x1))] [.int (zmax (x1 + 1) (f_93 Z x1))] (f_78 Z x1 (f_93 Z x1)) Q
          refine zw_run 1 (pc' := 222) (loc' := [some (.ref 89), some (.int (zmax (x1 + 1) (f_93 Z x1))), some (.int (f_93 Z x1))]) (stk' := []) (fun _ _ _ => rfl) ?_
          obtain ⟨x11, hx11⟩ : ∃ w : Int32, w = zmax (x1 + 1) (f_93 Z x1) := ⟨_, rfl⟩
          rw [← hx11]
          have H := oq_let H x11 hx11
          refine zw_run 1 (pc' := 6) (loc' := [some (.ref 89), some (.int x11), some (.int (f_93 Z x1))]) (stk' := []) (fun _ _ _ => rfl) ?_
          refine zw_fgt [true, true, false] rfl ?_
          exact ih (f_78 Z x1 (f_93 Z x1)) x11 H
        rw [if_neg c10] at H
        by_cases c12 : zt Z 61 x1 = 60
        · rw [if_pos c12] at H
          refine zw_run 1 (pc' := 154) (loc' := [some (.ref 89), some (.int x1), some (.int (x1 + 1))]) (stk' := []) (fun _ _ _ => by rw [c12]; rfl) ?_
          refine zw_run 2 (pc' := 156) (loc' := [some (.ref 89), some (.int x1), some (.int (x1 + 1))]) (stk' := [.int x1, .ref 89]) (fun _ _ _ => rfl) ?_
          refine zw_callf (As := [.ref 89, .int x1]) (rest := []) (c_60 x1 (d := d + 2)) rfl rfl rfl rfl ?_
          show zw fm sx (d + 7) 54 159 [some (.ref 89), some (.int x1), some (.int (x1 + 1))] [.int ((f_60 Z x1).1)] ((f_60 Z x1).2) Q
          refine zw_run 6 (pc' := 218) (loc' := [some (.ref 89), some (.int x1), some (.int ((f_60 Z x1).1))]) (stk' := [.int ((f_60 Z x1).1), .int (x1 + 1)]) (fun _ _ _ => rfl) ?_
          refine zw_max rfl rfl ?_
          show zw fm sx (d + 7) 54 221 [some (.ref 89), some (.int x1), some (.int ((f_60 Z x1).1))] [.int (zmax (x1 + 1) ((f_60 Z x1).1))] ((f_60 Z x1).2) Q
          refine zw_run 1 (pc' := 222) (loc' := [some (.ref 89), some (.int (zmax (x1 + 1) ((f_60 Z x1).1))), some (.int ((f_60 Z x1).1))]) (stk' := []) (fun _ _ _ => rfl) ?_
          obtain ⟨x13, hx13⟩ : ∃ w : Int32, w = zmax (x1 + 1) ((f_60 Z x1).1) := ⟨_, rfl⟩
          rw [← hx13]
          have H := oq_let H x13 hx13
          refine zw_run 1 (pc' := 6) (loc' := [some (.ref 89), some (.int x13), some (.int ((f_60 Z x1).1))]) (stk' := []) (fun _ _ _ => rfl) ?_
          refine zw_fgt [true, true, false] rfl ?_
          exact ih ((f_60 Z x1).2) x13 H
        rw [if_neg c12] at H
        by_cases c14 : zt Z 61 x1 = 91
        · rw [if_pos c14] at H
          refine zw_run 1 (pc' := 193) (loc' := [some (.ref 89), some (.int x1), some (.int (x1 + 1))]) (stk' := []) (fun _ _ _ => by rw [c14]; rfl) ?_
          refine zw_run 2 (pc' := 195) (loc' := [some (.ref 89), some (.int x1), some (.int (x1 + 1))]) (stk' := [.int x1, .ref 89]) (fun _ _ _ => rfl) ?_
          refine zw_callf (As := [.ref 89, .int x1]) (rest := []) (c_51 x1 (d := d + 3)) rfl rfl rfl rfl ?_
          show zw fm sx (d + 7) 54 198 [some (.ref 89), some (.int x1), some (.int (x1 + 1))] [.int ((f_51 Z x1).1)] ((f_51 Z x1).2) Q
          refine zw_run 6 (pc' := 218) (loc' := [some (.ref 89), some (.int x1), some (.int ((f_51 Z x1).1))]) (stk' := [.int ((f_51 Z x1).1), .int (x1 + 1)]) (fun _ _ _ => rfl) ?_
          refine zw_max rfl rfl ?_
          show zw fm sx (d + 7) 54 221 [some (.ref 89), some (.int x1), some (.int ((f_51 Z x1).1))] [.int (zmax (x1 + 1) ((f_51 Z x1).1))] ((f_51 Z x1).2) Q
          refine zw_run 1 (pc' := 222) (loc' := [some (.ref 89), some (.int (zmax (x1 + 1) ((f_51 Z x1).1))), some (.int ((f_51 Z x1).1))]) (stk' := []) (fun _ _ _ => rfl) ?_
          obtain ⟨x15, hx15⟩ : ∃ w : Int32, w = zmax (x1 + 1) ((f_51 Z x1).1) := ⟨_, rfl⟩
          rw [← hx15]
          have H := oq_let H x15 hx15
          refine zw_run 1 (pc' := 6) (loc' := [some (.ref 89), some (.int x15), some (.int ((f_51 Z x1).1))]) (stk' := []) (fun _ _ _ => rfl) ?_
          refine zw_fgt [true, true, false] rfl ?_
          exact ih ((f_51 Z x1).2) x15 H
        rw [if_neg c14] at H
        by_cases c16 : zt Z 61 x1 = 92
        · rw [if_pos c16] at H
          refine zw_run 1 (pc' := 136) (loc' := [some (.ref 89), some (.int x1), some (.int (x1 + 1))]) (stk' := []) (fun _ _ _ => by rw [c16]; rfl) ?_
          refine zw_run 2 (pc' := 138) (loc' := [some (.ref 89), some (.int x1), some (.int (x1 + 1))]) (stk' := [.int x1, .ref 89]) (fun _ _ _ => rfl) ?_
          refine zw_callf (As := [.ref 89, .int x1]) (rest := []) (c_57 x1 (d := d + 4)) rfl rfl rfl rfl ?_
          show zw fm sx (d + 7) 54 141 [some (.ref 89), some (.int x1), some (.int (x1 + 1))] [.int ((f_57 Z x1).1)] ((f_57 Z x1).2) Q
          refine zw_run 6 (pc' := 218) (loc' := [some (.ref 89), some (.int x1), some (.int ((f_57 Z x1).1))]) (stk' := [.int ((f_57 Z x1).1), .int (x1 + 1)]) (fun _ _ _ => rfl) ?_
          refine zw_max rfl rfl ?_
          show zw fm sx (d + 7) 54 221 [some (.ref 89), some (.int x1), some (.int ((f_57 Z x1).1))] [.int (zmax (x1 + 1) ((f_57 Z x1).1))] ((f_57 Z x1).2) Q
          refine zw_run 1 (pc' := 222) (loc' := [some (.ref 89), some (.int (zmax (x1 + 1) ((f_57 Z x1).1))), some (.int ((f_57 Z x1).1))]) (stk' := []) (fun _ _ _ => rfl) ?_
          obtain ⟨x17, hx17⟩ : ∃ w : Int32, w = zmax (x1 + 1) ((f_57 Z x1).1) := ⟨_, rfl⟩
          rw [← hx17]
          have H := oq_let H x17 hx17
          refine zw_run 1 (pc' := 6) (loc' := [some (.ref 89), some (.int x17), some (.int ((f_57 Z x1).1))]) (stk' := []) (fun _ _ _ => rfl) ?_
          refine zw_fgt [true, true, false] rfl ?_
          exact ih ((f_57 Z x1).2) x17 H
        rw [if_neg c16] at H
        by_cases c18 : zt Z 61 x1 = 93
        · rw [if_pos c18] at H
          refine zw_run 1 (pc' := 202) (loc' := [some (.ref 89), some (.int x1), some (.int (x1 + 1))]) (stk' := []) (fun _ _ _ => by rw [c18]; rfl) ?_
          refine zw_run 1 (pc' := 203) (loc' := [some (.ref 89), some (.int x1), some (.int (x1 + 1))]) (stk' := [.ref 89]) (fun _ _ _ => rfl) ?_
          refine zw_get (v := .ref 103) rfl rfl rfl ?_
          refine zw_run 1 (pc' := 207) (loc' := [some (.ref 89), some (.int x1), some (.int (x1 + 1))]) (stk' := [.int x1, .ref 103]) (fun _ _ _ => rfl) ?_
          obtain ⟨u19, hu19, H⟩ := oq_bind H
          refine zw_callf (As := [.ref 103, .int x1]) (rest := []) (c_29 hu x1 hu19 (d := d + 1)) rfl rfl rfl rfl ?_
          show zw fm sx (d + 7) 54 210 [some (.ref 89), some (.int x1), some (.int (x1 + 1))] [.int u19.1] u19.2 Q
          refine zw_run 6 (pc' := 218) (loc' := [some (.ref 89), some (.int x1), some (.int u19.1)]) (stk' := [.int u19.1, .int (x1 + 1)]) (fun _ _ _ => rfl) ?_
          refine zw_max rfl rfl ?_
          show zw fm sx (d + 7) 54 221 [some (.ref 89), some (.int x1), some (.int u19.1)] [.int (zmax (x1 + 1) u19.1)] u19.2 Q
          refine zw_run 2 (pc' := 6) (loc' := [some (.ref 89), some (.int (zmax (x1 + 1) u19.1)), some (.int u19.1)]) (stk' := []) (fun _ _ _ => rfl) ?_
          refine zw_fgt [true, true, false] rfl ?_
          exact ih u19.2 (zmax (x1 + 1) u19.1) H
        rw [if_neg c18] at H
        by_cases c20 : zt Z 61 x1 = 95
        · rw [if_pos c20] at H
          refine zw_run 1 (pc' := 172) (loc' := [some (.ref 89), some (.int x1), some (.int (x1 + 1))]) (stk' := []) (fun _ _ _ => by rw [c20]; rfl) ?_
          refine zw_run 1 (pc' := 173) (loc' := [some (.ref 89), some (.int x1), some (.int (x1 + 1))]) (stk' := [.ref 89]) (fun _ _ _ => rfl) ?_
          refine zw_get (v := .ref 63) rfl rfl rfl ?_
          refine zw_run 1 (pc' := 177) (loc' := [some (.ref 89), some (.int x1), some (.int (x1 + 1))]) (stk' := [.int x1, .ref 63]) (fun _ _ _ => rfl) ?_
          refine zw_callf (As := [.ref 63, .int x1]) (rest := []) (c_93 x1 (d := d + 5)) rfl rfl rfl rfl ?_
          show zw fm sx (d + 7) 54 180 [some (.ref 89), some (.int x1), some (.int (x1 + 1))] [.int (f_93 Z x1)] Z Q
          refine zw_run 2 (pc' := 182) (loc' := [some (.ref 89), some (.int x1), some (.int (f_93 Z x1))]) (stk' := [.ref 89]) (fun _ _ _ => rfl) ?_
          refine zw_get (v := .ref 90) rfl rfl rfl ?_
          refine zw_run 2 (pc' := 187) (loc' := [some (.ref 89), some (.int x1), some (.int (f_93 Z x1))]) (stk' := [.int (f_93 Z x1), .int x1, .ref 90]) (fun _ _ _ => rfl) ?_
          refine zw_callf (As := [.ref 90, .int x1, .int (f_93 Z x1)]) (rest := []) (c_78 x1 (f_93 Z x1) (d := d + 3)) rfl rfl rfl rfl ?_
          show zw fm sx (d + 7) 54 190 [some (.ref 89), some (.int x1), some (.int (f_93 Z x1))] [] (f_78 Z x1 (f_93 Z x1)) Q
          refine zw_run 5 (pc' := 218) (loc' := [some (.ref 89), some (.int x1), some (.int (f_93 Z x1))]) (stk' := [.int (f_93 Z x1), .int (x1 + 1)]) (fun _ _ _ => rfl) ?_
          refine zw_max rfl rfl ?_
          show zw fm sx (d + 7) 54 221 [some (.ref 89), some (.int x1), some (.int (f_93 Z x1))] [.int (zmax (x1 + 1) (f_93 Z x1))] (f_78 Z x1 (f_93 Z x1)) Q
          refine zw_run 1 (pc' := 222) (loc' := [some (.ref 89), some (.int (zmax (x1 + 1) (f_93 Z x1))), some (.int (f_93 Z x1))]) (stk' := []) (fun _ _ _ => rfl) ?_
          obtain ⟨x21, hx21⟩ : ∃ w : Int32, w = zmax (x1 + 1) (f_93 Z x1) := ⟨_, rfl⟩
          rw [← hx21]
          have H := oq_let H x21 hx21
          refine zw_run 1 (pc' := 6) (loc' := [some (.ref 89), some (.int x21), some (.int (f_93 Z x1))]) (stk' := []) (fun _ _ _ => rfl) ?_
          refine zw_fgt [true, true, false] rfl ?_
          exact ih (f_78 Z x1 (f_93 Z x1)) x21 H
        rw [if_neg c20] at H
        by_cases c22 : zt Z 61 x1 = 96
        · rw [if_pos c22] at H
          refine zw_run 1 (pc' := 145) (loc' := [some (.ref 89), some (.int x1), some (.int (x1 + 1))]) (stk' := []) (fun _ _ _ => by rw [c22]; rfl) ?_
          refine zw_run 2 (pc' := 147) (loc' := [some (.ref 89), some (.int x1), some (.int (x1 + 1))]) (stk' := [.int x1, .ref 89]) (fun _ _ _ => rfl) ?_
          obtain ⟨u23, hu23, H⟩ := oq_bind H
          refine zw_callf (As := [.ref 89, .int x1]) (rest := []) (c_58 hu x1 hu23 (d := d + 3)) rfl rfl rfl rfl ?_
          show zw fm sx (d + 7) 54 150 [some (.ref 89), some (.int x1), some (.int (x1 + 1))] [.int u23.1] u23.2 Q
          refine zw_run 6 (pc' := 218) (loc' := [some (.ref 89), some (.int x1), some (.int u23.1)]) (stk' := [.int u23.1, .int (x1 + 1)]) (fun _ _ _ => rfl) ?_
          refine zw_max rfl rfl ?_
          show zw fm sx (d + 7) 54 221 [some (.ref 89), some (.int x1), some (.int u23.1)] [.int (zmax (x1 + 1) u23.1)] u23.2 Q
          refine zw_run 2 (pc' := 6) (loc' := [some (.ref 89), some (.int (zmax (x1 + 1) u23.1)), some (.int u23.1)]) (stk' := []) (fun _ _ _ => rfl) ?_
          refine zw_fgt [true, true, false] rfl ?_
          exact ih u23.2 (zmax (x1 + 1) u23.1) H
        rw [if_neg c22] at H
        refine zw_lk (pc' := 214) (loc' := [some (.ref 89), some (.int x1), some (.int (x1 + 1))]) (stk' := []) rfl (am_lkd (fun q hq => ?_)) rfl ?_
        · simp only [List.mem_cons, List.not_mem_nil, or_false] at hq
          rcases hq with rfl | rfl | rfl | rfl | rfl | rfl | rfl | rfl | rfl | rfl
          · exact fun q => c5 (Int32.toInt_inj.mp q.symm)
          · exact fun q => c6 (Int32.toInt_inj.mp q.symm)
          · exact fun q => c8 (Int32.toInt_inj.mp q.symm)
          · exact fun q => c10 (Int32.toInt_inj.mp q.symm)
          · exact fun q => c12 (Int32.toInt_inj.mp q.symm)
          · exact fun q => c14 (Int32.toInt_inj.mp q.symm)
          · exact fun q => c16 (Int32.toInt_inj.mp q.symm)
          · exact fun q => c18 (Int32.toInt_inj.mp q.symm)
          · exact fun q => c20 (Int32.toInt_inj.mp q.symm)
          · exact fun q => c22 (Int32.toInt_inj.mp q.symm)
        refine zw_run 4 (pc' := 218) (loc' := [some (.ref 89), some (.int x1), some (.int (x1 + 1))]) (stk' := [.int (x1 + 1), .int (x1 + 1)]) (fun _ _ _ => rfl) ?_
        refine zw_max rfl rfl ?_
        show zw fm sx (d + 7) 54 221 [some (.ref 89), some (.int x1), some (.int (x1 + 1))] [.int (zmax (x1 + 1) (x1 + 1))] Z Q
        refine zw_run 2 (pc' := 6) (loc' := [some (.ref 89), some (.int (zmax (x1 + 1) (x1 + 1))), some (.int (x1 + 1))]) (stk' := []) (fun _ _ _ => rfl) ?_
        refine zw_fgt [true, true, false] rfl ?_
        exact ih Z (zmax (x1 + 1) (x1 + 1)) H
/-- MarkInlines$Reader.markAll -/
def o_54 (Z : zr_Z)  : Option zr_Z := g_54_6 oF (f_55 Z) 0
set_option maxRecDepth 100000 in
set_option maxHeartbeats 4000000 in
theorem t_54 {fm : Value} {sx : Nat × (Nat → Int32)} {d : Nat} {Z : zr_Z} {Q : Option Value → zr_Z → Prop} (hu : fm = .null ∨ ∃ q, fm = .ref q)  (H : oq (o_54 Z) (fun x => Q none x)) : zw fm sx (d + 7) 54 0 [some (.ref 89), none, none] [] Z Q := by
  unfold o_54 at H
  refine zw_run 1 (pc' := 1) (loc' := [some (.ref 89), none, none]) (stk' := [.ref 89]) (fun _ _ _ => rfl) ?_
  refine zw_callf (As := [.ref 89]) (rest := []) (c_55 (d := d + 2)) rfl rfl rfl rfl ?_
  show zw fm sx (d + 7) 54 4 [some (.ref 89), none, none] [] (f_55 Z) Q
  refine zw_run 2 (pc' := 6) (loc' := [some (.ref 89), some (.int 0), none]) (stk' := []) (fun _ _ _ => rfl) ?_
  exact l_54_6 hu _ (f_55 Z) 0 H
theorem c_54 {fm : Value} {sx : Nat × (Nat → Int32)} {d : Nat} {Z : zr_Z} (hu : fm = .null ∨ ∃ q, fm = .ref q)  {x : zr_Z} (hx : o_54 Z = some x) : zl fm sx (d + 8) 54 [.ref 89] Z (fun r Z' => r = none ∧ Z' = x) :=
  zl_of (nL := 3) (loc0 := [some (.ref 89), none, none]) rfl rfl rfl (t_54 hu ⟨x, hx, rfl, rfl⟩)
