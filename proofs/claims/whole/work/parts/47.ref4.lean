/-! walks into Option; written by wip/whole/gen_opt.py -/
/-- MarkInlinesModel.born -/
def o_150 (Z : zr_Z) (wh : Int32) (ho : Int32) : Option (Int32 × zr_Z) := (if inq 164 (zf Z 45) then (if inq 165 (zf Z 45) then (if inq 166 (zf Z 45) then (if inq 167 (zf Z 45) then (if inq 168 (zf Z 45) then (if inq 169 (zf Z 45) then (if inq 170 (zf Z 45) then (if (if ¬ ho = (-1) then (inq 171 ho ∧ True) else True) then (if inq 171 (zf Z 45) then (if inq 171 (zf Z 45) then (if (zv (zar (zar (zar (zar (zar (zar (zar (zar Z 164 (zf Z 45) wh) 165 (zf Z 45) ho) 166 (zf Z 45) 0) 167 (zf Z 45) 0) 168 (zf Z 45) 0) 169 (zf Z 45) 0) 170 (zf Z 45) (-1)) 171 (zf Z 45) (if ¬ ho = (-1) then ((zv Z 171 ho) + 1) else 1 : Int32)) 171 (zf Z 45)) ≤ 20 then some (((zf Z 45) + 1) - 1, zmf (zar (zar (zar (zar (zar (zar (zar (zar Z 164 (zf Z 45) wh) 165 (zf Z 45) ho) 166 (zf Z 45) 0) 167 (zf Z 45) 0) 168 (zf Z 45) 0) 169 (zf Z 45) 0) 170 (zf Z 45) (-1)) 171 (zf Z 45) (if ¬ ho = (-1) then ((zv Z 171 ho) + 1) else 1 : Int32)) 45 ((zf Z 45) + 1)) else (if ¬ (zf Z 46) = 0 then some (((zf Z 45) + 1) - 1, zmf (zar (zar (zar (zar (zar (zar (zar (zar Z 164 (zf Z 45) wh) 165 (zf Z 45) ho) 166 (zf Z 45) 0) 167 (zf Z 45) 0) 168 (zf Z 45) 0) 169 (zf Z 45) 0) 170 (zf Z 45) (-1)) 171 (zf Z 45) (if ¬ ho = (-1) then ((zv Z 171 ho) + 1) else 1 : Int32)) 45 ((zf Z 45) + 1)) else (Option.bind (o_148 (zar (zar (zar (zar (zar (zar (zar (zar Z 164 (zf Z 45) wh) 165 (zf Z 45) ho) 166 (zf Z 45) 0) 167 (zf Z 45) 0) 168 (zf Z 45) 0) 169 (zf Z 45) 0) 170 (zf Z 45) (-1)) 171 (zf Z 45) (if ¬ ho = (-1) then ((zv Z 171 ho) + 1) else 1 : Int32)) 3 (-1)) fun u16 => some (((zf u16 45) + 1) - 1, zmf u16 45 ((zf u16 45) + 1))))) else none) else none) else none) else none) else none) else none) else none) else none) else none) else none)
set_option maxRecDepth 100000 in
set_option maxHeartbeats 4000000 in
theorem t_150 {fm : Value} {sx : Nat × (Nat → Int32)} {d : Nat} {Z : zr_Z} {Q : Option Value → zr_Z → Prop} (hu : fm = .null ∨ ∃ q, fm = .ref q) (wh : Int32) (ho : Int32) (H : oq (o_150 Z wh ho) (fun x => Q (some (.int x.1)) x.2)) : zw fm sx (d + 1) 150 0 [some (.ref 136), some (.int wh), some (.int ho)] [] Z Q := by
  unfold o_150 at H
  refine zw_run 1 (pc' := 1) (loc' := [some (.ref 136), some (.int wh), some (.int ho)]) (stk' := [.ref 136]) (fun _ _ _ => rfl) ?_
  refine zw_mget (v := .ref 164) rfl rfl ?_
  refine zw_run 1 (pc' := 5) (loc' := [some (.ref 136), some (.int wh), some (.int ho)]) (stk' := [.ref 136, .ref 164]) (fun _ _ _ => rfl) ?_
  refine zw_mget (v := .int (zf Z 45)) rfl rfl ?_
  refine zw_run 1 (pc' := 9) (loc' := [some (.ref 136), some (.int wh), some (.int ho)]) (stk' := [.int wh, .int (zf Z 45), .ref 164]) (fun _ _ _ => rfl) ?_
  obtain ⟨b1, H⟩ := oq_ob H
  refine zw_iast (j := 164) rfl (by decide) (by decide) rfl b1 ?_
  show zw fm sx (d + 1) 150 10 [some (.ref 136), some (.int wh), some (.int ho)] [] (zar Z 164 (zf Z 45) wh) Q
  refine zw_run 1 (pc' := 11) (loc' := [some (.ref 136), some (.int wh), some (.int ho)]) (stk' := [.ref 136]) (fun _ _ _ => rfl) ?_
  refine zw_mget (v := .ref 165) rfl rfl ?_
  refine zw_run 1 (pc' := 15) (loc' := [some (.ref 136), some (.int wh), some (.int ho)]) (stk' := [.ref 136, .ref 165]) (fun _ _ _ => rfl) ?_
  refine zw_mget (v := .int (zf Z 45)) rfl rfl ?_
  refine zw_run 1 (pc' := 19) (loc' := [some (.ref 136), some (.int wh), some (.int ho)]) (stk' := [.int ho, .int (zf Z 45), .ref 165]) (fun _ _ _ => rfl) ?_
  obtain ⟨b2, H⟩ := oq_ob H
  refine zw_iast (j := 165) rfl (by decide) (by decide) rfl b2 ?_
  show zw fm sx (d + 1) 150 20 [some (.ref 136), some (.int wh), some (.int ho)] [] (zar (zar Z 164 (zf Z 45) wh) 165 (zf Z 45) ho) Q
  refine zw_run 1 (pc' := 21) (loc' := [some (.ref 136), some (.int wh), some (.int ho)]) (stk' := [.ref 136]) (fun _ _ _ => rfl) ?_
  refine zw_mget (v := .ref 166) rfl rfl ?_
  refine zw_run 1 (pc' := 25) (loc' := [some (.ref 136), some (.int wh), some (.int ho)]) (stk' := [.ref 136, .ref 166]) (fun _ _ _ => rfl) ?_
  refine zw_mget (v := .int (zf Z 45)) rfl rfl ?_
  refine zw_run 1 (pc' := 29) (loc' := [some (.ref 136), some (.int wh), some (.int ho)]) (stk' := [.int 0, .int (zf Z 45), .ref 166]) (fun _ _ _ => rfl) ?_
  obtain ⟨b3, H⟩ := oq_ob H
  refine zw_iast (j := 166) rfl (by decide) (by decide) rfl b3 ?_
  show zw fm sx (d + 1) 150 30 [some (.ref 136), some (.int wh), some (.int ho)] [] (zar (zar (zar Z 164 (zf Z 45) wh) 165 (zf Z 45) ho) 166 (zf Z 45) 0) Q
  refine zw_run 1 (pc' := 31) (loc' := [some (.ref 136), some (.int wh), some (.int ho)]) (stk' := [.ref 136]) (fun _ _ _ => rfl) ?_
  refine zw_mget (v := .ref 167) rfl rfl ?_
  refine zw_run 1 (pc' := 35) (loc' := [some (.ref 136), some (.int wh), some (.int ho)]) (stk' := [.ref 136, .ref 167]) (fun _ _ _ => rfl) ?_
  refine zw_mget (v := .int (zf Z 45)) rfl rfl ?_
  refine zw_run 1 (pc' := 39) (loc' := [some (.ref 136), some (.int wh), some (.int ho)]) (stk' := [.int 0, .int (zf Z 45), .ref 167]) (fun _ _ _ => rfl) ?_
  obtain ⟨b4, H⟩ := oq_ob H
  refine zw_iast (j := 167) rfl (by decide) (by decide) rfl b4 ?_
  show zw fm sx (d + 1) 150 40 [some (.ref 136), some (.int wh), some (.int ho)] [] (zar (zar (zar (zar Z 164 (zf Z 45) wh) 165 (zf Z 45) ho) 166 (zf Z 45) 0) 167 (zf Z 45) 0) Q
  refine zw_run 1 (pc' := 41) (loc' := [some (.ref 136), some (.int wh), some (.int ho)]) (stk' := [.ref 136]) (fun _ _ _ => rfl) ?_
  refine zw_mget (v := .ref 168) rfl rfl ?_
  refine zw_run 1 (pc' := 45) (loc' := [some (.ref 136), some (.int wh), some (.int ho)]) (stk' := [.ref 136, .ref 168]) (fun _ _ _ => rfl) ?_
  refine zw_mget (v := .int (zf Z 45)) rfl rfl ?_
  refine zw_run 1 (pc' := 49) (loc' := [some (.ref 136), some (.int wh), some (.int ho)]) (stk' := [.int 0, .int (zf Z 45), .ref 168]) (fun _ _ _ => rfl) ?_
  obtain ⟨b5, H⟩ := oq_ob H
  refine zw_iast (j := 168) rfl (by decide) (by decide) rfl b5 ?_
  show zw fm sx (d + 1) 150 50 [some (.ref 136), some (.int wh), some (.int ho)] [] (zar (zar (zar (zar (zar Z 164 (zf Z 45) wh) 165 (zf Z 45) ho) 166 (zf Z 45) 0) 167 (zf Z 45) 0) 168 (zf Z 45) 0) Q
  refine zw_run 1 (pc' := 51) (loc' := [some (.ref 136), some (.int wh), some (.int ho)]) (stk' := [.ref 136]) (fun _ _ _ => rfl) ?_
  refine zw_mget (v := .ref 169) rfl rfl ?_
  refine zw_run 1 (pc' := 55) (loc' := [some (.ref 136), some (.int wh), some (.int ho)]) (stk' := [.ref 136, .ref 169]) (fun _ _ _ => rfl) ?_
  refine zw_mget (v := .int (zf Z 45)) rfl rfl ?_
  refine zw_run 1 (pc' := 59) (loc' := [some (.ref 136), some (.int wh), some (.int ho)]) (stk' := [.int 0, .int (zf Z 45), .ref 169]) (fun _ _ _ => rfl) ?_
  obtain ⟨b6, H⟩ := oq_ob H
  refine zw_iast (j := 169) rfl (by decide) (by decide) rfl b6 ?_
  show zw fm sx (d + 1) 150 60 [some (.ref 136), some (.int wh), some (.int ho)] [] (zar (zar (zar (zar (zar (zar Z 164 (zf Z 45) wh) 165 (zf Z 45) ho) 166 (zf Z 45) 0) 167 (zf Z 45) 0) 168 (zf Z 45) 0) 169 (zf Z 45) 0) Q
  refine zw_run 1 (pc' := 61) (loc' := [some (.ref 136), some (.int wh), some (.int ho)]) (stk' := [.ref 136]) (fun _ _ _ => rfl) ?_
  refine zw_mget (v := .ref 170) rfl rfl ?_
  refine zw_run 1 (pc' := 65) (loc' := [some (.ref 136), some (.int wh), some (.int ho)]) (stk' := [.ref 136, .ref 170]) (fun _ _ _ => rfl) ?_
  refine zw_mget (v := .int (zf Z 45)) rfl rfl ?_
  refine zw_run 1 (pc' := 69) (loc' := [some (.ref 136), some (.int wh), some (.int ho)]) (stk' := [.int (-1), .int (zf Z 45), .ref 170]) (fun _ _ _ => rfl) ?_
  obtain ⟨b7, H⟩ := oq_ob H
  refine zw_iast (j := 170) rfl (by decide) (by decide) rfl b7 ?_
  show zw fm sx (d + 1) 150 70 [some (.ref 136), some (.int wh), some (.int ho)] [] (zar (zar (zar (zar (zar (zar (zar Z 164 (zf Z 45) wh) 165 (zf Z 45) ho) 166 (zf Z 45) 0) 167 (zf Z 45) 0) 168 (zf Z 45) 0) 169 (zf Z 45) 0) 170 (zf Z 45) (-1)) Q
  refine zw_run 1 (pc' := 71) (loc' := [some (.ref 136), some (.int wh), some (.int ho)]) (stk' := [.ref 136]) (fun _ _ _ => rfl) ?_
  refine zw_mget (v := .ref 171) rfl rfl ?_
  refine zw_run 1 (pc' := 75) (loc' := [some (.ref 136), some (.int wh), some (.int ho)]) (stk' := [.ref 136, .ref 171]) (fun _ _ _ => rfl) ?_
  refine zw_mget (v := .int (zf Z 45)) rfl rfl ?_
  refine zw_run 2 (pc' := 80) (loc' := [some (.ref 136), some (.int wh), some (.int ho)]) (stk' := [.int (-1), .int ho, .int (zf Z 45), .ref 171]) (fun _ _ _ => rfl) ?_
  obtain ⟨HR, H⟩ := oq_ob H
  have J11 : ∀ (v10 : Int32), v10 = (if ¬ ho = (-1) then ((zv Z 171 ho) + 1) else 1 : Int32) → zw fm sx (d + 1) 150 95 [some (.ref 136), some (.int wh), some (.int ho)] [.int v10, .int (zf Z 45), .ref 171] (zar (zar (zar (zar (zar (zar (zar Z 164 (zf Z 45) wh) 165 (zf Z 45) ho) 166 (zf Z 45) 0) 167 (zf Z 45) 0) 168 (zf Z 45) 0) 169 (zf Z 45) 0) 170 (zf Z 45) (-1)) Q := by
    intro v10 ev10
    subst ev10
    obtain ⟨b12, H⟩ := oq_ob H
    refine zw_iast (j := 171) rfl (by decide) (by decide) rfl b12 ?_
    show zw fm sx (d + 1) 150 96 [some (.ref 136), some (.int wh), some (.int ho)] [] (zar (zar (zar (zar (zar (zar (zar (zar Z 164 (zf Z 45) wh) 165 (zf Z 45) ho) 166 (zf Z 45) 0) 167 (zf Z 45) 0) 168 (zf Z 45) 0) 169 (zf Z 45) 0) 170 (zf Z 45) (-1)) 171 (zf Z 45) (if ¬ ho = (-1) then ((zv Z 171 ho) + 1) else 1 : Int32)) Q
    refine zw_run 1 (pc' := 97) (loc' := [some (.ref 136), some (.int wh), some (.int ho)]) (stk' := [.ref 136]) (fun _ _ _ => rfl) ?_
    refine zw_mget (v := .ref 171) rfl rfl ?_
    refine zw_run 1 (pc' := 101) (loc' := [some (.ref 136), some (.int wh), some (.int ho)]) (stk' := [.ref 136, .ref 171]) (fun _ _ _ => rfl) ?_
    refine zw_mget (v := .int (zf Z 45)) rfl rfl ?_
    obtain ⟨b13, H⟩ := oq_ob H
    refine zw_iald (j := 171) rfl (by decide) (by decide) rfl b13 ?_
    refine zw_run 1 (pc' := 107) (loc' := [some (.ref 136), some (.int wh), some (.int ho)]) (stk' := [.int 20, .int (zv (zar (zar (zar (zar (zar (zar (zar (zar Z 164 (zf Z 45) wh) 165 (zf Z 45) ho) 166 (zf Z 45) 0) 167 (zf Z 45) 0) 168 (zf Z 45) 0) 169 (zf Z 45) 0) 170 (zf Z 45) (-1)) 171 (zf Z 45) (if ¬ ho = (-1) then ((zv Z 171 ho) + 1) else 1 : Int32)) 171 (zf Z 45))]) (fun _ _ _ => rfl) ?_
    refine zw_br (c := (zv (zar (zar (zar (zar (zar (zar (zar (zar Z 164 (zf Z 45) wh) 165 (zf Z 45) ho) 166 (zf Z 45) 0) 167 (zf Z 45) 0) 168 (zf Z 45) 0) 169 (zf Z 45) 0) 170 (zf Z 45) (-1)) 171 (zf Z 45) (if ¬ ho = (-1) then ((zv Z 171 ho) + 1) else 1 : Int32)) 171 (zf Z 45)) ≤ 20) (t1 := 123) (t2 := 110) (loc' := [some (.ref 136), some (.int wh), some (.int ho)]) (stk' := []) (fun _ _ _ => rfl) (fun c14 => ?_) (fun c14 => ?_)
    · rw [if_pos c14] at H
      refine zw_run 2 (pc' := 125) (loc' := [some (.ref 136), some (.int wh), some (.int ho)]) (stk' := [.ref 136, .ref 136]) (fun _ _ _ => rfl) ?_
      refine zw_mget (v := .int (zf Z 45)) rfl rfl ?_
      refine zw_run 2 (pc' := 130) (loc' := [some (.ref 136), some (.int wh), some (.int ho)]) (stk' := [.int ((zf Z 45) + 1), .ref 136]) (fun _ _ _ => rfl) ?_
      refine zw_mput rfl rfl rfl rfl ?_
      show zw fm sx (d + 1) 150 133 [some (.ref 136), some (.int wh), some (.int ho)] [] (zmf (zar (zar (zar (zar (zar (zar (zar (zar Z 164 (zf Z 45) wh) 165 (zf Z 45) ho) 166 (zf Z 45) 0) 167 (zf Z 45) 0) 168 (zf Z 45) 0) 169 (zf Z 45) 0) 170 (zf Z 45) (-1)) 171 (zf Z 45) (if ¬ ho = (-1) then ((zv Z 171 ho) + 1) else 1 : Int32)) 45 ((zf Z 45) + 1)) Q
      refine zw_run 1 (pc' := 134) (loc' := [some (.ref 136), some (.int wh), some (.int ho)]) (stk' := [.ref 136]) (fun _ _ _ => rfl) ?_
      refine zw_mget (v := .int ((zf Z 45) + 1)) rfl rfl ?_
      refine zw_run 2 (pc' := 139) (loc' := [some (.ref 136), some (.int wh), some (.int ho)]) (stk' := [.int (((zf Z 45) + 1) - 1)]) (fun _ _ _ => rfl) ?_
      refine zw_reti (i := .nop) rfl rfl ?_
      have H := oq_some H
      exact H
    · rw [if_neg c14] at H
      refine zw_run 1 (pc' := 111) (loc' := [some (.ref 136), some (.int wh), some (.int ho)]) (stk' := [.ref 136]) (fun _ _ _ => rfl) ?_
      refine zw_mget (v := .int (zf Z 46)) rfl rfl ?_
      refine zw_br (c := ¬ (zf Z 46) = 0) (t1 := 123) (t2 := 117) (loc' := [some (.ref 136), some (.int wh), some (.int ho)]) (stk' := []) (fun _ _ _ => rfl) (fun c15 => ?_) (fun c15 => ?_)
      · rw [if_pos c15] at H
        refine zw_run 2 (pc' := 125) (loc' := [some (.ref 136), some (.int wh), some (.int ho)]) (stk' := [.ref 136, .ref 136]) (fun _ _ _ => rfl) ?_
        refine zw_mget (v := .int (zf Z 45)) rfl rfl ?_
        refine zw_run 2 (pc' := 130) (loc' := [some (.ref 136), some (.int wh), some (.int ho)]) (stk' := [.int ((zf Z 45) + 1), .ref 136]) (fun _ _ _ => rfl) ?_
        refine zw_mput rfl rfl rfl rfl ?_
        show zw fm sx (d + 1) 150 133 [some (.ref 136), some (.int wh), some (.int ho)] [] (zmf (zar (zar (zar (zar (zar (zar (zar (zar Z 164 (zf Z 45) wh) 165 (zf Z 45) ho) 166 (zf Z 45) 0) 167 (zf Z 45) 0) 168 (zf Z 45) 0) 169 (zf Z 45) 0) 170 (zf Z 45) (-1)) 171 (zf Z 45) (if ¬ ho = (-1) then ((zv Z 171 ho) + 1) else 1 : Int32)) 45 ((zf Z 45) + 1)) Q
        refine zw_run 1 (pc' := 134) (loc' := [some (.ref 136), some (.int wh), some (.int ho)]) (stk' := [.ref 136]) (fun _ _ _ => rfl) ?_
        refine zw_mget (v := .int ((zf Z 45) + 1)) rfl rfl ?_
        refine zw_run 2 (pc' := 139) (loc' := [some (.ref 136), some (.int wh), some (.int ho)]) (stk' := [.int (((zf Z 45) + 1) - 1)]) (fun _ _ _ => rfl) ?_
        refine zw_reti (i := .nop) rfl rfl ?_
        have H := oq_some H
        exact H
      · rw [if_neg c15] at H
        refine zw_run 3 (pc' := 120) (loc' := [some (.ref 136), some (.int wh), some (.int ho)]) (stk' := [.int (-1), .int 3, .ref 136]) (fun _ _ _ => rfl) ?_
        obtain ⟨u16, hu16, H⟩ := oq_bind H
        refine zw_callf (As := [.ref 136, .int 3, .int (-1)]) (rest := []) (c_148 hu 3 (-1) hu16 (d := d + 0)) rfl rfl rfl rfl ?_
        show zw fm sx (d + 1) 150 123 [some (.ref 136), some (.int wh), some (.int ho)] [] u16 Q
        refine zw_run 2 (pc' := 125) (loc' := [some (.ref 136), some (.int wh), some (.int ho)]) (stk' := [.ref 136, .ref 136]) (fun _ _ _ => rfl) ?_
        refine zw_mget (v := .int (zf u16 45)) rfl rfl ?_
        refine zw_run 2 (pc' := 130) (loc' := [some (.ref 136), some (.int wh), some (.int ho)]) (stk' := [.int ((zf u16 45) + 1), .ref 136]) (fun _ _ _ => rfl) ?_
        refine zw_mput rfl rfl rfl rfl ?_
        show zw fm sx (d + 1) 150 133 [some (.ref 136), some (.int wh), some (.int ho)] [] (zmf u16 45 ((zf u16 45) + 1)) Q
        refine zw_run 1 (pc' := 134) (loc' := [some (.ref 136), some (.int wh), some (.int ho)]) (stk' := [.ref 136]) (fun _ _ _ => rfl) ?_
        refine zw_mget (v := .int ((zf u16 45) + 1)) rfl rfl ?_
        refine zw_run 2 (pc' := 139) (loc' := [some (.ref 136), some (.int wh), some (.int ho)]) (stk' := [.int (((zf u16 45) + 1) - 1)]) (fun _ _ _ => rfl) ?_
        refine zw_reti (i := .nop) rfl rfl ?_
        have H := oq_some H
        exact H
  clear H
  have H := HR
  refine zw_br (c := ¬ ho = (-1)) (t1 := 87) (t2 := 83) (loc' := [some (.ref 136), some (.int wh), some (.int ho)]) (stk' := [.int (zf Z 45), .ref 171]) (fun _ _ _ => rfl) (fun c8 => ?_) (fun c8 => ?_)
  · rw [if_pos c8] at H
    refine zw_run 1 (pc' := 88) (loc' := [some (.ref 136), some (.int wh), some (.int ho)]) (stk' := [.ref 136, .int (zf Z 45), .ref 171]) (fun _ _ _ => rfl) ?_
    refine zw_mget (v := .ref 171) rfl rfl ?_
    refine zw_run 1 (pc' := 92) (loc' := [some (.ref 136), some (.int wh), some (.int ho)]) (stk' := [.int ho, .ref 171, .int (zf Z 45), .ref 171]) (fun _ _ _ => rfl) ?_
    obtain ⟨b9, H⟩ := H
    refine zw_iald (j := 171) rfl (by decide) (by decide) rfl b9 ?_
    refine zw_run 2 (pc' := 95) (loc' := [some (.ref 136), some (.int wh), some (.int ho)]) (stk' := [.int ((zv Z 171 ho) + 1), .int (zf Z 45), .ref 171]) (fun _ _ _ => rfl) ?_
    exact J11 _ (by first | (rw [if_pos c8]; done) | (rw [if_pos c8]; rfl) | (clear H J11; simp_all [bI]; done))
  · rw [if_neg c8] at H
    refine zw_run 2 (pc' := 95) (loc' := [some (.ref 136), some (.int wh), some (.int ho)]) (stk' := [.int 1, .int (zf Z 45), .ref 171]) (fun _ _ _ => rfl) ?_
    exact J11 _ (by first | (rw [if_neg c8]; done) | (rw [if_neg c8]; rfl) | (clear H J11; simp_all [bI]; done))
theorem c_150 {fm : Value} {sx : Nat × (Nat → Int32)} {d : Nat} {Z : zr_Z} (hu : fm = .null ∨ ∃ q, fm = .ref q) (wh : Int32) (ho : Int32) {x : Int32 × zr_Z} (hx : o_150 Z wh ho = some x) : zl fm sx (d + 2) 150 [.ref 136, .int wh, .int ho] Z (fun r Z' => r = some (.int x.1) ∧ Z' = x.2) :=
  zl_of (nL := 3) (loc0 := [some (.ref 136), some (.int wh), some (.int ho)]) rfl rfl rfl (t_150 hu wh ho ⟨x, hx, rfl, rfl⟩)
/-- MarkInlinesModel.spell -/
def o_151 (Z : zr_Z) (c : Int32) (a : Int32) (ho : Int32) : Option (Int32 × zr_Z) := (if ¬ a = (-1) then (Option.bind (o_122 Z c) fun u2 => (if inq 167 a then (if inq 167 a then some (a, zar u2 167 a ((zv u2 167 a) + 1)) else none) else none)) else (Option.bind (o_150 Z 0 ho) fun u5 => (if inq 166 u5.1 then (Option.bind (o_122 (zar u5.2 166 u5.1 (zf u5.2 10)) c) fun u7 => (if inq 167 u5.1 then (if inq 167 u5.1 then some (u5.1, zar u7 167 u5.1 ((zv u7 167 u5.1) + 1)) else none) else none)) else none)))
set_option maxRecDepth 100000 in
set_option maxHeartbeats 4000000 in
theorem t_151 {fm : Value} {sx : Nat × (Nat → Int32)} {d : Nat} {Z : zr_Z} {Q : Option Value → zr_Z → Prop} (hu : fm = .null ∨ ∃ q, fm = .ref q) (c : Int32) (a : Int32) (ho : Int32) (H : oq (o_151 Z c a ho) (fun x => Q (some (.int x.1)) x.2)) : zw fm sx (d + 2) 151 0 [some (.ref 136), some (.int c), some (.int a), some (.int ho), none] [] Z Q := by
  unfold o_151 at H
  refine zw_run 4 (pc' := 6) (loc' := [some (.ref 136), some (.int c), some (.int a), some (.int ho), some (.int a)]) (stk' := [.int (-1), .int a]) (fun _ _ _ => rfl) ?_
  refine zw_br (c := ¬ a = (-1)) (t1 := 28) (t2 := 9) (loc' := [some (.ref 136), some (.int c), some (.int a), some (.int ho), some (.int a)]) (stk' := []) (fun _ _ _ => rfl) (fun c1 => ?_) (fun c1 => ?_)
  · rw [if_pos c1] at H
    refine zw_run 2 (pc' := 30) (loc' := [some (.ref 136), some (.int c), some (.int a), some (.int ho), some (.int a)]) (stk' := [.int c, .ref 136]) (fun _ _ _ => rfl) ?_
    obtain ⟨u2, hu2, H⟩ := oq_bind H
    refine zw_callf (As := [.ref 136, .int c]) (rest := []) (c_122 hu c hu2 (d := d + 1)) rfl rfl rfl rfl ?_
    show zw fm sx (d + 2) 151 33 [some (.ref 136), some (.int c), some (.int a), some (.int ho), some (.int a)] [] u2 Q
    refine zw_run 1 (pc' := 34) (loc' := [some (.ref 136), some (.int c), some (.int a), some (.int ho), some (.int a)]) (stk' := [.ref 136]) (fun _ _ _ => rfl) ?_
    refine zw_mget (v := .ref 167) rfl rfl ?_
    refine zw_run 2 (pc' := 40) (loc' := [some (.ref 136), some (.int c), some (.int a), some (.int ho), some (.int a)]) (stk' := [.int a, .ref 167, .int a, .ref 167]) (fun _ _ _ => rfl) ?_
    obtain ⟨b3, H⟩ := oq_ob H
    refine zw_iald (j := 167) rfl (by decide) (by decide) rfl b3 ?_
    refine zw_run 2 (pc' := 43) (loc' := [some (.ref 136), some (.int c), some (.int a), some (.int ho), some (.int a)]) (stk' := [.int ((zv u2 167 a) + 1), .int a, .ref 167]) (fun _ _ _ => rfl) ?_
    obtain ⟨b4, H⟩ := oq_ob H
    refine zw_iast (j := 167) rfl (by decide) (by decide) rfl b4 ?_
    show zw fm sx (d + 2) 151 44 [some (.ref 136), some (.int c), some (.int a), some (.int ho), some (.int a)] [] (zar u2 167 a ((zv u2 167 a) + 1)) Q
    refine zw_run 1 (pc' := 46) (loc' := [some (.ref 136), some (.int c), some (.int a), some (.int ho), some (.int a)]) (stk' := [.int a]) (fun _ _ _ => rfl) ?_
    refine zw_reti (i := .nop) rfl rfl ?_
    have H := oq_some H
    exact H
  · rw [if_neg c1] at H
    refine zw_run 3 (pc' := 12) (loc' := [some (.ref 136), some (.int c), some (.int a), some (.int ho), some (.int a)]) (stk' := [.int ho, .int 0, .ref 136]) (fun _ _ _ => rfl) ?_
    obtain ⟨u5, hu5, H⟩ := oq_bind H
    refine zw_callf (As := [.ref 136, .int 0, .int ho]) (rest := []) (c_150 hu 0 ho hu5 (d := d + 0)) rfl rfl rfl rfl ?_
    show zw fm sx (d + 2) 151 15 [some (.ref 136), some (.int c), some (.int a), some (.int ho), some (.int a)] [.int u5.1] u5.2 Q
    refine zw_run 2 (pc' := 18) (loc' := [some (.ref 136), some (.int c), some (.int a), some (.int ho), some (.int u5.1)]) (stk' := [.ref 136]) (fun _ _ _ => rfl) ?_
    refine zw_mget (v := .ref 166) rfl rfl ?_
    refine zw_run 2 (pc' := 24) (loc' := [some (.ref 136), some (.int c), some (.int a), some (.int ho), some (.int u5.1)]) (stk' := [.ref 136, .int u5.1, .ref 166]) (fun _ _ _ => rfl) ?_
    refine zw_mget (v := .int (zf u5.2 10)) rfl rfl ?_
    obtain ⟨b6, H⟩ := oq_ob H
    refine zw_iast (j := 166) rfl (by decide) (by decide) rfl b6 ?_
    show zw fm sx (d + 2) 151 28 [some (.ref 136), some (.int c), some (.int a), some (.int ho), some (.int u5.1)] [] (zar u5.2 166 u5.1 (zf u5.2 10)) Q
    refine zw_run 2 (pc' := 30) (loc' := [some (.ref 136), some (.int c), some (.int a), some (.int ho), some (.int u5.1)]) (stk' := [.int c, .ref 136]) (fun _ _ _ => rfl) ?_
    obtain ⟨u7, hu7, H⟩ := oq_bind H
    refine zw_callf (As := [.ref 136, .int c]) (rest := []) (c_122 hu c hu7 (d := d + 1)) rfl rfl rfl rfl ?_
    show zw fm sx (d + 2) 151 33 [some (.ref 136), some (.int c), some (.int a), some (.int ho), some (.int u5.1)] [] u7 Q
    refine zw_run 1 (pc' := 34) (loc' := [some (.ref 136), some (.int c), some (.int a), some (.int ho), some (.int u5.1)]) (stk' := [.ref 136]) (fun _ _ _ => rfl) ?_
    refine zw_mget (v := .ref 167) rfl rfl ?_
    refine zw_run 2 (pc' := 40) (loc' := [some (.ref 136), some (.int c), some (.int a), some (.int ho), some (.int u5.1)]) (stk' := [.int u5.1, .ref 167, .int u5.1, .ref 167]) (fun _ _ _ => rfl) ?_
    obtain ⟨b8, H⟩ := oq_ob H
    refine zw_iald (j := 167) rfl (by decide) (by decide) rfl b8 ?_
    refine zw_run 2 (pc' := 43) (loc' := [some (.ref 136), some (.int c), some (.int a), some (.int ho), some (.int u5.1)]) (stk' := [.int ((zv u7 167 u5.1) + 1), .int u5.1, .ref 167]) (fun _ _ _ => rfl) ?_
    obtain ⟨b9, H⟩ := oq_ob H
    refine zw_iast (j := 167) rfl (by decide) (by decide) rfl b9 ?_
    show zw fm sx (d + 2) 151 44 [some (.ref 136), some (.int c), some (.int a), some (.int ho), some (.int u5.1)] [] (zar u7 167 u5.1 ((zv u7 167 u5.1) + 1)) Q
    refine zw_run 1 (pc' := 46) (loc' := [some (.ref 136), some (.int c), some (.int a), some (.int ho), some (.int u5.1)]) (stk' := [.int u5.1]) (fun _ _ _ => rfl) ?_
    refine zw_reti (i := .nop) rfl rfl ?_
    have H := oq_some H
    exact H
theorem c_151 {fm : Value} {sx : Nat × (Nat → Int32)} {d : Nat} {Z : zr_Z} (hu : fm = .null ∨ ∃ q, fm = .ref q) (c : Int32) (a : Int32) (ho : Int32) {x : Int32 × zr_Z} (hx : o_151 Z c a ho = some x) : zl fm sx (d + 3) 151 [.ref 136, .int c, .int a, .int ho] Z (fun r Z' => r = some (.int x.1) ∧ Z' = x.2) :=
  zl_of (nL := 5) (loc0 := [some (.ref 136), some (.int c), some (.int a), some (.int ho), none]) rfl rfl rfl (t_151 hu c a ho ⟨x, hx, rfl, rfl⟩)
/-- MarkInlinesModel.gather, its loop at 65 -/
def g_152_65 : Nat → zr_Z → Int32 → Int32 → Int32 → Int32 → Int32 → (zr_Z → Int32 → Int32 → Int32 → Int32 → Option zr_Z) → Option zr_Z
  | 0, _, _, _, _, _, _, _ => none
  | n + 1, Z, x1, x2, x3, x4, x6, K19 => (if inq 154 x3 then (if (zv Z 154 x3) ≤ x6 then (if inq 150 x4 then K19 Z x1 x2 (x3 + 1) (zv Z 150 x4) else none) else (if inq 144 x4 then (Option.bind (o_151 Z (zv Z 144 x4) x2 x1) fun u5 => g_152_65 n u5.2 x1 u5.1 x3 x4 (x6 + 1) K19) else none)) else none)
set_option maxRecDepth 100000 in
set_option maxHeartbeats 4000000 in
theorem l_152_65 {fm : Value} {sx : Nat × (Nat → Int32)} {d : Nat} {Q : Option Value → zr_Z → Prop} (hu : fm = .null ∨ ∃ q, fm = .ref q)  (K19 : zr_Z → Int32 → Int32 → Int32 → Int32 → Option zr_Z) (HK19 : ∀ (Z : zr_Z) (x1 : Int32) (x2 : Int32) (x3 : Int32) (x4 : Int32), oq (K19 Z x1 x2 x3 x4) (fun x => Q none x) → zw fm sx (d + 3) 152 19 [some (.ref 136), some (.int x1), some (.int x2), some (.int x3), some (.int x4), none, none] [] Z Q) : ∀ (n : Nat) (Z : zr_Z) (x1 : Int32) (x2 : Int32) (x3 : Int32) (x4 : Int32) (x6 : Int32), oq (g_152_65 n Z x1 x2 x3 x4 x6 K19) (fun x => Q none x) → zw fm sx (d + 3) 152 65 [some (.ref 136), some (.int x1), some (.int x2), some (.int x3), some (.int x4), none, some (.int x6)] [] Z Q := by
  intro n
  induction n with
  | zero => intro Z x1 x2 x3 x4 x6 H; exact absurd H oq_none
  | succ n ih =>
    intro Z x1 x2 x3 x4 x6 H
    unfold g_152_65 at H
    refine zw_run 2 (pc' := 68) (loc' := [some (.ref 136), some (.int x1), some (.int x2), some (.int x3), some (.int x4), none, some (.int x6)]) (stk' := [.ref 136, .int x6]) (fun _ _ _ => rfl) ?_
    refine zw_mget (v := .ref 154) rfl rfl ?_
    refine zw_run 1 (pc' := 72) (loc' := [some (.ref 136), some (.int x1), some (.int x2), some (.int x3), some (.int x4), none, some (.int x6)]) (stk' := [.int x3, .ref 154, .int x6]) (fun _ _ _ => rfl) ?_
    obtain ⟨b1, H⟩ := oq_ob H
    refine zw_iald (j := 154) rfl (by decide) (by decide) rfl b1 ?_
    refine zw_br (c := (zv Z 154 x3) ≤ x6) (t1 := 96) (t2 := 76) (loc' := [some (.ref 136), some (.int x1), some (.int x2), some (.int x3), some (.int x4), none, some (.int x6)]) (stk' := []) (fun _ _ _ => rfl) (fun c2 => ?_) (fun c2 => ?_)
    · rw [if_pos c2] at H
      refine zw_run 3 (pc' := 259) (loc' := [some (.ref 136), some (.int x1), some (.int x2), some (.int (x3 + 1)), some (.int x4), none, some (.int x6)]) (stk' := [.ref 136]) (fun _ _ _ => rfl) ?_
      refine zw_mget (v := .ref 150) rfl rfl ?_
      refine zw_run 1 (pc' := 264) (loc' := [some (.ref 136), some (.int x1), some (.int x2), some (.int (x3 + 1)), some (.int x4), none, some (.int x6)]) (stk' := [.int x4, .ref 150]) (fun _ _ _ => rfl) ?_
      obtain ⟨b3, H⟩ := oq_ob H
      refine zw_iald (j := 150) rfl (by decide) (by decide) rfl b3 ?_
      refine zw_run 2 (pc' := 19) (loc' := [some (.ref 136), some (.int x1), some (.int x2), some (.int (x3 + 1)), some (.int (zv Z 150 x4)), none, some (.int x6)]) (stk' := []) (fun _ _ _ => rfl) ?_
      refine zw_fgt [true, true, true, true, true, false, false] rfl ?_
      exact HK19 Z x1 x2 (x3 + 1) (zv Z 150 x4) H
    · rw [if_neg c2] at H
      refine zw_run 2 (pc' := 78) (loc' := [some (.ref 136), some (.int x1), some (.int x2), some (.int x3), some (.int x4), none, some (.int x6)]) (stk' := [.ref 136, .ref 136]) (fun _ _ _ => rfl) ?_
      refine zw_mget (v := .ref 144) rfl rfl ?_
      refine zw_run 1 (pc' := 83) (loc' := [some (.ref 136), some (.int x1), some (.int x2), some (.int x3), some (.int x4), none, some (.int x6)]) (stk' := [.int x4, .ref 144, .ref 136]) (fun _ _ _ => rfl) ?_
      obtain ⟨b4, H⟩ := oq_ob H
      refine zw_iald (j := 144) rfl (by decide) (by decide) rfl b4 ?_
      refine zw_run 2 (pc' := 86) (loc' := [some (.ref 136), some (.int x1), some (.int x2), some (.int x3), some (.int x4), none, some (.int x6)]) (stk' := [.int x1, .int x2, .int (zv Z 144 x4), .ref 136]) (fun _ _ _ => rfl) ?_
      obtain ⟨u5, hu5, H⟩ := oq_bind H
      refine zw_callf (As := [.ref 136, .int (zv Z 144 x4), .int x2, .int x1]) (rest := []) (c_151 hu (zv Z 144 x4) x2 x1 hu5 (d := d + 0)) rfl rfl rfl rfl ?_
      show zw fm sx (d + 3) 152 89 [some (.ref 136), some (.int x1), some (.int x2), some (.int x3), some (.int x4), none, some (.int x6)] [.int u5.1] u5.2 Q
      refine zw_run 3 (pc' := 65) (loc' := [some (.ref 136), some (.int x1), some (.int u5.1), some (.int x3), some (.int x4), none, some (.int (x6 + 1))]) (stk' := []) (fun _ _ _ => rfl) ?_
      exact ih u5.2 x1 u5.1 x3 x4 (x6 + 1) H
/-- MarkInlinesModel.gather, its loop at 19 -/
def g_152_19 : Nat → zr_Z → Int32 → Int32 → Int32 → Int32 → Option zr_Z
  | 0, _, _, _, _, _ => none
  | n + 1, Z, x1, x2, x3, x4 => (if x4 = 0 then some Z else (if inq 143 x4 then (if ¬ (zv Z 143 x4) = 0 then (if ¬ (zv Z 143 x4) = 10 then (if ¬ (zv Z 143 x4) = 11 then (if ¬ (zv Z 143 x4) = 12 then (Option.bind (o_150 Z (zv Z 143 x4) x1) fun u7 => (if inq 145 x4 then (if inq 166 u7.1 then (if inq 146 x4 then (if inq 167 u7.1 then (if inq 147 x4 then (if inq 168 u7.1 then (if inq 148 x4 then (if inq 169 u7.1 then (if inq 149 x4 then (if inq 170 u7.1 then (olet ((if (zv Z 143 x4) ≤ 3 then x1 else u7.1 : Int32) : Int32) fun x21 => (if inq 150 x4 then g_152_19 n (zar (zar (zar (zar (zar u7.2 166 u7.1 (zv u7.2 145 x4)) 167 u7.1 (zv u7.2 146 x4)) 168 u7.1 (zv u7.2 147 x4)) 169 u7.1 (zv u7.2 148 x4)) 170 u7.1 (zv u7.2 149 x4)) x21 (-1) x3 (zv u7.2 150 x4) else none)) else none) else none) else none) else none) else none) else none) else none) else none) else none) else none)) else (if inq 165 x1 then (if inq 150 x4 then g_152_19 n Z (zv Z 165 x1) (-1) x3 (zv Z 150 x4) else none) else none)) else (if inq 144 x4 then (if ¬ (zv Z 144 x4) = 1 then (Option.bind (o_151 Z 91 x2 x1) fun u27 => (if inq 150 x4 then g_152_19 n u27.2 x1 u27.1 x3 (zv u27.2 150 x4) else none)) else (Option.bind (o_151 Z 33 x2 x1) fun u29 => (Option.bind (o_151 u29.2 91 u29.1 x1) fun u30 => (if inq 150 x4 then g_152_19 n u30.2 x1 u30.1 x3 (zv u30.2 150 x4) else none)))) else none)) else g_152_65 oF Z x1 x2 x3 x4 0 (fun Z x1 x2 x3 x4 => g_152_19 n Z x1 x2 x3 x4)) else (if inq 144 x4 then (Option.bind (o_151 Z (zv Z 144 x4) x2 x1) fun u33 => (if inq 150 x4 then g_152_19 n u33.2 x1 u33.1 x3 (zv u33.2 150 x4) else none)) else none)) else none))
set_option maxRecDepth 100000 in
set_option maxHeartbeats 4000000 in
theorem l_152_19 {fm : Value} {sx : Nat × (Nat → Int32)} {d : Nat} {Q : Option Value → zr_Z → Prop} (hu : fm = .null ∨ ∃ q, fm = .ref q)  : ∀ (n : Nat) (Z : zr_Z) (x1 : Int32) (x2 : Int32) (x3 : Int32) (x4 : Int32), oq (g_152_19 n Z x1 x2 x3 x4) (fun x => Q none x) → zw fm sx (d + 3) 152 19 [some (.ref 136), some (.int x1), some (.int x2), some (.int x3), some (.int x4), none, none] [] Z Q := by
  intro n
  induction n with
  | zero => intro Z x1 x2 x3 x4 H; exact absurd H oq_none
  | succ n ih =>
    intro Z x1 x2 x3 x4 H
    unfold g_152_19 at H
    refine zw_run 1 (pc' := 21) (loc' := [some (.ref 136), some (.int x1), some (.int x2), some (.int x3), some (.int x4), none, none]) (stk' := [.int x4]) (fun _ _ _ => rfl) ?_
    refine zw_br (c := x4 = 0) (t1 := 270) (t2 := 24) (loc' := [some (.ref 136), some (.int x1), some (.int x2), some (.int x3), some (.int x4), none, none]) (stk' := []) (fun _ _ _ => rfl) (fun c1 => ?_) (fun c1 => ?_)
    · rw [if_pos c1] at H
      refine zw_retv rfl rfl ?_
      have H := oq_some H
      exact H
    · rw [if_neg c1] at H
      refine zw_run 1 (pc' := 25) (loc' := [some (.ref 136), some (.int x1), some (.int x2), some (.int x3), some (.int x4), none, none]) (stk' := [.ref 136]) (fun _ _ _ => rfl) ?_
      refine zw_mget (v := .ref 143) rfl rfl ?_
      refine zw_run 1 (pc' := 30) (loc' := [some (.ref 136), some (.int x1), some (.int x2), some (.int x3), some (.int x4), none, none]) (stk' := [.int x4, .ref 143]) (fun _ _ _ => rfl) ?_
      obtain ⟨b2, H⟩ := oq_ob H
      refine zw_iald (j := 143) rfl (by decide) (by decide) rfl b2 ?_
      refine zw_run 2 (pc' := 35) (loc' := [some (.ref 136), some (.int x1), some (.int x2), some (.int x3), some (.int x4), some (.int (zv Z 143 x4)), none]) (stk' := [.int (zv Z 143 x4)]) (fun _ _ _ => rfl) ?_
      refine zw_br (c := ¬ (zv Z 143 x4) = 0) (t1 := 55) (t2 := 38) (loc' := [some (.ref 136), some (.int x1), some (.int x2), some (.int x3), some (.int x4), some (.int (zv Z 143 x4)), none]) (stk' := []) (fun _ _ _ => rfl) (fun c3 => ?_) (fun c3 => ?_)
      · rw [if_pos c3] at H
        refine zw_run 2 (pc' := 59) (loc' := [some (.ref 136), some (.int x1), some (.int x2), some (.int x3), some (.int x4), some (.int (zv Z 143 x4)), none]) (stk' := [.int 10, .int (zv Z 143 x4)]) (fun _ _ _ => rfl) ?_
        refine zw_br (c := ¬ (zv Z 143 x4) = 10) (t1 := 102) (t2 := 62) (loc' := [some (.ref 136), some (.int x1), some (.int x2), some (.int x3), some (.int x4), some (.int (zv Z 143 x4)), none]) (stk' := []) (fun _ _ _ => rfl) (fun c4 => ?_) (fun c4 => ?_)
        · rw [if_pos c4] at H
          refine zw_run 2 (pc' := 106) (loc' := [some (.ref 136), some (.int x1), some (.int x2), some (.int x3), some (.int x4), some (.int (zv Z 143 x4)), none]) (stk' := [.int 11, .int (zv Z 143 x4)]) (fun _ _ _ => rfl) ?_
          refine zw_br (c := ¬ (zv Z 143 x4) = 11) (t1 := 145) (t2 := 109) (loc' := [some (.ref 136), some (.int x1), some (.int x2), some (.int x3), some (.int x4), some (.int (zv Z 143 x4)), none]) (stk' := []) (fun _ _ _ => rfl) (fun c5 => ?_) (fun c5 => ?_)
          · rw [if_pos c5] at H
            refine zw_run 2 (pc' := 149) (loc' := [some (.ref 136), some (.int x1), some (.int x2), some (.int x3), some (.int x4), some (.int (zv Z 143 x4)), none]) (stk' := [.int 12, .int (zv Z 143 x4)]) (fun _ _ _ => rfl) ?_
            refine zw_br (c := ¬ (zv Z 143 x4) = 12) (t1 := 164) (t2 := 152) (loc' := [some (.ref 136), some (.int x1), some (.int x2), some (.int x3), some (.int x4), some (.int (zv Z 143 x4)), none]) (stk' := []) (fun _ _ _ => rfl) (fun c6 => ?_) (fun c6 => ?_)
            · rw [if_pos c6] at H
              refine zw_run 3 (pc' := 168) (loc' := [some (.ref 136), some (.int x1), some (.int x2), some (.int x3), some (.int x4), some (.int (zv Z 143 x4)), none]) (stk' := [.int x1, .int (zv Z 143 x4), .ref 136]) (fun _ _ _ => rfl) ?_
              obtain ⟨u7, hu7, H⟩ := oq_bind H
              refine zw_callf (As := [.ref 136, .int (zv Z 143 x4), .int x1]) (rest := []) (c_150 hu (zv Z 143 x4) x1 hu7 (d := d + 1)) rfl rfl rfl rfl ?_
              show zw fm sx (d + 3) 152 171 [some (.ref 136), some (.int x1), some (.int x2), some (.int x3), some (.int x4), some (.int (zv Z 143 x4)), none] [.int u7.1] u7.2 Q
              refine zw_run 2 (pc' := 174) (loc' := [some (.ref 136), some (.int x1), some (.int x2), some (.int x3), some (.int x4), some (.int (zv Z 143 x4)), some (.int u7.1)]) (stk' := [.ref 136]) (fun _ _ _ => rfl) ?_
              refine zw_mget (v := .ref 166) rfl rfl ?_
              refine zw_run 2 (pc' := 180) (loc' := [some (.ref 136), some (.int x1), some (.int x2), some (.int x3), some (.int x4), some (.int (zv Z 143 x4)), some (.int u7.1)]) (stk' := [.ref 136, .int u7.1, .ref 166]) (fun _ _ _ => rfl) ?_
              refine zw_mget (v := .ref 145) rfl rfl ?_
              refine zw_run 1 (pc' := 185) (loc' := [some (.ref 136), some (.int x1), some (.int x2), some (.int x3), some (.int x4), some (.int (zv Z 143 x4)), some (.int u7.1)]) (stk' := [.int x4, .ref 145, .int u7.1, .ref 166]) (fun _ _ _ => rfl) ?_
              obtain ⟨b8, H⟩ := oq_ob H
              refine zw_iald (j := 145) rfl (by decide) (by decide) rfl b8 ?_
              obtain ⟨b9, H⟩ := oq_ob H
              refine zw_iast (j := 166) rfl (by decide) (by decide) rfl b9 ?_
              show zw fm sx (d + 3) 152 187 [some (.ref 136), some (.int x1), some (.int x2), some (.int x3), some (.int x4), some (.int (zv Z 143 x4)), some (.int u7.1)] [] (zar u7.2 166 u7.1 (zv u7.2 145 x4)) Q
              refine zw_run 1 (pc' := 188) (loc' := [some (.ref 136), some (.int x1), some (.int x2), some (.int x3), some (.int x4), some (.int (zv Z 143 x4)), some (.int u7.1)]) (stk' := [.ref 136]) (fun _ _ _ => rfl) ?_
              refine zw_mget (v := .ref 167) rfl rfl ?_
              refine zw_run 2 (pc' := 194) (loc' := [some (.ref 136), some (.int x1), some (.int x2), some (.int x3), some (.int x4), some (.int (zv Z 143 x4)), some (.int u7.1)]) (stk' := [.ref 136, .int u7.1, .ref 167]) (fun _ _ _ => rfl) ?_
              refine zw_mget (v := .ref 146) rfl rfl ?_
              refine zw_run 1 (pc' := 199) (loc' := [some (.ref 136), some (.int x1), some (.int x2), some (.int x3), some (.int x4), some (.int (zv Z 143 x4)), some (.int u7.1)]) (stk' := [.int x4, .ref 146, .int u7.1, .ref 167]) (fun _ _ _ => rfl) ?_
              obtain ⟨b10, H⟩ := oq_ob H
              refine zw_iald (j := 146) rfl (by decide) (by decide) rfl b10 ?_
              obtain ⟨b11, H⟩ := oq_ob H
              refine zw_iast (j := 167) rfl (by decide) (by decide) rfl b11 ?_
              show zw fm sx (d + 3) 152 201 [some (.ref 136), some (.int x1), some (.int x2), some (.int x3), some (.int x4), some (.int (zv Z 143 x4)), some (.int u7.1)] [] (zar (zar u7.2 166 u7.1 (zv u7.2 145 x4)) 167 u7.1 (zv u7.2 146 x4)) Q
              refine zw_run 1 (pc' := 202) (loc' := [some (.ref 136), some (.int x1), some (.int x2), some (.int x3), some (.int x4), some (.int (zv Z 143 x4)), some (.int u7.1)]) (stk' := [.ref 136]) (fun _ _ _ => rfl) ?_
              refine zw_mget (v := .ref 168) rfl rfl ?_
              refine zw_run 2 (pc' := 208) (loc' := [some (.ref 136), some (.int x1), some (.int x2), some (.int x3), some (.int x4), some (.int (zv Z 143 x4)), some (.int u7.1)]) (stk' := [.ref 136, .int u7.1, .ref 168]) (fun _ _ _ => rfl) ?_
              refine zw_mget (v := .ref 147) rfl rfl ?_
              refine zw_run 1 (pc' := 213) (loc' := [some (.ref 136), some (.int x1), some (.int x2), some (.int x3), some (.int x4), some (.int (zv Z 143 x4)), some (.int u7.1)]) (stk' := [.int x4, .ref 147, .int u7.1, .ref 168]) (fun _ _ _ => rfl) ?_
              obtain ⟨b12, H⟩ := oq_ob H
              refine zw_iald (j := 147) rfl (by decide) (by decide) rfl b12 ?_
              obtain ⟨b13, H⟩ := oq_ob H
              refine zw_iast (j := 168) rfl (by decide) (by decide) rfl b13 ?_
              show zw fm sx (d + 3) 152 215 [some (.ref 136), some (.int x1), some (.int x2), some (.int x3), some (.int x4), some (.int (zv Z 143 x4)), some (.int u7.1)] [] (zar (zar (zar u7.2 166 u7.1 (zv u7.2 145 x4)) 167 u7.1 (zv u7.2 146 x4)) 168 u7.1 (zv u7.2 147 x4)) Q
              refine zw_run 1 (pc' := 216) (loc' := [some (.ref 136), some (.int x1), some (.int x2), some (.int x3), some (.int x4), some (.int (zv Z 143 x4)), some (.int u7.1)]) (stk' := [.ref 136]) (fun _ _ _ => rfl) ?_
              refine zw_mget (v := .ref 169) rfl rfl ?_
              refine zw_run 2 (pc' := 222) (loc' := [some (.ref 136), some (.int x1), some (.int x2), some (.int x3), some (.int x4), some (.int (zv Z 143 x4)), some (.int u7.1)]) (stk' := [.ref 136, .int u7.1, .ref 169]) (fun _ _ _ => rfl) ?_
              refine zw_mget (v := .ref 148) rfl rfl ?_
              refine zw_run 1 (pc' := 227) (loc' := [some (.ref 136), some (.int x1), some (.int x2), some (.int x3), some (.int x4), some (.int (zv Z 143 x4)), some (.int u7.1)]) (stk' := [.int x4, .ref 148, .int u7.1, .ref 169]) (fun _ _ _ => rfl) ?_
              obtain ⟨b14, H⟩ := oq_ob H
              refine zw_iald (j := 148) rfl (by decide) (by decide) rfl b14 ?_
              obtain ⟨b15, H⟩ := oq_ob H
              refine zw_iast (j := 169) rfl (by decide) (by decide) rfl b15 ?_
              show zw fm sx (d + 3) 152 229 [some (.ref 136), some (.int x1), some (.int x2), some (.int x3), some (.int x4), some (.int (zv Z 143 x4)), some (.int u7.1)] [] (zar (zar (zar (zar u7.2 166 u7.1 (zv u7.2 145 x4)) 167 u7.1 (zv u7.2 146 x4)) 168 u7.1 (zv u7.2 147 x4)) 169 u7.1 (zv u7.2 148 x4)) Q
              refine zw_run 1 (pc' := 230) (loc' := [some (.ref 136), some (.int x1), some (.int x2), some (.int x3), some (.int x4), some (.int (zv Z 143 x4)), some (.int u7.1)]) (stk' := [.ref 136]) (fun _ _ _ => rfl) ?_
              refine zw_mget (v := .ref 170) rfl rfl ?_
              refine zw_run 2 (pc' := 236) (loc' := [some (.ref 136), some (.int x1), some (.int x2), some (.int x3), some (.int x4), some (.int (zv Z 143 x4)), some (.int u7.1)]) (stk' := [.ref 136, .int u7.1, .ref 170]) (fun _ _ _ => rfl) ?_
              refine zw_mget (v := .ref 149) rfl rfl ?_
              refine zw_run 1 (pc' := 241) (loc' := [some (.ref 136), some (.int x1), some (.int x2), some (.int x3), some (.int x4), some (.int (zv Z 143 x4)), some (.int u7.1)]) (stk' := [.int x4, .ref 149, .int u7.1, .ref 170]) (fun _ _ _ => rfl) ?_
              obtain ⟨b16, H⟩ := oq_ob H
              refine zw_iald (j := 149) rfl (by decide) (by decide) rfl b16 ?_
              obtain ⟨b17, H⟩ := oq_ob H
              refine zw_iast (j := 170) rfl (by decide) (by decide) rfl b17 ?_
              show zw fm sx (d + 3) 152 243 [some (.ref 136), some (.int x1), some (.int x2), some (.int x3), some (.int x4), some (.int (zv Z 143 x4)), some (.int u7.1)] [] (zar (zar (zar (zar (zar u7.2 166 u7.1 (zv u7.2 145 x4)) 167 u7.1 (zv u7.2 146 x4)) 168 u7.1 (zv u7.2 147 x4)) 169 u7.1 (zv u7.2 148 x4)) 170 u7.1 (zv u7.2 149 x4)) Q
              refine zw_run 2 (pc' := 246) (loc' := [some (.ref 136), some (.int x1), some (.int x2), some (.int x3), some (.int x4), some (.int (zv Z 143 x4)), some (.int u7.1)]) (stk' := [.int 3, .int (zv Z 143 x4)]) (fun _ _ _ => rfl) ?_
              have J20 : ∀ (v19 : Int32), v19 = (if (zv Z 143 x4) ≤ 3 then x1 else u7.1 : Int32) → zw fm sx (d + 3) 152 255 [some (.ref 136), some (.int x1), some (.int x2), some (.int x3), some (.int x4), some (.int (zv Z 143 x4)), some (.int u7.1)] [.int v19] (zar (zar (zar (zar (zar u7.2 166 u7.1 (zv u7.2 145 x4)) 167 u7.1 (zv u7.2 146 x4)) 168 u7.1 (zv u7.2 147 x4)) 169 u7.1 (zv u7.2 148 x4)) 170 u7.1 (zv u7.2 149 x4)) Q := by
                intro v19 ev19
                subst ev19
                refine zw_run 1 (pc' := 256) (loc' := [some (.ref 136), some (.int (if (zv Z 143 x4) ≤ 3 then x1 else u7.1 : Int32)), some (.int x2), some (.int x3), some (.int x4), some (.int (zv Z 143 x4)), some (.int u7.1)]) (stk' := []) (fun _ _ _ => rfl) ?_
                obtain ⟨x21, hx21⟩ : ∃ w : Int32, w = (if (zv Z 143 x4) ≤ 3 then x1 else u7.1 : Int32) := ⟨_, rfl⟩
                rw [← hx21]
                have H := oq_let H x21 hx21
                refine zw_run 3 (pc' := 259) (loc' := [some (.ref 136), some (.int x21), some (.int (-1)), some (.int x3), some (.int x4), some (.int (zv Z 143 x4)), some (.int u7.1)]) (stk' := [.ref 136]) (fun _ _ _ => rfl) ?_
                refine zw_mget (v := .ref 150) rfl rfl ?_
                refine zw_run 1 (pc' := 264) (loc' := [some (.ref 136), some (.int x21), some (.int (-1)), some (.int x3), some (.int x4), some (.int (zv Z 143 x4)), some (.int u7.1)]) (stk' := [.int x4, .ref 150]) (fun _ _ _ => rfl) ?_
                obtain ⟨b22, H⟩ := oq_ob H
                refine zw_iald (j := 150) rfl (by decide) (by decide) rfl b22 ?_
                refine zw_run 2 (pc' := 19) (loc' := [some (.ref 136), some (.int x21), some (.int (-1)), some (.int x3), some (.int (zv u7.2 150 x4)), some (.int (zv Z 143 x4)), some (.int u7.1)]) (stk' := []) (fun _ _ _ => rfl) ?_
                refine zw_fgt [true, true, true, true, true, false, false] rfl ?_
                exact ih (zar (zar (zar (zar (zar u7.2 166 u7.1 (zv u7.2 145 x4)) 167 u7.1 (zv u7.2 146 x4)) 168 u7.1 (zv u7.2 147 x4)) 169 u7.1 (zv u7.2 148 x4)) 170 u7.1 (zv u7.2 149 x4)) x21 (-1) x3 (zv u7.2 150 x4) H
              refine zw_br (c := (zv Z 143 x4) ≤ 3) (t1 := 254) (t2 := 249) (loc' := [some (.ref 136), some (.int x1), some (.int x2), some (.int x3), some (.int x4), some (.int (zv Z 143 x4)), some (.int u7.1)]) (stk' := []) (fun _ _ _ => rfl) (fun c18 => ?_) (fun c18 => ?_)
              · skip
                refine zw_run 1 (pc' := 255) (loc' := [some (.ref 136), some (.int x1), some (.int x2), some (.int x3), some (.int x4), some (.int (zv Z 143 x4)), some (.int u7.1)]) (stk' := [.int x1]) (fun _ _ _ => rfl) ?_
                exact J20 _ (by first | (rw [if_pos c18]; done) | (rw [if_pos c18]; rfl) | (clear H J20; simp_all [bI]; done))
              · skip
                refine zw_run 2 (pc' := 255) (loc' := [some (.ref 136), some (.int x1), some (.int x2), some (.int x3), some (.int x4), some (.int (zv Z 143 x4)), some (.int u7.1)]) (stk' := [.int u7.1]) (fun _ _ _ => rfl) ?_
                exact J20 _ (by first | (rw [if_neg c18]; done) | (rw [if_neg c18]; rfl) | (clear H J20; simp_all [bI]; done))
            · rw [if_neg c6] at H
              refine zw_run 1 (pc' := 153) (loc' := [some (.ref 136), some (.int x1), some (.int x2), some (.int x3), some (.int x4), some (.int (zv Z 143 x4)), none]) (stk' := [.ref 136]) (fun _ _ _ => rfl) ?_
              refine zw_mget (v := .ref 165) rfl rfl ?_
              refine zw_run 1 (pc' := 157) (loc' := [some (.ref 136), some (.int x1), some (.int x2), some (.int x3), some (.int x4), some (.int (zv Z 143 x4)), none]) (stk' := [.int x1, .ref 165]) (fun _ _ _ => rfl) ?_
              obtain ⟨b23, H⟩ := oq_ob H
              refine zw_iald (j := 165) rfl (by decide) (by decide) rfl b23 ?_
              refine zw_run 5 (pc' := 259) (loc' := [some (.ref 136), some (.int (zv Z 165 x1)), some (.int (-1)), some (.int x3), some (.int x4), some (.int (zv Z 143 x4)), none]) (stk' := [.ref 136]) (fun _ _ _ => rfl) ?_
              refine zw_mget (v := .ref 150) rfl rfl ?_
              refine zw_run 1 (pc' := 264) (loc' := [some (.ref 136), some (.int (zv Z 165 x1)), some (.int (-1)), some (.int x3), some (.int x4), some (.int (zv Z 143 x4)), none]) (stk' := [.int x4, .ref 150]) (fun _ _ _ => rfl) ?_
              obtain ⟨b24, H⟩ := oq_ob H
              refine zw_iald (j := 150) rfl (by decide) (by decide) rfl b24 ?_
              refine zw_run 2 (pc' := 19) (loc' := [some (.ref 136), some (.int (zv Z 165 x1)), some (.int (-1)), some (.int x3), some (.int (zv Z 150 x4)), some (.int (zv Z 143 x4)), none]) (stk' := []) (fun _ _ _ => rfl) ?_
              refine zw_fgt [true, true, true, true, true, false, false] rfl ?_
              exact ih Z (zv Z 165 x1) (-1) x3 (zv Z 150 x4) H
          · rw [if_neg c5] at H
            refine zw_run 1 (pc' := 110) (loc' := [some (.ref 136), some (.int x1), some (.int x2), some (.int x3), some (.int x4), some (.int (zv Z 143 x4)), none]) (stk' := [.ref 136]) (fun _ _ _ => rfl) ?_
            refine zw_mget (v := .ref 144) rfl rfl ?_
            refine zw_run 1 (pc' := 115) (loc' := [some (.ref 136), some (.int x1), some (.int x2), some (.int x3), some (.int x4), some (.int (zv Z 143 x4)), none]) (stk' := [.int x4, .ref 144]) (fun _ _ _ => rfl) ?_
            obtain ⟨b25, H⟩ := oq_ob H
            refine zw_iald (j := 144) rfl (by decide) (by decide) rfl b25 ?_
            refine zw_run 1 (pc' := 117) (loc' := [some (.ref 136), some (.int x1), some (.int x2), some (.int x3), some (.int x4), some (.int (zv Z 143 x4)), none]) (stk' := [.int 1, .int (zv Z 144 x4)]) (fun _ _ _ => rfl) ?_
            refine zw_br (c := ¬ (zv Z 144 x4) = 1) (t1 := 131) (t2 := 120) (loc' := [some (.ref 136), some (.int x1), some (.int x2), some (.int x3), some (.int x4), some (.int (zv Z 143 x4)), none]) (stk' := []) (fun _ _ _ => rfl) (fun c26 => ?_) (fun c26 => ?_)
            · rw [if_pos c26] at H
              refine zw_run 6 (pc' := 138) (loc' := [some (.ref 136), some (.int x1), some (.int x2), some (.int x3), some (.int x4), some (.int (zv Z 143 x4)), none]) (stk' := [.int x1, .int x2, .int 91, .ref 136]) (fun _ _ _ => rfl) ?_
              obtain ⟨u27, hu27, H⟩ := oq_bind H
              refine zw_callf (As := [.ref 136, .int 91, .int x2, .int x1]) (rest := []) (c_151 hu 91 x2 x1 hu27 (d := d + 0)) rfl rfl rfl rfl ?_
              show zw fm sx (d + 3) 152 141 [some (.ref 136), some (.int x1), some (.int x2), some (.int x3), some (.int x4), some (.int (zv Z 143 x4)), none] [.int u27.1] u27.2 Q
              refine zw_run 3 (pc' := 259) (loc' := [some (.ref 136), some (.int x1), some (.int u27.1), some (.int x3), some (.int x4), some (.int (zv Z 143 x4)), none]) (stk' := [.ref 136]) (fun _ _ _ => rfl) ?_
              refine zw_mget (v := .ref 150) rfl rfl ?_
              refine zw_run 1 (pc' := 264) (loc' := [some (.ref 136), some (.int x1), some (.int u27.1), some (.int x3), some (.int x4), some (.int (zv Z 143 x4)), none]) (stk' := [.int x4, .ref 150]) (fun _ _ _ => rfl) ?_
              obtain ⟨b28, H⟩ := oq_ob H
              refine zw_iald (j := 150) rfl (by decide) (by decide) rfl b28 ?_
              refine zw_run 2 (pc' := 19) (loc' := [some (.ref 136), some (.int x1), some (.int u27.1), some (.int x3), some (.int (zv u27.2 150 x4)), some (.int (zv Z 143 x4)), none]) (stk' := []) (fun _ _ _ => rfl) ?_
              refine zw_fgt [true, true, true, true, true, false, false] rfl ?_
              exact ih u27.2 x1 u27.1 x3 (zv u27.2 150 x4) H
            · rw [if_neg c26] at H
              refine zw_run 4 (pc' := 125) (loc' := [some (.ref 136), some (.int x1), some (.int x2), some (.int x3), some (.int x4), some (.int (zv Z 143 x4)), none]) (stk' := [.int x1, .int x2, .int 33, .ref 136]) (fun _ _ _ => rfl) ?_
              obtain ⟨u29, hu29, H⟩ := oq_bind H
              refine zw_callf (As := [.ref 136, .int 33, .int x2, .int x1]) (rest := []) (c_151 hu 33 x2 x1 hu29 (d := d + 0)) rfl rfl rfl rfl ?_
              show zw fm sx (d + 3) 152 128 [some (.ref 136), some (.int x1), some (.int x2), some (.int x3), some (.int x4), some (.int (zv Z 143 x4)), none] [.int u29.1] u29.2 Q
              refine zw_run 6 (pc' := 138) (loc' := [some (.ref 136), some (.int x1), some (.int u29.1), some (.int x3), some (.int x4), some (.int (zv Z 143 x4)), none]) (stk' := [.int x1, .int u29.1, .int 91, .ref 136]) (fun _ _ _ => rfl) ?_
              obtain ⟨u30, hu30, H⟩ := oq_bind H
              refine zw_callf (As := [.ref 136, .int 91, .int u29.1, .int x1]) (rest := []) (c_151 hu 91 u29.1 x1 hu30 (d := d + 0)) rfl rfl rfl rfl ?_
              show zw fm sx (d + 3) 152 141 [some (.ref 136), some (.int x1), some (.int u29.1), some (.int x3), some (.int x4), some (.int (zv Z 143 x4)), none] [.int u30.1] u30.2 Q
              refine zw_run 3 (pc' := 259) (loc' := [some (.ref 136), some (.int x1), some (.int u30.1), some (.int x3), some (.int x4), some (.int (zv Z 143 x4)), none]) (stk' := [.ref 136]) (fun _ _ _ => rfl) ?_
              refine zw_mget (v := .ref 150) rfl rfl ?_
              refine zw_run 1 (pc' := 264) (loc' := [some (.ref 136), some (.int x1), some (.int u30.1), some (.int x3), some (.int x4), some (.int (zv Z 143 x4)), none]) (stk' := [.int x4, .ref 150]) (fun _ _ _ => rfl) ?_
              obtain ⟨b31, H⟩ := oq_ob H
              refine zw_iald (j := 150) rfl (by decide) (by decide) rfl b31 ?_
              refine zw_run 2 (pc' := 19) (loc' := [some (.ref 136), some (.int x1), some (.int u30.1), some (.int x3), some (.int (zv u30.2 150 x4)), some (.int (zv Z 143 x4)), none]) (stk' := []) (fun _ _ _ => rfl) ?_
              refine zw_fgt [true, true, true, true, true, false, false] rfl ?_
              exact ih u30.2 x1 u30.1 x3 (zv u30.2 150 x4) H
        · rw [if_neg c4] at H
          refine zw_run 2 (pc' := 65) (loc' := [some (.ref 136), some (.int x1), some (.int x2), some (.int x3), some (.int x4), some (.int (zv Z 143 x4)), some (.int 0)]) (stk' := []) (fun _ _ _ => rfl) ?_
          refine zw_fgt [true, true, true, true, true, false, true] rfl ?_
          exact l_152_65 hu _ (fun Z x1 x2 x3 x4 q => ih Z x1 x2 x3 x4 q) _ Z x1 x2 x3 x4 0 H
      · rw [if_neg c3] at H
        refine zw_run 2 (pc' := 40) (loc' := [some (.ref 136), some (.int x1), some (.int x2), some (.int x3), some (.int x4), some (.int (zv Z 143 x4)), none]) (stk' := [.ref 136, .ref 136]) (fun _ _ _ => rfl) ?_
        refine zw_mget (v := .ref 144) rfl rfl ?_
        refine zw_run 1 (pc' := 45) (loc' := [some (.ref 136), some (.int x1), some (.int x2), some (.int x3), some (.int x4), some (.int (zv Z 143 x4)), none]) (stk' := [.int x4, .ref 144, .ref 136]) (fun _ _ _ => rfl) ?_
        obtain ⟨b32, H⟩ := oq_ob H
        refine zw_iald (j := 144) rfl (by decide) (by decide) rfl b32 ?_
        refine zw_run 2 (pc' := 48) (loc' := [some (.ref 136), some (.int x1), some (.int x2), some (.int x3), some (.int x4), some (.int (zv Z 143 x4)), none]) (stk' := [.int x1, .int x2, .int (zv Z 144 x4), .ref 136]) (fun _ _ _ => rfl) ?_
        obtain ⟨u33, hu33, H⟩ := oq_bind H
        refine zw_callf (As := [.ref 136, .int (zv Z 144 x4), .int x2, .int x1]) (rest := []) (c_151 hu (zv Z 144 x4) x2 x1 hu33 (d := d + 0)) rfl rfl rfl rfl ?_
        show zw fm sx (d + 3) 152 51 [some (.ref 136), some (.int x1), some (.int x2), some (.int x3), some (.int x4), some (.int (zv Z 143 x4)), none] [.int u33.1] u33.2 Q
        refine zw_run 3 (pc' := 259) (loc' := [some (.ref 136), some (.int x1), some (.int u33.1), some (.int x3), some (.int x4), some (.int (zv Z 143 x4)), none]) (stk' := [.ref 136]) (fun _ _ _ => rfl) ?_
        refine zw_mget (v := .ref 150) rfl rfl ?_
        refine zw_run 1 (pc' := 264) (loc' := [some (.ref 136), some (.int x1), some (.int u33.1), some (.int x3), some (.int x4), some (.int (zv Z 143 x4)), none]) (stk' := [.int x4, .ref 150]) (fun _ _ _ => rfl) ?_
        obtain ⟨b34, H⟩ := oq_ob H
        refine zw_iald (j := 150) rfl (by decide) (by decide) rfl b34 ?_
        refine zw_run 2 (pc' := 19) (loc' := [some (.ref 136), some (.int x1), some (.int u33.1), some (.int x3), some (.int (zv u33.2 150 x4)), some (.int (zv Z 143 x4)), none]) (stk' := []) (fun _ _ _ => rfl) ?_
        refine zw_fgt [true, true, true, true, true, false, false] rfl ?_
        exact ih u33.2 x1 u33.1 x3 (zv u33.2 150 x4) H
/-- MarkInlinesModel.gather -/
def o_152 (Z : zr_Z)  : Option zr_Z := (if inq 150 0 then g_152_19 oF (zmf Z 45 0) (-1) (-1) 0 (zv Z 150 0) else none)
set_option maxRecDepth 100000 in
set_option maxHeartbeats 4000000 in
theorem t_152 {fm : Value} {sx : Nat × (Nat → Int32)} {d : Nat} {Z : zr_Z} {Q : Option Value → zr_Z → Prop} (hu : fm = .null ∨ ∃ q, fm = .ref q)  (H : oq (o_152 Z) (fun x => Q none x)) : zw fm sx (d + 3) 152 0 [some (.ref 136), none, none, none, none, none, none] [] Z Q := by
  unfold o_152 at H
  refine zw_run 2 (pc' := 2) (loc' := [some (.ref 136), none, none, none, none, none, none]) (stk' := [.int 0, .ref 136]) (fun _ _ _ => rfl) ?_
  refine zw_mput rfl rfl rfl rfl ?_
  show zw fm sx (d + 3) 152 5 [some (.ref 136), none, none, none, none, none, none] [] (zmf Z 45 0) Q
  refine zw_run 7 (pc' := 12) (loc' := [some (.ref 136), some (.int (-1)), some (.int (-1)), some (.int 0), none, none, none]) (stk' := [.ref 136]) (fun _ _ _ => rfl) ?_
  refine zw_mget (v := .ref 150) rfl rfl ?_
  refine zw_run 1 (pc' := 16) (loc' := [some (.ref 136), some (.int (-1)), some (.int (-1)), some (.int 0), none, none, none]) (stk' := [.int 0, .ref 150]) (fun _ _ _ => rfl) ?_
  obtain ⟨b1, H⟩ := oq_ob H
  refine zw_iald (j := 150) rfl (by decide) (by decide) rfl b1 ?_
  refine zw_run 1 (pc' := 19) (loc' := [some (.ref 136), some (.int (-1)), some (.int (-1)), some (.int 0), some (.int (zv Z 150 0)), none, none]) (stk' := []) (fun _ _ _ => rfl) ?_
  exact l_152_19 hu _ (zmf Z 45 0) (-1) (-1) 0 (zv Z 150 0) H
theorem c_152 {fm : Value} {sx : Nat × (Nat → Int32)} {d : Nat} {Z : zr_Z} (hu : fm = .null ∨ ∃ q, fm = .ref q)  {x : zr_Z} (hx : o_152 Z = some x) : zl fm sx (d + 4) 152 [.ref 136] Z (fun r Z' => r = none ∧ Z' = x) :=
  zl_of (nL := 7) (loc0 := [some (.ref 136), none, none, none, none, none, none]) rfl rfl rfl (t_152 hu ⟨x, hx, rfl, rfl⟩)
/-- MarkInlinesModel.read, its loop at 54 -/
def g_159_54 : Nat → zr_Z → Int32 → Option (Int32 × zr_Z)
  | 0, _, _ => none
  | n + 1, Z, x1 => (if (zf Z 3) ≤ x1 then (if ¬ (zf Z 46) = 0 then (if (zf Z 46) = 0 then some (zf Z 45, Z) else some (0, zmf (zmf Z 45 (-1)) 0 1)) else (Option.bind (o_134 Z 0) fun u4 => (Option.bind (o_152 u4) fun u5 => (if (zf u5 46) = 0 then some (zf u5 45, u5) else some (0, zmf (zmf u5 45 (-1)) 0 1))))) else (if ¬ (zf Z 46) = 0 then (if ¬ (zf Z 46) = 0 then (if (zf Z 46) = 0 then some (zf Z 45, Z) else some (0, zmf (zmf Z 45 (-1)) 0 1)) else (Option.bind (o_134 Z 0) fun u10 => (Option.bind (o_152 u10) fun u11 => (if (zf u11 46) = 0 then some (zf u11 45, u11) else some (0, zmf (zmf u11 45 (-1)) 0 1))))) else (Option.bind (o_149 Z x1) fun u13 => g_159_54 n u13.2 u13.1)))
set_option maxRecDepth 100000 in
set_option maxHeartbeats 4000000 in
theorem l_159_54 {fm : Value} {sx : Nat × (Nat → Int32)} {d : Nat} {Q : Option Value → zr_Z → Prop} (hu : fm = .null ∨ ∃ q, fm = .ref q)  : ∀ (n : Nat) (Z : zr_Z) (x1 : Int32), oq (g_159_54 n Z x1) (fun x => Q (some (.int x.1)) x.2) → zw fm sx (d + 6) 159 54 [some (.ref 136), some (.int x1)] [] Z Q := by
  intro n
  induction n with
  | zero => intro Z x1 H; exact absurd H oq_none
  | succ n ih =>
    intro Z x1 H
    unfold g_159_54 at H
    refine zw_run 2 (pc' := 56) (loc' := [some (.ref 136), some (.int x1)]) (stk' := [.ref 136, .int x1]) (fun _ _ _ => rfl) ?_
    refine zw_mget (v := .int (zf Z 3)) rfl rfl ?_
    refine zw_br (c := (zf Z 3) ≤ x1) (t1 := 78) (t2 := 62) (loc' := [some (.ref 136), some (.int x1)]) (stk' := []) (fun _ _ _ => rfl) (fun c1 => ?_) (fun c1 => ?_)
    · rw [if_pos c1] at H
      refine zw_run 1 (pc' := 79) (loc' := [some (.ref 136), some (.int x1)]) (stk' := [.ref 136]) (fun _ _ _ => rfl) ?_
      refine zw_mget (v := .int (zf Z 46)) rfl rfl ?_
      refine zw_br (c := ¬ (zf Z 46) = 0) (t1 := 94) (t2 := 85) (loc' := [some (.ref 136), some (.int x1)]) (stk' := []) (fun _ _ _ => rfl) (fun c2 => ?_) (fun c2 => ?_)
      · rw [if_pos c2] at H
        refine zw_run 1 (pc' := 95) (loc' := [some (.ref 136), some (.int x1)]) (stk' := [.ref 136]) (fun _ _ _ => rfl) ?_
        refine zw_mget (v := .int (zf Z 46)) rfl rfl ?_
        refine zw_br (c := (zf Z 46) = 0) (t1 := 113) (t2 := 101) (loc' := [some (.ref 136), some (.int x1)]) (stk' := []) (fun _ _ _ => rfl) (fun c3 => ?_) (fun c3 => ?_)
        · rw [if_pos c3] at H
          refine zw_run 1 (pc' := 114) (loc' := [some (.ref 136), some (.int x1)]) (stk' := [.ref 136]) (fun _ _ _ => rfl) ?_
          refine zw_mget (v := .int (zf Z 45)) rfl rfl ?_
          refine zw_reti (i := .nop) rfl rfl ?_
          have H := oq_some H
          exact H
        · rw [if_neg c3] at H
          refine zw_run 2 (pc' := 103) (loc' := [some (.ref 136), some (.int x1)]) (stk' := [.int (-1), .ref 136]) (fun _ _ _ => rfl) ?_
          refine zw_mput rfl rfl rfl rfl ?_
          show zw fm sx (d + 6) 159 106 [some (.ref 136), some (.int x1)] [] (zmf Z 45 (-1)) Q
          refine zw_run 2 (pc' := 108) (loc' := [some (.ref 136), some (.int x1)]) (stk' := [.int 1, .ref 136]) (fun _ _ _ => rfl) ?_
          refine zw_mput rfl rfl rfl rfl ?_
          show zw fm sx (d + 6) 159 111 [some (.ref 136), some (.int x1)] [] (zmf (zmf Z 45 (-1)) 0 1) Q
          refine zw_run 1 (pc' := 112) (loc' := [some (.ref 136), some (.int x1)]) (stk' := [.int 0]) (fun _ _ _ => rfl) ?_
          refine zw_reti (i := .nop) rfl rfl ?_
          have H := oq_some H
          exact H
      · rw [if_neg c2] at H
        refine zw_run 2 (pc' := 87) (loc' := [some (.ref 136), some (.int x1)]) (stk' := [.int 0, .ref 136]) (fun _ _ _ => rfl) ?_
        obtain ⟨u4, hu4, H⟩ := oq_bind H
        refine zw_callf (As := [.ref 136, .int 0]) (rest := []) (c_134 hu 0 hu4 (d := d + 2)) rfl rfl rfl rfl ?_
        show zw fm sx (d + 6) 159 90 [some (.ref 136), some (.int x1)] [] u4 Q
        refine zw_run 1 (pc' := 91) (loc' := [some (.ref 136), some (.int x1)]) (stk' := [.ref 136]) (fun _ _ _ => rfl) ?_
        obtain ⟨u5, hu5, H⟩ := oq_bind H
        refine zw_callf (As := [.ref 136]) (rest := []) (c_152 hu hu5 (d := d + 2)) rfl rfl rfl rfl ?_
        show zw fm sx (d + 6) 159 94 [some (.ref 136), some (.int x1)] [] u5 Q
        refine zw_run 1 (pc' := 95) (loc' := [some (.ref 136), some (.int x1)]) (stk' := [.ref 136]) (fun _ _ _ => rfl) ?_
        refine zw_mget (v := .int (zf u5 46)) rfl rfl ?_
        refine zw_br (c := (zf u5 46) = 0) (t1 := 113) (t2 := 101) (loc' := [some (.ref 136), some (.int x1)]) (stk' := []) (fun _ _ _ => rfl) (fun c6 => ?_) (fun c6 => ?_)
        · rw [if_pos c6] at H
          refine zw_run 1 (pc' := 114) (loc' := [some (.ref 136), some (.int x1)]) (stk' := [.ref 136]) (fun _ _ _ => rfl) ?_
          refine zw_mget (v := .int (zf u5 45)) rfl rfl ?_
          refine zw_reti (i := .nop) rfl rfl ?_
          have H := oq_some H
          exact H
        · rw [if_neg c6] at H
          refine zw_run 2 (pc' := 103) (loc' := [some (.ref 136), some (.int x1)]) (stk' := [.int (-1), .ref 136]) (fun _ _ _ => rfl) ?_
          refine zw_mput rfl rfl rfl rfl ?_
          show zw fm sx (d + 6) 159 106 [some (.ref 136), some (.int x1)] [] (zmf u5 45 (-1)) Q
          refine zw_run 2 (pc' := 108) (loc' := [some (.ref 136), some (.int x1)]) (stk' := [.int 1, .ref 136]) (fun _ _ _ => rfl) ?_
          refine zw_mput rfl rfl rfl rfl ?_
          show zw fm sx (d + 6) 159 111 [some (.ref 136), some (.int x1)] [] (zmf (zmf u5 45 (-1)) 0 1) Q
          refine zw_run 1 (pc' := 112) (loc' := [some (.ref 136), some (.int x1)]) (stk' := [.int 0]) (fun _ _ _ => rfl) ?_
          refine zw_reti (i := .nop) rfl rfl ?_
          have H := oq_some H
          exact H
    · rw [if_neg c1] at H
      refine zw_run 1 (pc' := 63) (loc' := [some (.ref 136), some (.int x1)]) (stk' := [.ref 136]) (fun _ _ _ => rfl) ?_
      refine zw_mget (v := .int (zf Z 46)) rfl rfl ?_
      refine zw_br (c := ¬ (zf Z 46) = 0) (t1 := 78) (t2 := 69) (loc' := [some (.ref 136), some (.int x1)]) (stk' := []) (fun _ _ _ => rfl) (fun c7 => ?_) (fun c7 => ?_)
      · rw [if_pos c7] at H
        refine zw_run 1 (pc' := 79) (loc' := [some (.ref 136), some (.int x1)]) (stk' := [.ref 136]) (fun _ _ _ => rfl) ?_
        refine zw_mget (v := .int (zf Z 46)) rfl rfl ?_
        refine zw_br (c := ¬ (zf Z 46) = 0) (t1 := 94) (t2 := 85) (loc' := [some (.ref 136), some (.int x1)]) (stk' := []) (fun _ _ _ => rfl) (fun c8 => ?_) (fun c8 => ?_)
        · rw [if_pos c8] at H
          refine zw_run 1 (pc' := 95) (loc' := [some (.ref 136), some (.int x1)]) (stk' := [.ref 136]) (fun _ _ _ => rfl) ?_
          refine zw_mget (v := .int (zf Z 46)) rfl rfl ?_
          refine zw_br (c := (zf Z 46) = 0) (t1 := 113) (t2 := 101) (loc' := [some (.ref 136), some (.int x1)]) (stk' := []) (fun _ _ _ => rfl) (fun c9 => ?_) (fun c9 => ?_)
          · rw [if_pos c9] at H
            refine zw_run 1 (pc' := 114) (loc' := [some (.ref 136), some (.int x1)]) (stk' := [.ref 136]) (fun _ _ _ => rfl) ?_
            refine zw_mget (v := .int (zf Z 45)) rfl rfl ?_
            refine zw_reti (i := .nop) rfl rfl ?_
            have H := oq_some H
            exact H
          · rw [if_neg c9] at H
            refine zw_run 2 (pc' := 103) (loc' := [some (.ref 136), some (.int x1)]) (stk' := [.int (-1), .ref 136]) (fun _ _ _ => rfl) ?_
            refine zw_mput rfl rfl rfl rfl ?_
            show zw fm sx (d + 6) 159 106 [some (.ref 136), some (.int x1)] [] (zmf Z 45 (-1)) Q
            refine zw_run 2 (pc' := 108) (loc' := [some (.ref 136), some (.int x1)]) (stk' := [.int 1, .ref 136]) (fun _ _ _ => rfl) ?_
            refine zw_mput rfl rfl rfl rfl ?_
            show zw fm sx (d + 6) 159 111 [some (.ref 136), some (.int x1)] [] (zmf (zmf Z 45 (-1)) 0 1) Q
            refine zw_run 1 (pc' := 112) (loc' := [some (.ref 136), some (.int x1)]) (stk' := [.int 0]) (fun _ _ _ => rfl) ?_
            refine zw_reti (i := .nop) rfl rfl ?_
            have H := oq_some H
            exact H
        · rw [if_neg c8] at H
          refine zw_run 2 (pc' := 87) (loc' := [some (.ref 136), some (.int x1)]) (stk' := [.int 0, .ref 136]) (fun _ _ _ => rfl) ?_
          obtain ⟨u10, hu10, H⟩ := oq_bind H
          refine zw_callf (As := [.ref 136, .int 0]) (rest := []) (c_134 hu 0 hu10 (d := d + 2)) rfl rfl rfl rfl ?_
          show zw fm sx (d + 6) 159 90 [some (.ref 136), some (.int x1)] [] u10 Q
          refine zw_run 1 (pc' := 91) (loc' := [some (.ref 136), some (.int x1)]) (stk' := [.ref 136]) (fun _ _ _ => rfl) ?_
          obtain ⟨u11, hu11, H⟩ := oq_bind H
          refine zw_callf (As := [.ref 136]) (rest := []) (c_152 hu hu11 (d := d + 2)) rfl rfl rfl rfl ?_
          show zw fm sx (d + 6) 159 94 [some (.ref 136), some (.int x1)] [] u11 Q
          refine zw_run 1 (pc' := 95) (loc' := [some (.ref 136), some (.int x1)]) (stk' := [.ref 136]) (fun _ _ _ => rfl) ?_
          refine zw_mget (v := .int (zf u11 46)) rfl rfl ?_
          refine zw_br (c := (zf u11 46) = 0) (t1 := 113) (t2 := 101) (loc' := [some (.ref 136), some (.int x1)]) (stk' := []) (fun _ _ _ => rfl) (fun c12 => ?_) (fun c12 => ?_)
          · rw [if_pos c12] at H
            refine zw_run 1 (pc' := 114) (loc' := [some (.ref 136), some (.int x1)]) (stk' := [.ref 136]) (fun _ _ _ => rfl) ?_
            refine zw_mget (v := .int (zf u11 45)) rfl rfl ?_
            refine zw_reti (i := .nop) rfl rfl ?_
            have H := oq_some H
            exact H
          · rw [if_neg c12] at H
            refine zw_run 2 (pc' := 103) (loc' := [some (.ref 136), some (.int x1)]) (stk' := [.int (-1), .ref 136]) (fun _ _ _ => rfl) ?_
            refine zw_mput rfl rfl rfl rfl ?_
            show zw fm sx (d + 6) 159 106 [some (.ref 136), some (.int x1)] [] (zmf u11 45 (-1)) Q
            refine zw_run 2 (pc' := 108) (loc' := [some (.ref 136), some (.int x1)]) (stk' := [.int 1, .ref 136]) (fun _ _ _ => rfl) ?_
            refine zw_mput rfl rfl rfl rfl ?_
            show zw fm sx (d + 6) 159 111 [some (.ref 136), some (.int x1)] [] (zmf (zmf u11 45 (-1)) 0 1) Q
            refine zw_run 1 (pc' := 112) (loc' := [some (.ref 136), some (.int x1)]) (stk' := [.int 0]) (fun _ _ _ => rfl) ?_
            refine zw_reti (i := .nop) rfl rfl ?_
            have H := oq_some H
            exact H
      · rw [if_neg c7] at H
        refine zw_run 2 (pc' := 71) (loc' := [some (.ref 136), some (.int x1)]) (stk' := [.int x1, .ref 136]) (fun _ _ _ => rfl) ?_
        obtain ⟨u13, hu13, H⟩ := oq_bind H
        refine zw_callf (As := [.ref 136, .int x1]) (rest := []) (c_149 hu x1 hu13 (d := d + 0)) rfl rfl rfl rfl ?_
        show zw fm sx (d + 6) 159 74 [some (.ref 136), some (.int x1)] [.int u13.1] u13.2 Q
        refine zw_run 2 (pc' := 54) (loc' := [some (.ref 136), some (.int u13.1)]) (stk' := []) (fun _ _ _ => rfl) ?_
        exact ih u13.2 u13.1 H
/-- MarkInlinesModel.read -/
def o_159 (Z : zr_Z)  : Option (Int32 × zr_Z) := (if inq 150 0 then g_159_54 oF (zmf (zmf (zmf (zmf (zmf (zar (zmf (zmf (zmf (zmf Z 0 0) 10 0) 20 0) 21 0) 150 0 0) 28 0) 35 0) 36 0) 46 0) 47 (-1)) 0 else none)
set_option maxRecDepth 100000 in
set_option maxHeartbeats 4000000 in
theorem t_159 {fm : Value} {sx : Nat × (Nat → Int32)} {d : Nat} {Z : zr_Z} {Q : Option Value → zr_Z → Prop} (hu : fm = .null ∨ ∃ q, fm = .ref q)  (H : oq (o_159 Z) (fun x => Q (some (.int x.1)) x.2)) : zw fm sx (d + 6) 159 0 [some (.ref 136), none] [] Z Q := by
  unfold o_159 at H
  refine zw_run 2 (pc' := 2) (loc' := [some (.ref 136), none]) (stk' := [.int 0, .ref 136]) (fun _ _ _ => rfl) ?_
  refine zw_mput rfl rfl rfl rfl ?_
  show zw fm sx (d + 6) 159 5 [some (.ref 136), none] [] (zmf Z 0 0) Q
  refine zw_run 2 (pc' := 7) (loc' := [some (.ref 136), none]) (stk' := [.int 0, .ref 136]) (fun _ _ _ => rfl) ?_
  refine zw_mput rfl rfl rfl rfl ?_
  show zw fm sx (d + 6) 159 10 [some (.ref 136), none] [] (zmf (zmf Z 0 0) 10 0) Q
  refine zw_run 2 (pc' := 12) (loc' := [some (.ref 136), none]) (stk' := [.int 0, .ref 136]) (fun _ _ _ => rfl) ?_
  refine zw_mput rfl rfl rfl rfl ?_
  show zw fm sx (d + 6) 159 15 [some (.ref 136), none] [] (zmf (zmf (zmf Z 0 0) 10 0) 20 0) Q
  refine zw_run 2 (pc' := 17) (loc' := [some (.ref 136), none]) (stk' := [.int 0, .ref 136]) (fun _ _ _ => rfl) ?_
  refine zw_mput rfl rfl rfl rfl ?_
  show zw fm sx (d + 6) 159 20 [some (.ref 136), none] [] (zmf (zmf (zmf (zmf Z 0 0) 10 0) 20 0) 21 0) Q
  refine zw_run 1 (pc' := 21) (loc' := [some (.ref 136), none]) (stk' := [.ref 136]) (fun _ _ _ => rfl) ?_
  refine zw_mget (v := .ref 150) rfl rfl ?_
  refine zw_run 2 (pc' := 26) (loc' := [some (.ref 136), none]) (stk' := [.int 0, .int 0, .ref 150]) (fun _ _ _ => rfl) ?_
  obtain ⟨b1, H⟩ := oq_ob H
  refine zw_iast (j := 150) rfl (by decide) (by decide) rfl b1 ?_
  show zw fm sx (d + 6) 159 27 [some (.ref 136), none] [] (zar (zmf (zmf (zmf (zmf Z 0 0) 10 0) 20 0) 21 0) 150 0 0) Q
  refine zw_run 2 (pc' := 29) (loc' := [some (.ref 136), none]) (stk' := [.int 0, .ref 136]) (fun _ _ _ => rfl) ?_
  refine zw_mput rfl rfl rfl rfl ?_
  show zw fm sx (d + 6) 159 32 [some (.ref 136), none] [] (zmf (zar (zmf (zmf (zmf (zmf Z 0 0) 10 0) 20 0) 21 0) 150 0 0) 28 0) Q
  refine zw_run 2 (pc' := 34) (loc' := [some (.ref 136), none]) (stk' := [.int 0, .ref 136]) (fun _ _ _ => rfl) ?_
  refine zw_mput rfl rfl rfl rfl ?_
  show zw fm sx (d + 6) 159 37 [some (.ref 136), none] [] (zmf (zmf (zar (zmf (zmf (zmf (zmf Z 0 0) 10 0) 20 0) 21 0) 150 0 0) 28 0) 35 0) Q
  refine zw_run 2 (pc' := 39) (loc' := [some (.ref 136), none]) (stk' := [.int 0, .ref 136]) (fun _ _ _ => rfl) ?_
  refine zw_mput rfl rfl rfl rfl ?_
  show zw fm sx (d + 6) 159 42 [some (.ref 136), none] [] (zmf (zmf (zmf (zar (zmf (zmf (zmf (zmf Z 0 0) 10 0) 20 0) 21 0) 150 0 0) 28 0) 35 0) 36 0) Q
  refine zw_run 2 (pc' := 44) (loc' := [some (.ref 136), none]) (stk' := [.int 0, .ref 136]) (fun _ _ _ => rfl) ?_
  refine zw_mput rfl rfl rfl rfl ?_
  show zw fm sx (d + 6) 159 47 [some (.ref 136), none] [] (zmf (zmf (zmf (zmf (zar (zmf (zmf (zmf (zmf Z 0 0) 10 0) 20 0) 21 0) 150 0 0) 28 0) 35 0) 36 0) 46 0) Q
  refine zw_run 2 (pc' := 49) (loc' := [some (.ref 136), none]) (stk' := [.int (-1), .ref 136]) (fun _ _ _ => rfl) ?_
  refine zw_mput rfl rfl rfl rfl ?_
  show zw fm sx (d + 6) 159 52 [some (.ref 136), none] [] (zmf (zmf (zmf (zmf (zmf (zar (zmf (zmf (zmf (zmf Z 0 0) 10 0) 20 0) 21 0) 150 0 0) 28 0) 35 0) 36 0) 46 0) 47 (-1)) Q
  refine zw_run 2 (pc' := 54) (loc' := [some (.ref 136), some (.int 0)]) (stk' := []) (fun _ _ _ => rfl) ?_
  exact l_159_54 hu _ (zmf (zmf (zmf (zmf (zmf (zar (zmf (zmf (zmf (zmf Z 0 0) 10 0) 20 0) 21 0) 150 0 0) 28 0) 35 0) 36 0) 46 0) 47 (-1)) 0 H
theorem c_159 {fm : Value} {sx : Nat × (Nat → Int32)} {d : Nat} {Z : zr_Z} (hu : fm = .null ∨ ∃ q, fm = .ref q)  {x : Int32 × zr_Z} (hx : o_159 Z = some x) : zl fm sx (d + 7) 159 [.ref 136] Z (fun r Z' => r = some (.int x.1) ∧ Z' = x.2) :=
  zl_of (nL := 2) (loc0 := [some (.ref 136), none]) rfl rfl rfl (t_159 hu ⟨x, hx, rfl, rfl⟩)
