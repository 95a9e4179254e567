/-! walks into Option; written by wip/whole/gen_opt.py -/
/-- MarkInlinesModel.isReference, its loop at 267 -/
def g_113_267 : Nat → zr_Z → Int32 → Int32 → Int32 → Int32 → Bool → (zr_Z → Int32 → Option (Bool × zr_Z)) → Option (Bool × zr_Z)
  | 0, _, _, _, _, _, _, _ => none
  | n + 1, Z, k, x2, x3, x4, y5, K239 => (if sok Z then (if inq 173 x2 then (if (zv Z 173 x2) = 0 then (if y5 = true then (if ¬ (ra Z x4) = 59 then K239 Z (x2 + 1) else some (true, zmf (zmf Z 50 (x4 + 1)) 51 x3)) else K239 Z (x2 + 1)) else (if (if y5 = true then (inq 173 x2 ∧ (if ¬ (ra Z x4) = (zv Z 173 x2) then True else True)) else True) then (olet ((y5 && (decide ((ra Z x4) = (zv Z 173 x2)))) : Bool) fun y10 => g_113_267 n Z k (x2 + 1) x3 (x4 + 1) y10 K239) else none)) else none) else none)
set_option maxRecDepth 100000 in
set_option maxHeartbeats 4000000 in
theorem l_113_267 {fm : Value} {sx : Nat × (Nat → Int32)} {d : Nat} {Q : Option Value → zr_Z → Prop} (hu : fm = .null ∨ ∃ q, fm = .ref q) (k : Int32) (K239 : zr_Z → Int32 → Option (Bool × zr_Z)) (HK239 : ∀ (Z : zr_Z) (x2 : Int32), oq (K239 Z x2) (fun x => Q (some (.int (bI x.1))) x.2) → zw fm sx (d + 2) 113 239 [some (.ref 136), some (.int k), some (.int x2), none, none, none] [] Z Q) : ∀ (n : Nat) (Z : zr_Z) (x2 : Int32) (x3 : Int32) (x4 : Int32) (y5 : Bool), oq (g_113_267 n Z k x2 x3 x4 y5 K239) (fun x => Q (some (.int (bI x.1))) x.2) → zw fm sx (d + 2) 113 267 [some (.ref 136), some (.int k), some (.int x2), some (.int x3), some (.int x4), some (.int (bI y5))] [] Z Q := by
  intro n
  induction n with
  | zero => intro Z x2 x3 x4 y5 H; exact absurd H oq_none
  | succ n ih =>
    intro Z x2 x3 x4 y5 H
    unfold g_113_267 at H
    obtain ⟨hS, H⟩ := oq_ob H
    refine zw_run 1 (pc' := 268) (loc' := [some (.ref 136), some (.int k), some (.int x2), some (.int x3), some (.int x4), some (.int (bI y5))]) (stk' := [.ref 136]) (fun _ _ _ => rfl) ?_
    refine zw_mget (v := .ref 173) rfl rfl ?_
    refine zw_run 1 (pc' := 272) (loc' := [some (.ref 136), some (.int k), some (.int x2), some (.int x3), some (.int x4), some (.int (bI y5))]) (stk' := [.int x2, .ref 173]) (fun _ _ _ => rfl) ?_
    obtain ⟨b1, H⟩ := oq_ob H
    refine zw_iald (j := 173) rfl (by decide) (by decide) rfl b1 ?_
    refine zw_br (c := (zv Z 173 x2) = 0) (t1 := 312) (t2 := 276) (loc' := [some (.ref 136), some (.int k), some (.int x2), some (.int x3), some (.int x4), some (.int (bI y5))]) (stk' := []) (fun _ _ _ => rfl) (fun c2 => ?_) (fun c2 => ?_)
    · rw [if_pos c2] at H
      refine zw_run 2 (pc' := 317) (loc' := [some (.ref 136), some (.int k), some (.int (x2 + 1)), some (.int x3), some (.int x4), some (.int (bI y5))]) (stk' := [.int (bI y5)]) (fun _ _ _ => rfl) ?_
      refine zw_b0 (b := y5) (t1 := 320) (t2 := 346) (loc' := [some (.ref 136), some (.int k), some (.int (x2 + 1)), some (.int x3), some (.int x4), some (.int (bI y5))]) (stk' := []) (fun _ _ _ => rfl) (fun c3 => ?_) (fun c3 => ?_)
      · rw [if_pos c3] at H
        refine zw_run 2 (pc' := 323) (loc' := [some (.ref 136), some (.int k), some (.int (x2 + 1)), some (.int x3), some (.int x4), some (.int (bI y5))]) (stk' := [.int x4, .ref 136]) (fun _ _ _ => rfl) ?_
        refine zw_callf (As := [.ref 136, .int x4]) (rest := []) (c_183 (Z := Z) hS x4 (d := d + 1)) rfl rfl rfl rfl ?_
        show zw fm sx (d + 2) 113 326 [some (.ref 136), some (.int k), some (.int (x2 + 1)), some (.int x3), some (.int x4), some (.int (bI y5))] [.int (ra Z x4)] Z Q
        refine zw_run 1 (pc' := 328) (loc' := [some (.ref 136), some (.int k), some (.int (x2 + 1)), some (.int x3), some (.int x4), some (.int (bI y5))]) (stk' := [.int 59, .int (ra Z x4)]) (fun _ _ _ => rfl) ?_
        refine zw_br (c := ¬ (ra Z x4) = 59) (t1 := 346) (t2 := 331) (loc' := [some (.ref 136), some (.int k), some (.int (x2 + 1)), some (.int x3), some (.int x4), some (.int (bI y5))]) (stk' := []) (fun _ _ _ => rfl) (fun c4 => ?_) (fun c4 => ?_)
        · rw [if_pos c4] at H
          refine zw_run 1 (pc' := 239) (loc' := [some (.ref 136), some (.int k), some (.int (x2 + 1)), some (.int x3), some (.int x4), some (.int (bI y5))]) (stk' := []) (fun _ _ _ => rfl) ?_
          refine zw_fgt [true, true, true, false, false, false] rfl ?_
          exact HK239 Z (x2 + 1) H
        · rw [if_neg c4] at H
          refine zw_run 4 (pc' := 336) (loc' := [some (.ref 136), some (.int k), some (.int (x2 + 1)), some (.int x3), some (.int x4), some (.int (bI y5))]) (stk' := [.int (x4 + 1), .ref 136]) (fun _ _ _ => rfl) ?_
          refine zw_mput rfl rfl rfl rfl ?_
          show zw fm sx (d + 2) 113 339 [some (.ref 136), some (.int k), some (.int (x2 + 1)), some (.int x3), some (.int x4), some (.int (bI y5))] [] (zmf Z 50 (x4 + 1)) Q
          refine zw_run 2 (pc' := 341) (loc' := [some (.ref 136), some (.int k), some (.int (x2 + 1)), some (.int x3), some (.int x4), some (.int (bI y5))]) (stk' := [.int x3, .ref 136]) (fun _ _ _ => rfl) ?_
          refine zw_mput rfl rfl rfl rfl ?_
          show zw fm sx (d + 2) 113 344 [some (.ref 136), some (.int k), some (.int (x2 + 1)), some (.int x3), some (.int x4), some (.int (bI y5))] [] (zmf (zmf Z 50 (x4 + 1)) 51 x3) Q
          refine zw_run 1 (pc' := 345) (loc' := [some (.ref 136), some (.int k), some (.int (x2 + 1)), some (.int x3), some (.int x4), some (.int (bI y5))]) (stk' := [.int 1]) (fun _ _ _ => rfl) ?_
          refine zw_retz rfl rfl (Or.inr rfl) ?_
          have H := oq_some H
          exact H
      · rw [if_neg c3] at H
        refine zw_run 1 (pc' := 239) (loc' := [some (.ref 136), some (.int k), some (.int (x2 + 1)), some (.int x3), some (.int x4), some (.int (bI y5))]) (stk' := []) (fun _ _ _ => rfl) ?_
        refine zw_fgt [true, true, true, false, false, false] rfl ?_
        exact HK239 Z (x2 + 1) H
    · rw [if_neg c2] at H
      refine zw_run 1 (pc' := 278) (loc' := [some (.ref 136), some (.int k), some (.int x2), some (.int x3), some (.int x4), some (.int (bI y5))]) (stk' := [.int (bI y5)]) (fun _ _ _ => rfl) ?_
      obtain ⟨HR, H⟩ := oq_ob H
      have J9 : ∀ (v8 : Int32), v8 = (bI (y5 && (decide ((ra Z x4) = (zv Z 173 x2))))) → zw fm sx (d + 2) 113 301 [some (.ref 136), some (.int k), some (.int x2), some (.int x3), some (.int x4), some (.int (bI y5))] [.int v8] Z Q := by
        intro v8 ev8
        subst ev8
        refine zw_run 1 (pc' := 303) (loc' := [some (.ref 136), some (.int k), some (.int x2), some (.int x3), some (.int x4), some (.int (bI (y5 && (decide ((ra Z x4) = (zv Z 173 x2))))))]) (stk' := []) (fun _ _ _ => rfl) ?_
        obtain ⟨y10, hy10⟩ : ∃ w : Bool, w = (y5 && (decide ((ra Z x4) = (zv Z 173 x2)))) := ⟨_, rfl⟩
        rw [← hy10]
        have H := oq_let H y10 hy10
        refine zw_run 3 (pc' := 267) (loc' := [some (.ref 136), some (.int k), some (.int (x2 + 1)), some (.int x3), some (.int (x4 + 1)), some (.int (bI y10))]) (stk' := []) (fun _ _ _ => rfl) ?_
        exact ih Z (x2 + 1) x3 (x4 + 1) y10 H
      clear H
      have H := HR
      refine zw_b0 (b := y5) (t1 := 281) (t2 := 300) (loc' := [some (.ref 136), some (.int k), some (.int x2), some (.int x3), some (.int x4), some (.int (bI y5))]) (stk' := []) (fun _ _ _ => rfl) (fun c5 => ?_) (fun c5 => ?_)
      · rw [if_pos c5] at H
        refine zw_run 2 (pc' := 284) (loc' := [some (.ref 136), some (.int k), some (.int x2), some (.int x3), some (.int x4), some (.int (bI y5))]) (stk' := [.int x4, .ref 136]) (fun _ _ _ => rfl) ?_
        refine zw_callf (As := [.ref 136, .int x4]) (rest := []) (c_183 (Z := Z) hS x4 (d := d + 1)) rfl rfl rfl rfl ?_
        show zw fm sx (d + 2) 113 287 [some (.ref 136), some (.int k), some (.int x2), some (.int x3), some (.int x4), some (.int (bI y5))] [.int (ra Z x4)] Z Q
        refine zw_run 1 (pc' := 288) (loc' := [some (.ref 136), some (.int k), some (.int x2), some (.int x3), some (.int x4), some (.int (bI y5))]) (stk' := [.ref 136, .int (ra Z x4)]) (fun _ _ _ => rfl) ?_
        refine zw_mget (v := .ref 173) rfl rfl ?_
        refine zw_run 1 (pc' := 292) (loc' := [some (.ref 136), some (.int k), some (.int x2), some (.int x3), some (.int x4), some (.int (bI y5))]) (stk' := [.int x2, .ref 173, .int (ra Z x4)]) (fun _ _ _ => rfl) ?_
        obtain ⟨b6, H⟩ := H
        refine zw_iald (j := 173) rfl (by decide) (by decide) rfl b6 ?_
        refine zw_br (c := ¬ (ra Z x4) = (zv Z 173 x2)) (t1 := 300) (t2 := 296) (loc' := [some (.ref 136), some (.int k), some (.int x2), some (.int x3), some (.int x4), some (.int (bI y5))]) (stk' := []) (fun _ _ _ => rfl) (fun c7 => ?_) (fun c7 => ?_)
        · rw [if_pos c7] at H
          refine zw_run 1 (pc' := 301) (loc' := [some (.ref 136), some (.int k), some (.int x2), some (.int x3), some (.int x4), some (.int (bI y5))]) (stk' := [.int 0]) (fun _ _ _ => rfl) ?_
          exact J9 _ (by clear H J9; first | (simp [bI, c5, c7]; done) | (simp [bI, *]; done) | (simp_all [bI]; done) | (exfalso; simp_all; done))
        · rw [if_neg c7] at H
          refine zw_run 2 (pc' := 301) (loc' := [some (.ref 136), some (.int k), some (.int x2), some (.int x3), some (.int x4), some (.int (bI y5))]) (stk' := [.int 1]) (fun _ _ _ => rfl) ?_
          exact J9 _ (by clear H J9; first | (simp [bI, c5, c7]; done) | (simp [bI, *]; done) | (simp_all [bI]; done) | (exfalso; simp_all; done))
      · rw [if_neg c5] at H
        refine zw_run 1 (pc' := 301) (loc' := [some (.ref 136), some (.int k), some (.int x2), some (.int x3), some (.int x4), some (.int (bI y5))]) (stk' := [.int 0]) (fun _ _ _ => rfl) ?_
        exact J9 _ (by clear H J9; first | (simp [bI, c5]; done) | (simp [bI, *]; done) | (simp_all [bI]; done) | (exfalso; simp_all; done))
/-- MarkInlinesModel.isReference, its loop at 239 -/
def g_113_239 : Nat → zr_Z → Int32 → Int32 → Option (Bool × zr_Z)
  | 0, _, _, _ => none
  | n + 1, Z, k, x2 => (if sok Z then (if inq 173 x2 then (if (zv Z 173 x2) = (-1) then some (false, Z) else (if inq 173 x2 then g_113_267 oF Z k (x2 + 1) (zv Z 173 x2) (k + 1) true (fun Z x2 => g_113_239 n Z k x2) else none)) else none) else none)
set_option maxRecDepth 100000 in
set_option maxHeartbeats 4000000 in
theorem l_113_239 {fm : Value} {sx : Nat × (Nat → Int32)} {d : Nat} {Q : Option Value → zr_Z → Prop} (hu : fm = .null ∨ ∃ q, fm = .ref q) (k : Int32) : ∀ (n : Nat) (Z : zr_Z) (x2 : Int32), oq (g_113_239 n Z k x2) (fun x => Q (some (.int (bI x.1))) x.2) → zw fm sx (d + 2) 113 239 [some (.ref 136), some (.int k), some (.int x2), none, none, none] [] Z Q := by
  intro n
  induction n with
  | zero => intro Z x2 H; exact absurd H oq_none
  | succ n ih =>
    intro Z x2 H
    unfold g_113_239 at H
    obtain ⟨hS, H⟩ := oq_ob H
    refine zw_run 1 (pc' := 240) (loc' := [some (.ref 136), some (.int k), some (.int x2), none, none, none]) (stk' := [.ref 136]) (fun _ _ _ => rfl) ?_
    refine zw_mget (v := .ref 173) rfl rfl ?_
    refine zw_run 1 (pc' := 244) (loc' := [some (.ref 136), some (.int k), some (.int x2), none, none, none]) (stk' := [.int x2, .ref 173]) (fun _ _ _ => rfl) ?_
    obtain ⟨b1, H⟩ := oq_ob H
    refine zw_iald (j := 173) rfl (by decide) (by decide) rfl b1 ?_
    refine zw_run 1 (pc' := 246) (loc' := [some (.ref 136), some (.int k), some (.int x2), none, none, none]) (stk' := [.int (-1), .int (zv Z 173 x2)]) (fun _ _ _ => rfl) ?_
    refine zw_br (c := (zv Z 173 x2) = (-1)) (t1 := 349) (t2 := 249) (loc' := [some (.ref 136), some (.int k), some (.int x2), none, none, none]) (stk' := []) (fun _ _ _ => rfl) (fun c2 => ?_) (fun c2 => ?_)
    · rw [if_pos c2] at H
      refine zw_run 1 (pc' := 350) (loc' := [some (.ref 136), some (.int k), some (.int x2), none, none, none]) (stk' := [.int 0]) (fun _ _ _ => rfl) ?_
      refine zw_retz rfl rfl (Or.inl rfl) ?_
      have H := oq_some H
      exact H
    · rw [if_neg c2] at H
      refine zw_run 1 (pc' := 250) (loc' := [some (.ref 136), some (.int k), some (.int x2), none, none, none]) (stk' := [.ref 136]) (fun _ _ _ => rfl) ?_
      refine zw_mget (v := .ref 173) rfl rfl ?_
      refine zw_run 1 (pc' := 254) (loc' := [some (.ref 136), some (.int k), some (.int x2), none, none, none]) (stk' := [.int x2, .ref 173]) (fun _ _ _ => rfl) ?_
      obtain ⟨b3, H⟩ := oq_ob H
      refine zw_iald (j := 173) rfl (by decide) (by decide) rfl b3 ?_
      refine zw_run 8 (pc' := 267) (loc' := [some (.ref 136), some (.int k), some (.int (x2 + 1)), some (.int (zv Z 173 x2)), some (.int (k + 1)), some (.int 1)]) (stk' := []) (fun _ _ _ => rfl) ?_
      exact l_113_267 hu k _ (fun Z x2 q => ih Z x2 q) _ Z (x2 + 1) (zv Z 173 x2) (k + 1) true H
/-- MarkInlinesModel.isReference, its loop at 74 -/
def g_113_74 : Nat → zr_Z → Int32 → Bool → Int32 → Int32 → Int32 → Option (Bool × zr_Z)
  | 0, _, _, _, _, _, _ => none
  | n + 1, Z, k, y2, x3, x4, x5 => (if sok Z then (if 8 ≤ x4 then some (((!(decide (x4 ≤ 0))) && ((!(decide ((if y2 = true then 6 else 7 : Int32) < x4))) && (decide ((ra Z x3) = 59)))), zmf (zmf Z 50 (x3 + 1)) 51 (if x5 = 0 then 65533 else (if 1114111 < x5 then 65533 else (if x5 ≤ 55295 then x5 else (if 57344 ≤ x5 then x5 else 65533 : Int32) : Int32) : Int32) : Int32)) else (if y2 = true then (if (k_112 (ra Z x3)) < 0 then some (((!(decide (x4 ≤ 0))) && ((!(decide ((if y2 = true then 6 else 7 : Int32) < x4))) && (decide ((ra Z x3) = 59)))), zmf (zmf Z 50 (x3 + 1)) 51 (if x5 = 0 then 65533 else (if 1114111 < x5 then 65533 else (if x5 ≤ 55295 then x5 else (if 57344 ≤ x5 then x5 else 65533 : Int32) : Int32) : Int32) : Int32)) else (olet ((if y2 = true then ((16 * x5) + (k_112 (ra Z x3))) else (((10 * x5) + (ra Z x3)) - 48) : Int32) : Int32) fun x35 => g_113_74 n Z k y2 (x3 + 1) (x4 + 1) x35)) else (if (k_165 (ra Z x3)) = true then (olet ((if y2 = true then ((16 * x5) + (k_112 (ra Z x3))) else (((10 * x5) + (ra Z x3)) - 48) : Int32) : Int32) fun x40 => g_113_74 n Z k y2 (x3 + 1) (x4 + 1) x40) else some (((!(decide (x4 ≤ 0))) && ((!(decide ((if y2 = true then 6 else 7 : Int32) < x4))) && (decide ((ra Z x3) = 59)))), zmf (zmf Z 50 (x3 + 1)) 51 (if x5 = 0 then 65533 else (if 1114111 < x5 then 65533 else (if x5 ≤ 55295 then x5 else (if 57344 ≤ x5 then x5 else 65533 : Int32) : Int32) : Int32) : Int32))))) else none)
set_option maxRecDepth 100000 in
set_option maxHeartbeats 4000000 in
theorem l_113_74 {fm : Value} {sx : Nat × (Nat → Int32)} {d : Nat} {Q : Option Value → zr_Z → Prop} (hu : fm = .null ∨ ∃ q, fm = .ref q) (k : Int32) : ∀ (n : Nat) (Z : zr_Z) (y2 : Bool) (x3 : Int32) (x4 : Int32) (x5 : Int32), oq (g_113_74 n Z k y2 x3 x4 x5) (fun x => Q (some (.int (bI x.1))) x.2) → zw fm sx (d + 2) 113 74 [some (.ref 136), none, some (.int (bI y2)), some (.int x3), some (.int x4), some (.int x5)] [] Z Q := by
  intro n
  induction n with
  | zero => intro Z y2 x3 x4 x5 H; exact absurd H oq_none
  | succ n ih =>
    intro Z y2 x3 x4 x5 H
    unfold g_113_74 at H
    obtain ⟨hS, H⟩ := oq_ob H
    refine zw_run 2 (pc' := 78) (loc' := [some (.ref 136), none, some (.int (bI y2)), some (.int x3), some (.int x4), some (.int x5)]) (stk' := [.int 8, .int x4]) (fun _ _ _ => rfl) ?_
    refine zw_br (c := 8 ≤ x4) (t1 := 156) (t2 := 81) (loc' := [some (.ref 136), none, some (.int (bI y2)), some (.int x3), some (.int x4), some (.int x5)]) (stk' := []) (fun _ _ _ => rfl) (fun c1 => ?_) (fun c1 => ?_)
    · rw [if_pos c1] at H
      refine zw_run 4 (pc' := 160) (loc' := [some (.ref 136), none, some (.int (bI y2)), some (.int x3), some (.int x4), some (.int x5)]) (stk' := [.int (x3 + 1), .ref 136]) (fun _ _ _ => rfl) ?_
      refine zw_mput rfl rfl rfl rfl ?_
      show zw fm sx (d + 2) 113 163 [some (.ref 136), none, some (.int (bI y2)), some (.int x3), some (.int x4), some (.int x5)] [] (zmf Z 50 (x3 + 1)) Q
      refine zw_run 2 (pc' := 166) (loc' := [some (.ref 136), none, some (.int (bI y2)), some (.int x3), some (.int x4), some (.int x5)]) (stk' := [.int x5, .ref 136]) (fun _ _ _ => rfl) ?_
      have J7 : ∀ (v6 : Int32), v6 = (if x5 = 0 then 65533 else (if 1114111 < x5 then 65533 else (if x5 ≤ 55295 then x5 else (if 57344 ≤ x5 then x5 else 65533 : Int32) : Int32) : Int32) : Int32) → zw fm sx (d + 2) 113 197 [some (.ref 136), none, some (.int (bI y2)), some (.int x3), some (.int x4), some (.int x5)] [.int v6, .ref 136] (zmf Z 50 (x3 + 1)) Q := by
        intro v6 ev6
        subst ev6
        refine zw_mput rfl rfl rfl rfl ?_
        show zw fm sx (d + 2) 113 200 [some (.ref 136), none, some (.int (bI y2)), some (.int x3), some (.int x4), some (.int x5)] [] (zmf (zmf Z 50 (x3 + 1)) 51 (if x5 = 0 then 65533 else (if 1114111 < x5 then 65533 else (if x5 ≤ 55295 then x5 else (if 57344 ≤ x5 then x5 else 65533 : Int32) : Int32) : Int32) : Int32)) Q
        refine zw_run 1 (pc' := 202) (loc' := [some (.ref 136), none, some (.int (bI y2)), some (.int x3), some (.int x4), some (.int x5)]) (stk' := [.int x4]) (fun _ _ _ => rfl) ?_
        have J15 : ∀ (v14 : Int32), v14 = (bI ((!(decide (x4 ≤ 0))) && ((!(decide ((if y2 = true then 6 else 7 : Int32) < x4))) && (decide ((ra Z x3) = 59))))) → zw fm sx (d + 2) 113 236 [some (.ref 136), none, some (.int (bI y2)), some (.int x3), some (.int x4), some (.int x5)] [.int v14] (zmf (zmf Z 50 (x3 + 1)) 51 (if x5 = 0 then 65533 else (if 1114111 < x5 then 65533 else (if x5 ≤ 55295 then x5 else (if 57344 ≤ x5 then x5 else 65533 : Int32) : Int32) : Int32) : Int32)) Q := by
          intro v14 ev14
          subst ev14
          refine zw_retz rfl rfl (bI_01 _) ?_
          have H := oq_some H
          exact H
        refine zw_br (c := x4 ≤ 0) (t1 := 235) (t2 := 205) (loc' := [some (.ref 136), none, some (.int (bI y2)), some (.int x3), some (.int x4), some (.int x5)]) (stk' := []) (fun _ _ _ => rfl) (fun c8 => ?_) (fun c8 => ?_)
        · skip
          refine zw_run 1 (pc' := 236) (loc' := [some (.ref 136), none, some (.int (bI y2)), some (.int x3), some (.int x4), some (.int x5)]) (stk' := [.int 0]) (fun _ _ _ => rfl) ?_
          exact J15 _ (by clear H J15; first | (simp [bI, c8]; done) | (simp [bI, *]; done) | (simp_all [bI]; done) | (exfalso; simp_all; done))
        · skip
          refine zw_run 2 (pc' := 208) (loc' := [some (.ref 136), none, some (.int (bI y2)), some (.int x3), some (.int x4), some (.int x5)]) (stk' := [.int (bI y2), .int x4]) (fun _ _ _ => rfl) ?_
          have J11 : ∀ (v10 : Int32), v10 = (if y2 = true then 6 else 7 : Int32) → zw fm sx (d + 2) 113 218 [some (.ref 136), none, some (.int (bI y2)), some (.int x3), some (.int x4), some (.int x5)] [.int v10, .int x4] (zmf (zmf Z 50 (x3 + 1)) 51 (if x5 = 0 then 65533 else (if 1114111 < x5 then 65533 else (if x5 ≤ 55295 then x5 else (if 57344 ≤ x5 then x5 else 65533 : Int32) : Int32) : Int32) : Int32)) Q := by
            intro v10 ev10
            subst ev10
            refine zw_br (c := (if y2 = true then 6 else 7 : Int32) < x4) (t1 := 235) (t2 := 221) (loc' := [some (.ref 136), none, some (.int (bI y2)), some (.int x3), some (.int x4), some (.int x5)]) (stk' := []) (fun _ _ _ => rfl) (fun c12 => ?_) (fun c12 => ?_)
            · skip
              refine zw_run 1 (pc' := 236) (loc' := [some (.ref 136), none, some (.int (bI y2)), some (.int x3), some (.int x4), some (.int x5)]) (stk' := [.int 0]) (fun _ _ _ => rfl) ?_
              exact J15 _ (by clear H J15; first | (simp [bI, c8, c12]; done) | (simp [bI, *]; done) | (simp_all [bI]; done) | (exfalso; simp_all; done))
            · skip
              refine zw_run 2 (pc' := 223) (loc' := [some (.ref 136), none, some (.int (bI y2)), some (.int x3), some (.int x4), some (.int x5)]) (stk' := [.int x3, .ref 136]) (fun _ _ _ => rfl) ?_
              refine zw_callf (As := [.ref 136, .int x3]) (rest := []) (c_183 (Z := zmf (zmf Z 50 (x3 + 1)) 51 (if x5 = 0 then 65533 else (if 1114111 < x5 then 65533 else (if x5 ≤ 55295 then x5 else (if 57344 ≤ x5 then x5 else 65533 : Int32) : Int32) : Int32) : Int32)) hS x3 (d := d + 1)) rfl rfl rfl rfl ?_
              show zw fm sx (d + 2) 113 226 [some (.ref 136), none, some (.int (bI y2)), some (.int x3), some (.int x4), some (.int x5)] [.int (ra Z x3)] (zmf (zmf Z 50 (x3 + 1)) 51 (if x5 = 0 then 65533 else (if 1114111 < x5 then 65533 else (if x5 ≤ 55295 then x5 else (if 57344 ≤ x5 then x5 else 65533 : Int32) : Int32) : Int32) : Int32)) Q
              refine zw_run 1 (pc' := 228) (loc' := [some (.ref 136), none, some (.int (bI y2)), some (.int x3), some (.int x4), some (.int x5)]) (stk' := [.int 59, .int (ra Z x3)]) (fun _ _ _ => rfl) ?_
              refine zw_br (c := ¬ (ra Z x3) = 59) (t1 := 235) (t2 := 231) (loc' := [some (.ref 136), none, some (.int (bI y2)), some (.int x3), some (.int x4), some (.int x5)]) (stk' := []) (fun _ _ _ => rfl) (fun c13 => ?_) (fun c13 => ?_)
              · skip
                refine zw_run 1 (pc' := 236) (loc' := [some (.ref 136), none, some (.int (bI y2)), some (.int x3), some (.int x4), some (.int x5)]) (stk' := [.int 0]) (fun _ _ _ => rfl) ?_
                exact J15 _ (by clear H J15; first | (simp [bI, c8, c12, c13]; done) | (simp [bI, *]; done) | (simp_all [bI]; done) | (exfalso; simp_all; done))
              · skip
                refine zw_run 2 (pc' := 236) (loc' := [some (.ref 136), none, some (.int (bI y2)), some (.int x3), some (.int x4), some (.int x5)]) (stk' := [.int 1]) (fun _ _ _ => rfl) ?_
                exact J15 _ (by clear H J15; first | (simp [bI, c8, c12, c13]; done) | (simp [bI, *]; done) | (simp_all [bI]; done) | (exfalso; simp_all; done))
          refine zw_b0 (b := y2) (t1 := 211) (t2 := 216) (loc' := [some (.ref 136), none, some (.int (bI y2)), some (.int x3), some (.int x4), some (.int x5)]) (stk' := [.int x4]) (fun _ _ _ => rfl) (fun c9 => ?_) (fun c9 => ?_)
          · skip
            refine zw_run 2 (pc' := 218) (loc' := [some (.ref 136), none, some (.int (bI y2)), some (.int x3), some (.int x4), some (.int x5)]) (stk' := [.int 6, .int x4]) (fun _ _ _ => rfl) ?_
            exact J11 _ (by first | (rw [if_pos c9]; done) | (rw [if_pos c9]; rfl) | (clear H J11; simp_all [bI]; done))
          · skip
            refine zw_run 1 (pc' := 218) (loc' := [some (.ref 136), none, some (.int (bI y2)), some (.int x3), some (.int x4), some (.int x5)]) (stk' := [.int 7, .int x4]) (fun _ _ _ => rfl) ?_
            exact J11 _ (by first | (rw [if_neg c9]; done) | (rw [if_neg c9]; rfl) | (clear H J11; simp_all [bI]; done))
      refine zw_br (c := x5 = 0) (t1 := 190) (t2 := 169) (loc' := [some (.ref 136), none, some (.int (bI y2)), some (.int x3), some (.int x4), some (.int x5)]) (stk' := [.ref 136]) (fun _ _ _ => rfl) (fun c2 => ?_) (fun c2 => ?_)
      · skip
        refine zw_run 2 (pc' := 197) (loc' := [some (.ref 136), none, some (.int (bI y2)), some (.int x3), some (.int x4), some (.int x5)]) (stk' := [.int 65533, .ref 136]) (fun _ _ _ => rfl) ?_
        exact J7 _ (by first | (rw [if_pos c2]; done) | (rw [if_pos c2]; rfl) | (clear H J7; simp_all [bI]; done))
      · skip
        refine zw_run 2 (pc' := 173) (loc' := [some (.ref 136), none, some (.int (bI y2)), some (.int x3), some (.int x4), some (.int x5)]) (stk' := [.int 1114111, .int x5, .ref 136]) (fun _ _ _ => rfl) ?_
        refine zw_br (c := 1114111 < x5) (t1 := 190) (t2 := 176) (loc' := [some (.ref 136), none, some (.int (bI y2)), some (.int x3), some (.int x4), some (.int x5)]) (stk' := [.ref 136]) (fun _ _ _ => rfl) (fun c3 => ?_) (fun c3 => ?_)
        · skip
          refine zw_run 2 (pc' := 197) (loc' := [some (.ref 136), none, some (.int (bI y2)), some (.int x3), some (.int x4), some (.int x5)]) (stk' := [.int 65533, .ref 136]) (fun _ _ _ => rfl) ?_
          exact J7 _ (by first | (rw [if_neg c2, if_pos c3]; done) | (rw [if_neg c2, if_pos c3]; rfl) | (clear H J7; simp_all [bI]; done))
        · skip
          refine zw_run 2 (pc' := 180) (loc' := [some (.ref 136), none, some (.int (bI y2)), some (.int x3), some (.int x4), some (.int x5)]) (stk' := [.int 55295, .int x5, .ref 136]) (fun _ _ _ => rfl) ?_
          refine zw_br (c := x5 ≤ 55295) (t1 := 195) (t2 := 183) (loc' := [some (.ref 136), none, some (.int (bI y2)), some (.int x3), some (.int x4), some (.int x5)]) (stk' := [.ref 136]) (fun _ _ _ => rfl) (fun c4 => ?_) (fun c4 => ?_)
          · skip
            refine zw_run 1 (pc' := 197) (loc' := [some (.ref 136), none, some (.int (bI y2)), some (.int x3), some (.int x4), some (.int x5)]) (stk' := [.int x5, .ref 136]) (fun _ _ _ => rfl) ?_
            exact J7 _ (by first | (rw [if_neg c2, if_neg c3, if_pos c4]; done) | (rw [if_neg c2, if_neg c3, if_pos c4]; rfl) | (clear H J7; simp_all [bI]; done))
          · skip
            refine zw_run 2 (pc' := 187) (loc' := [some (.ref 136), none, some (.int (bI y2)), some (.int x3), some (.int x4), some (.int x5)]) (stk' := [.int 57344, .int x5, .ref 136]) (fun _ _ _ => rfl) ?_
            refine zw_br (c := 57344 ≤ x5) (t1 := 195) (t2 := 190) (loc' := [some (.ref 136), none, some (.int (bI y2)), some (.int x3), some (.int x4), some (.int x5)]) (stk' := [.ref 136]) (fun _ _ _ => rfl) (fun c5 => ?_) (fun c5 => ?_)
            · skip
              refine zw_run 1 (pc' := 197) (loc' := [some (.ref 136), none, some (.int (bI y2)), some (.int x3), some (.int x4), some (.int x5)]) (stk' := [.int x5, .ref 136]) (fun _ _ _ => rfl) ?_
              exact J7 _ (by first | (rw [if_neg c2, if_neg c3, if_neg c4, if_pos c5]; done) | (rw [if_neg c2, if_neg c3, if_neg c4, if_pos c5]; rfl) | (clear H J7; simp_all [bI]; done))
            · skip
              refine zw_run 2 (pc' := 197) (loc' := [some (.ref 136), none, some (.int (bI y2)), some (.int x3), some (.int x4), some (.int x5)]) (stk' := [.int 65533, .ref 136]) (fun _ _ _ => rfl) ?_
              exact J7 _ (by first | (rw [if_neg c2, if_neg c3, if_neg c4, if_neg c5]; done) | (rw [if_neg c2, if_neg c3, if_neg c4, if_neg c5]; rfl) | (clear H J7; simp_all [bI]; done))
    · rw [if_neg c1] at H
      refine zw_run 1 (pc' := 82) (loc' := [some (.ref 136), none, some (.int (bI y2)), some (.int x3), some (.int x4), some (.int x5)]) (stk' := [.int (bI y2)]) (fun _ _ _ => rfl) ?_
      refine zw_b0 (b := y2) (t1 := 85) (t2 := 99) (loc' := [some (.ref 136), none, some (.int (bI y2)), some (.int x3), some (.int x4), some (.int x5)]) (stk' := []) (fun _ _ _ => rfl) (fun c16 => ?_) (fun c16 => ?_)
      · rw [if_pos c16] at H
        refine zw_run 2 (pc' := 87) (loc' := [some (.ref 136), none, some (.int (bI y2)), some (.int x3), some (.int x4), some (.int x5)]) (stk' := [.int x3, .ref 136]) (fun _ _ _ => rfl) ?_
        refine zw_callf (As := [.ref 136, .int x3]) (rest := []) (c_183 (Z := Z) hS x3 (d := d + 1)) rfl rfl rfl rfl ?_
        show zw fm sx (d + 2) 113 90 [some (.ref 136), none, some (.int (bI y2)), some (.int x3), some (.int x4), some (.int x5)] [.int (ra Z x3)] Z Q
        refine zw_callf (As := [.int (ra Z x3)]) (rest := []) (c_112 (ra Z x3) (d := d + 0)) rfl rfl rfl rfl ?_
        show zw fm sx (d + 2) 113 93 [some (.ref 136), none, some (.int (bI y2)), some (.int x3), some (.int x4), some (.int x5)] [.int (k_112 (ra Z x3))] Z Q
        refine zw_br (c := (k_112 (ra Z x3)) < 0) (t1 := 156) (t2 := 96) (loc' := [some (.ref 136), none, some (.int (bI y2)), some (.int x3), some (.int x4), some (.int x5)]) (stk' := []) (fun _ _ _ => rfl) (fun c17 => ?_) (fun c17 => ?_)
        · rw [if_pos c17] at H
          refine zw_run 4 (pc' := 160) (loc' := [some (.ref 136), none, some (.int (bI y2)), some (.int x3), some (.int x4), some (.int x5)]) (stk' := [.int (x3 + 1), .ref 136]) (fun _ _ _ => rfl) ?_
          refine zw_mput rfl rfl rfl rfl ?_
          show zw fm sx (d + 2) 113 163 [some (.ref 136), none, some (.int (bI y2)), some (.int x3), some (.int x4), some (.int x5)] [] (zmf Z 50 (x3 + 1)) Q
          refine zw_run 2 (pc' := 166) (loc' := [some (.ref 136), none, some (.int (bI y2)), some (.int x3), some (.int x4), some (.int x5)]) (stk' := [.int x5, .ref 136]) (fun _ _ _ => rfl) ?_
          have J23 : ∀ (v22 : Int32), v22 = (if x5 = 0 then 65533 else (if 1114111 < x5 then 65533 else (if x5 ≤ 55295 then x5 else (if 57344 ≤ x5 then x5 else 65533 : Int32) : Int32) : Int32) : Int32) → zw fm sx (d + 2) 113 197 [some (.ref 136), none, some (.int (bI y2)), some (.int x3), some (.int x4), some (.int x5)] [.int v22, .ref 136] (zmf Z 50 (x3 + 1)) Q := by
            intro v22 ev22
            subst ev22
            refine zw_mput rfl rfl rfl rfl ?_
            show zw fm sx (d + 2) 113 200 [some (.ref 136), none, some (.int (bI y2)), some (.int x3), some (.int x4), some (.int x5)] [] (zmf (zmf Z 50 (x3 + 1)) 51 (if x5 = 0 then 65533 else (if 1114111 < x5 then 65533 else (if x5 ≤ 55295 then x5 else (if 57344 ≤ x5 then x5 else 65533 : Int32) : Int32) : Int32) : Int32)) Q
            refine zw_run 1 (pc' := 202) (loc' := [some (.ref 136), none, some (.int (bI y2)), some (.int x3), some (.int x4), some (.int x5)]) (stk' := [.int x4]) (fun _ _ _ => rfl) ?_
            have J31 : ∀ (v30 : Int32), v30 = (bI ((!(decide (x4 ≤ 0))) && ((!(decide ((if y2 = true then 6 else 7 : Int32) < x4))) && (decide ((ra Z x3) = 59))))) → zw fm sx (d + 2) 113 236 [some (.ref 136), none, some (.int (bI y2)), some (.int x3), some (.int x4), some (.int x5)] [.int v30] (zmf (zmf Z 50 (x3 + 1)) 51 (if x5 = 0 then 65533 else (if 1114111 < x5 then 65533 else (if x5 ≤ 55295 then x5 else (if 57344 ≤ x5 then x5 else 65533 : Int32) : Int32) : Int32) : Int32)) Q := by
              intro v30 ev30
              subst ev30
              refine zw_retz rfl rfl (bI_01 _) ?_
              have H := oq_some H
              exact H
            refine zw_br (c := x4 ≤ 0) (t1 := 235) (t2 := 205) (loc' := [some (.ref 136), none, some (.int (bI y2)), some (.int x3), some (.int x4), some (.int x5)]) (stk' := []) (fun _ _ _ => rfl) (fun c24 => ?_) (fun c24 => ?_)
            · skip
              refine zw_run 1 (pc' := 236) (loc' := [some (.ref 136), none, some (.int (bI y2)), some (.int x3), some (.int x4), some (.int x5)]) (stk' := [.int 0]) (fun _ _ _ => rfl) ?_
              exact J31 _ (by clear H J31; first | (simp [bI, c24]; done) | (simp [bI, *]; done) | (simp_all [bI]; done) | (exfalso; simp_all; done))
            · skip
              refine zw_run 2 (pc' := 208) (loc' := [some (.ref 136), none, some (.int (bI y2)), some (.int x3), some (.int x4), some (.int x5)]) (stk' := [.int (bI y2), .int x4]) (fun _ _ _ => rfl) ?_
              have J27 : ∀ (v26 : Int32), v26 = (if y2 = true then 6 else 7 : Int32) → zw fm sx (d + 2) 113 218 [some (.ref 136), none, some (.int (bI y2)), some (.int x3), some (.int x4), some (.int x5)] [.int v26, .int x4] (zmf (zmf Z 50 (x3 + 1)) 51 (if x5 = 0 then 65533 else (if 1114111 < x5 then 65533 else (if x5 ≤ 55295 then x5 else (if 57344 ≤ x5 then x5 else 65533 : Int32) : Int32) : Int32) : Int32)) Q := by
                intro v26 ev26
                subst ev26
                refine zw_br (c := (if y2 = true then 6 else 7 : Int32) < x4) (t1 := 235) (t2 := 221) (loc' := [some (.ref 136), none, some (.int (bI y2)), some (.int x3), some (.int x4), some (.int x5)]) (stk' := []) (fun _ _ _ => rfl) (fun c28 => ?_) (fun c28 => ?_)
                · skip
                  refine zw_run 1 (pc' := 236) (loc' := [some (.ref 136), none, some (.int (bI y2)), some (.int x3), some (.int x4), some (.int x5)]) (stk' := [.int 0]) (fun _ _ _ => rfl) ?_
                  exact J31 _ (by clear H J31; first | (simp [bI, c24, c28]; done) | (simp [bI, *]; done) | (simp_all [bI]; done) | (exfalso; simp_all; done))
                · skip
                  refine zw_run 2 (pc' := 223) (loc' := [some (.ref 136), none, some (.int (bI y2)), some (.int x3), some (.int x4), some (.int x5)]) (stk' := [.int x3, .ref 136]) (fun _ _ _ => rfl) ?_
                  refine zw_callf (As := [.ref 136, .int x3]) (rest := []) (c_183 (Z := zmf (zmf Z 50 (x3 + 1)) 51 (if x5 = 0 then 65533 else (if 1114111 < x5 then 65533 else (if x5 ≤ 55295 then x5 else (if 57344 ≤ x5 then x5 else 65533 : Int32) : Int32) : Int32) : Int32)) hS x3 (d := d + 1)) rfl rfl rfl rfl ?_
                  show zw fm sx (d + 2) 113 226 [some (.ref 136), none, some (.int (bI y2)), some (.int x3), some (.int x4), some (.int x5)] [.int (ra Z x3)] (zmf (zmf Z 50 (x3 + 1)) 51 (if x5 = 0 then 65533 else (if 1114111 < x5 then 65533 else (if x5 ≤ 55295 then x5 else (if 57344 ≤ x5 then x5 else 65533 : Int32) : Int32) : Int32) : Int32)) Q
                  refine zw_run 1 (pc' := 228) (loc' := [some (.ref 136), none, some (.int (bI y2)), some (.int x3), some (.int x4), some (.int x5)]) (stk' := [.int 59, .int (ra Z x3)]) (fun _ _ _ => rfl) ?_
                  refine zw_br (c := ¬ (ra Z x3) = 59) (t1 := 235) (t2 := 231) (loc' := [some (.ref 136), none, some (.int (bI y2)), some (.int x3), some (.int x4), some (.int x5)]) (stk' := []) (fun _ _ _ => rfl) (fun c29 => ?_) (fun c29 => ?_)
                  · skip
                    refine zw_run 1 (pc' := 236) (loc' := [some (.ref 136), none, some (.int (bI y2)), some (.int x3), some (.int x4), some (.int x5)]) (stk' := [.int 0]) (fun _ _ _ => rfl) ?_
                    exact J31 _ (by clear H J31; first | (simp [bI, c24, c28, c29]; done) | (simp [bI, *]; done) | (simp_all [bI]; done) | (exfalso; simp_all; done))
                  · skip
                    refine zw_run 2 (pc' := 236) (loc' := [some (.ref 136), none, some (.int (bI y2)), some (.int x3), some (.int x4), some (.int x5)]) (stk' := [.int 1]) (fun _ _ _ => rfl) ?_
                    exact J31 _ (by clear H J31; first | (simp [bI, c24, c28, c29]; done) | (simp [bI, *]; done) | (simp_all [bI]; done) | (exfalso; simp_all; done))
              refine zw_b0 (b := y2) (t1 := 211) (t2 := 216) (loc' := [some (.ref 136), none, some (.int (bI y2)), some (.int x3), some (.int x4), some (.int x5)]) (stk' := [.int x4]) (fun _ _ _ => rfl) (fun c25 => ?_) (fun c25 => ?_)
              · skip
                refine zw_run 2 (pc' := 218) (loc' := [some (.ref 136), none, some (.int (bI y2)), some (.int x3), some (.int x4), some (.int x5)]) (stk' := [.int 6, .int x4]) (fun _ _ _ => rfl) ?_
                exact J27 _ (by first | (rw [if_pos c25]; done) | (rw [if_pos c25]; rfl) | (clear H J27; simp_all [bI]; done))
              · skip
                refine zw_run 1 (pc' := 218) (loc' := [some (.ref 136), none, some (.int (bI y2)), some (.int x3), some (.int x4), some (.int x5)]) (stk' := [.int 7, .int x4]) (fun _ _ _ => rfl) ?_
                exact J27 _ (by first | (rw [if_neg c25]; done) | (rw [if_neg c25]; rfl) | (clear H J27; simp_all [bI]; done))
          refine zw_br (c := x5 = 0) (t1 := 190) (t2 := 169) (loc' := [some (.ref 136), none, some (.int (bI y2)), some (.int x3), some (.int x4), some (.int x5)]) (stk' := [.ref 136]) (fun _ _ _ => rfl) (fun c18 => ?_) (fun c18 => ?_)
          · skip
            refine zw_run 2 (pc' := 197) (loc' := [some (.ref 136), none, some (.int (bI y2)), some (.int x3), some (.int x4), some (.int x5)]) (stk' := [.int 65533, .ref 136]) (fun _ _ _ => rfl) ?_
            exact J23 _ (by first | (rw [if_pos c18]; done) | (rw [if_pos c18]; rfl) | (clear H J23; simp_all [bI]; done))
          · skip
            refine zw_run 2 (pc' := 173) (loc' := [some (.ref 136), none, some (.int (bI y2)), some (.int x3), some (.int x4), some (.int x5)]) (stk' := [.int 1114111, .int x5, .ref 136]) (fun _ _ _ => rfl) ?_
            refine zw_br (c := 1114111 < x5) (t1 := 190) (t2 := 176) (loc' := [some (.ref 136), none, some (.int (bI y2)), some (.int x3), some (.int x4), some (.int x5)]) (stk' := [.ref 136]) (fun _ _ _ => rfl) (fun c19 => ?_) (fun c19 => ?_)
            · skip
              refine zw_run 2 (pc' := 197) (loc' := [some (.ref 136), none, some (.int (bI y2)), some (.int x3), some (.int x4), some (.int x5)]) (stk' := [.int 65533, .ref 136]) (fun _ _ _ => rfl) ?_
              exact J23 _ (by first | (rw [if_neg c18, if_pos c19]; done) | (rw [if_neg c18, if_pos c19]; rfl) | (clear H J23; simp_all [bI]; done))
            · skip
              refine zw_run 2 (pc' := 180) (loc' := [some (.ref 136), none, some (.int (bI y2)), some (.int x3), some (.int x4), some (.int x5)]) (stk' := [.int 55295, .int x5, .ref 136]) (fun _ _ _ => rfl) ?_
              refine zw_br (c := x5 ≤ 55295) (t1 := 195) (t2 := 183) (loc' := [some (.ref 136), none, some (.int (bI y2)), some (.int x3), some (.int x4), some (.int x5)]) (stk' := [.ref 136]) (fun _ _ _ => rfl) (fun c20 => ?_) (fun c20 => ?_)
              · skip
                refine zw_run 1 (pc' := 197) (loc' := [some (.ref 136), none, some (.int (bI y2)), some (.int x3), some (.int x4), some (.int x5)]) (stk' := [.int x5, .ref 136]) (fun _ _ _ => rfl) ?_
                exact J23 _ (by first | (rw [if_neg c18, if_neg c19, if_pos c20]; done) | (rw [if_neg c18, if_neg c19, if_pos c20]; rfl) | (clear H J23; simp_all [bI]; done))
              · skip
                refine zw_run 2 (pc' := 187) (loc' := [some (.ref 136), none, some (.int (bI y2)), some (.int x3), some (.int x4), some (.int x5)]) (stk' := [.int 57344, .int x5, .ref 136]) (fun _ _ _ => rfl) ?_
                refine zw_br (c := 57344 ≤ x5) (t1 := 195) (t2 := 190) (loc' := [some (.ref 136), none, some (.int (bI y2)), some (.int x3), some (.int x4), some (.int x5)]) (stk' := [.ref 136]) (fun _ _ _ => rfl) (fun c21 => ?_) (fun c21 => ?_)
                · skip
                  refine zw_run 1 (pc' := 197) (loc' := [some (.ref 136), none, some (.int (bI y2)), some (.int x3), some (.int x4), some (.int x5)]) (stk' := [.int x5, .ref 136]) (fun _ _ _ => rfl) ?_
                  exact J23 _ (by first | (rw [if_neg c18, if_neg c19, if_neg c20, if_pos c21]; done) | (rw [if_neg c18, if_neg c19, if_neg c20, if_pos c21]; rfl) | (clear H J23; simp_all [bI]; done))
                · skip
                  refine zw_run 2 (pc' := 197) (loc' := [some (.ref 136), none, some (.int (bI y2)), some (.int x3), some (.int x4), some (.int x5)]) (stk' := [.int 65533, .ref 136]) (fun _ _ _ => rfl) ?_
                  exact J23 _ (by first | (rw [if_neg c18, if_neg c19, if_neg c20, if_neg c21]; done) | (rw [if_neg c18, if_neg c19, if_neg c20, if_neg c21]; rfl) | (clear H J23; simp_all [bI]; done))
        · rw [if_neg c17] at H
          refine zw_run 2 (pc' := 111) (loc' := [some (.ref 136), none, some (.int (bI y2)), some (.int x3), some (.int x4), some (.int x5)]) (stk' := [.int (bI y2)]) (fun _ _ _ => rfl) ?_
          have J34 : ∀ (v33 : Int32), v33 = (if y2 = true then ((16 * x5) + (k_112 (ra Z x3))) else (((10 * x5) + (ra Z x3)) - 48) : Int32) → zw fm sx (d + 2) 113 145 [some (.ref 136), none, some (.int (bI y2)), some (.int x3), some (.int x4), some (.int x5)] [.int v33] Z Q := by
            intro v33 ev33
            subst ev33
            refine zw_run 1 (pc' := 147) (loc' := [some (.ref 136), none, some (.int (bI y2)), some (.int x3), some (.int x4), some (.int (if y2 = true then ((16 * x5) + (k_112 (ra Z x3))) else (((10 * x5) + (ra Z x3)) - 48) : Int32))]) (stk' := []) (fun _ _ _ => rfl) ?_
            obtain ⟨x35, hx35⟩ : ∃ w : Int32, w = (if y2 = true then ((16 * x5) + (k_112 (ra Z x3))) else (((10 * x5) + (ra Z x3)) - 48) : Int32) := ⟨_, rfl⟩
            rw [← hx35]
            have H := oq_let H x35 hx35
            refine zw_run 3 (pc' := 74) (loc' := [some (.ref 136), none, some (.int (bI y2)), some (.int (x3 + 1)), some (.int (x4 + 1)), some (.int x35)]) (stk' := []) (fun _ _ _ => rfl) ?_
            exact ih Z y2 (x3 + 1) (x4 + 1) x35 H
          refine zw_b0 (b := y2) (t1 := 114) (t2 := 131) (loc' := [some (.ref 136), none, some (.int (bI y2)), some (.int x3), some (.int x4), some (.int x5)]) (stk' := []) (fun _ _ _ => rfl) (fun c32 => ?_) (fun c32 => ?_)
          · skip
            refine zw_run 5 (pc' := 121) (loc' := [some (.ref 136), none, some (.int (bI y2)), some (.int x3), some (.int x4), some (.int x5)]) (stk' := [.int x3, .ref 136, .int (16 * x5)]) (fun _ _ _ => rfl) ?_
            refine zw_callf (As := [.ref 136, .int x3]) (rest := [.int (16 * x5)]) (c_183 (Z := Z) hS x3 (d := d + 1)) rfl rfl rfl rfl ?_
            show zw fm sx (d + 2) 113 124 [some (.ref 136), none, some (.int (bI y2)), some (.int x3), some (.int x4), some (.int x5)] [.int (ra Z x3), .int (16 * x5)] Z Q
            refine zw_callf (As := [.int (ra Z x3)]) (rest := [.int (16 * x5)]) (c_112 (ra Z x3) (d := d + 0)) rfl rfl rfl rfl ?_
            show zw fm sx (d + 2) 113 127 [some (.ref 136), none, some (.int (bI y2)), some (.int x3), some (.int x4), some (.int x5)] [.int (k_112 (ra Z x3)), .int (16 * x5)] Z Q
            refine zw_run 2 (pc' := 145) (loc' := [some (.ref 136), none, some (.int (bI y2)), some (.int x3), some (.int x4), some (.int x5)]) (stk' := [.int ((16 * x5) + (k_112 (ra Z x3)))]) (fun _ _ _ => rfl) ?_
            exact J34 _ (by first | (rw [if_pos c32]; done) | (rw [if_pos c32]; rfl) | (clear H J34; simp_all [bI]; done))
          · skip
            refine zw_run 5 (pc' := 138) (loc' := [some (.ref 136), none, some (.int (bI y2)), some (.int x3), some (.int x4), some (.int x5)]) (stk' := [.int x3, .ref 136, .int (10 * x5)]) (fun _ _ _ => rfl) ?_
            refine zw_callf (As := [.ref 136, .int x3]) (rest := [.int (10 * x5)]) (c_183 (Z := Z) hS x3 (d := d + 1)) rfl rfl rfl rfl ?_
            show zw fm sx (d + 2) 113 141 [some (.ref 136), none, some (.int (bI y2)), some (.int x3), some (.int x4), some (.int x5)] [.int (ra Z x3), .int (10 * x5)] Z Q
            refine zw_run 3 (pc' := 145) (loc' := [some (.ref 136), none, some (.int (bI y2)), some (.int x3), some (.int x4), some (.int x5)]) (stk' := [.int (((10 * x5) + (ra Z x3)) - 48)]) (fun _ _ _ => rfl) ?_
            exact J34 _ (by first | (rw [if_neg c32]; done) | (rw [if_neg c32]; rfl) | (clear H J34; simp_all [bI]; done))
      · rw [if_neg c16] at H
        refine zw_run 2 (pc' := 101) (loc' := [some (.ref 136), none, some (.int (bI y2)), some (.int x3), some (.int x4), some (.int x5)]) (stk' := [.int x3, .ref 136]) (fun _ _ _ => rfl) ?_
        refine zw_callf (As := [.ref 136, .int x3]) (rest := []) (c_183 (Z := Z) hS x3 (d := d + 1)) rfl rfl rfl rfl ?_
        show zw fm sx (d + 2) 113 104 [some (.ref 136), none, some (.int (bI y2)), some (.int x3), some (.int x4), some (.int x5)] [.int (ra Z x3)] Z Q
        refine zw_callf (As := [.int (ra Z x3)]) (rest := []) (c_165 (ra Z x3) (d := d + 1)) rfl rfl rfl rfl ?_
        show zw fm sx (d + 2) 113 107 [some (.ref 136), none, some (.int (bI y2)), some (.int x3), some (.int x4), some (.int x5)] [.int (bI (k_165 (ra Z x3)))] Z Q
        refine zw_b0 (b := (k_165 (ra Z x3))) (t1 := 110) (t2 := 156) (loc' := [some (.ref 136), none, some (.int (bI y2)), some (.int x3), some (.int x4), some (.int x5)]) (stk' := []) (fun _ _ _ => rfl) (fun c36 => ?_) (fun c36 => ?_)
        · rw [if_pos c36] at H
          refine zw_run 1 (pc' := 111) (loc' := [some (.ref 136), none, some (.int (bI y2)), some (.int x3), some (.int x4), some (.int x5)]) (stk' := [.int (bI y2)]) (fun _ _ _ => rfl) ?_
          have J39 : ∀ (v38 : Int32), v38 = (if y2 = true then ((16 * x5) + (k_112 (ra Z x3))) else (((10 * x5) + (ra Z x3)) - 48) : Int32) → zw fm sx (d + 2) 113 145 [some (.ref 136), none, some (.int (bI y2)), some (.int x3), some (.int x4), some (.int x5)] [.int v38] Z Q := by
            intro v38 ev38
            subst ev38
            refine zw_run 1 (pc' := 147) (loc' := [some (.ref 136), none, some (.int (bI y2)), some (.int x3), some (.int x4), some (.int (if y2 = true then ((16 * x5) + (k_112 (ra Z x3))) else (((10 * x5) + (ra Z x3)) - 48) : Int32))]) (stk' := []) (fun _ _ _ => rfl) ?_
            obtain ⟨x40, hx40⟩ : ∃ w : Int32, w = (if y2 = true then ((16 * x5) + (k_112 (ra Z x3))) else (((10 * x5) + (ra Z x3)) - 48) : Int32) := ⟨_, rfl⟩
            rw [← hx40]
            have H := oq_let H x40 hx40
            refine zw_run 3 (pc' := 74) (loc' := [some (.ref 136), none, some (.int (bI y2)), some (.int (x3 + 1)), some (.int (x4 + 1)), some (.int x40)]) (stk' := []) (fun _ _ _ => rfl) ?_
            exact ih Z y2 (x3 + 1) (x4 + 1) x40 H
          refine zw_b0 (b := y2) (t1 := 114) (t2 := 131) (loc' := [some (.ref 136), none, some (.int (bI y2)), some (.int x3), some (.int x4), some (.int x5)]) (stk' := []) (fun _ _ _ => rfl) (fun c37 => ?_) (fun c37 => ?_)
          · skip
            refine zw_run 5 (pc' := 121) (loc' := [some (.ref 136), none, some (.int (bI y2)), some (.int x3), some (.int x4), some (.int x5)]) (stk' := [.int x3, .ref 136, .int (16 * x5)]) (fun _ _ _ => rfl) ?_
            refine zw_callf (As := [.ref 136, .int x3]) (rest := [.int (16 * x5)]) (c_183 (Z := Z) hS x3 (d := d + 1)) rfl rfl rfl rfl ?_
            show zw fm sx (d + 2) 113 124 [some (.ref 136), none, some (.int (bI y2)), some (.int x3), some (.int x4), some (.int x5)] [.int (ra Z x3), .int (16 * x5)] Z Q
            refine zw_callf (As := [.int (ra Z x3)]) (rest := [.int (16 * x5)]) (c_112 (ra Z x3) (d := d + 0)) rfl rfl rfl rfl ?_
            show zw fm sx (d + 2) 113 127 [some (.ref 136), none, some (.int (bI y2)), some (.int x3), some (.int x4), some (.int x5)] [.int (k_112 (ra Z x3)), .int (16 * x5)] Z Q
            refine zw_run 2 (pc' := 145) (loc' := [some (.ref 136), none, some (.int (bI y2)), some (.int x3), some (.int x4), some (.int x5)]) (stk' := [.int ((16 * x5) + (k_112 (ra Z x3)))]) (fun _ _ _ => rfl) ?_
            exact J39 _ (by first | (rw [if_pos c37]; done) | (rw [if_pos c37]; rfl) | (clear H J39; simp_all [bI]; done))
          · skip
            refine zw_run 5 (pc' := 138) (loc' := [some (.ref 136), none, some (.int (bI y2)), some (.int x3), some (.int x4), some (.int x5)]) (stk' := [.int x3, .ref 136, .int (10 * x5)]) (fun _ _ _ => rfl) ?_
            refine zw_callf (As := [.ref 136, .int x3]) (rest := [.int (10 * x5)]) (c_183 (Z := Z) hS x3 (d := d + 1)) rfl rfl rfl rfl ?_
            show zw fm sx (d + 2) 113 141 [some (.ref 136), none, some (.int (bI y2)), some (.int x3), some (.int x4), some (.int x5)] [.int (ra Z x3), .int (10 * x5)] Z Q
            refine zw_run 3 (pc' := 145) (loc' := [some (.ref 136), none, some (.int (bI y2)), some (.int x3), some (.int x4), some (.int x5)]) (stk' := [.int (((10 * x5) + (ra Z x3)) - 48)]) (fun _ _ _ => rfl) ?_
            exact J39 _ (by first | (rw [if_neg c37]; done) | (rw [if_neg c37]; rfl) | (clear H J39; simp_all [bI]; done))
        · rw [if_neg c36] at H
          refine zw_run 4 (pc' := 160) (loc' := [some (.ref 136), none, some (.int (bI y2)), some (.int x3), some (.int x4), some (.int x5)]) (stk' := [.int (x3 + 1), .ref 136]) (fun _ _ _ => rfl) ?_
          refine zw_mput rfl rfl rfl rfl ?_
          show zw fm sx (d + 2) 113 163 [some (.ref 136), none, some (.int (bI y2)), some (.int x3), some (.int x4), some (.int x5)] [] (zmf Z 50 (x3 + 1)) Q
          refine zw_run 2 (pc' := 166) (loc' := [some (.ref 136), none, some (.int (bI y2)), some (.int x3), some (.int x4), some (.int x5)]) (stk' := [.int x5, .ref 136]) (fun _ _ _ => rfl) ?_
          have J46 : ∀ (v45 : Int32), v45 = (if x5 = 0 then 65533 else (if 1114111 < x5 then 65533 else (if x5 ≤ 55295 then x5 else (if 57344 ≤ x5 then x5 else 65533 : Int32) : Int32) : Int32) : Int32) → zw fm sx (d + 2) 113 197 [some (.ref 136), none, some (.int (bI y2)), some (.int x3), some (.int x4), some (.int x5)] [.int v45, .ref 136] (zmf Z 50 (x3 + 1)) Q := by
            intro v45 ev45
            subst ev45
            refine zw_mput rfl rfl rfl rfl ?_
            show zw fm sx (d + 2) 113 200 [some (.ref 136), none, some (.int (bI y2)), some (.int x3), some (.int x4), some (.int x5)] [] (zmf (zmf Z 50 (x3 + 1)) 51 (if x5 = 0 then 65533 else (if 1114111 < x5 then 65533 else (if x5 ≤ 55295 then x5 else (if 57344 ≤ x5 then x5 else 65533 : Int32) : Int32) : Int32) : Int32)) Q
            refine zw_run 1 (pc' := 202) (loc' := [some (.ref 136), none, some (.int (bI y2)), some (.int x3), some (.int x4), some (.int x5)]) (stk' := [.int x4]) (fun _ _ _ => rfl) ?_
            have J54 : ∀ (v53 : Int32), v53 = (bI ((!(decide (x4 ≤ 0))) && ((!(decide ((if y2 = true then 6 else 7 : Int32) < x4))) && (decide ((ra Z x3) = 59))))) → zw fm sx (d + 2) 113 236 [some (.ref 136), none, some (.int (bI y2)), some (.int x3), some (.int x4), some (.int x5)] [.int v53] (zmf (zmf Z 50 (x3 + 1)) 51 (if x5 = 0 then 65533 else (if 1114111 < x5 then 65533 else (if x5 ≤ 55295 then x5 else (if 57344 ≤ x5 then x5 else 65533 : Int32) : Int32) : Int32) : Int32)) Q := by
              intro v53 ev53
              subst ev53
              refine zw_retz rfl rfl (bI_01 _) ?_
              have H := oq_some H
              exact H
            refine zw_br (c := x4 ≤ 0) (t1 := 235) (t2 := 205) (loc' := [some (.ref 136), none, some (.int (bI y2)), some (.int x3), some (.int x4), some (.int x5)]) (stk' := []) (fun _ _ _ => rfl) (fun c47 => ?_) (fun c47 => ?_)
            · skip
              refine zw_run 1 (pc' := 236) (loc' := [some (.ref 136), none, some (.int (bI y2)), some (.int x3), some (.int x4), some (.int x5)]) (stk' := [.int 0]) (fun _ _ _ => rfl) ?_
              exact J54 _ (by clear H J54; first | (simp [bI, c47]; done) | (simp [bI, *]; done) | (simp_all [bI]; done) | (exfalso; simp_all; done))
            · skip
              refine zw_run 2 (pc' := 208) (loc' := [some (.ref 136), none, some (.int (bI y2)), some (.int x3), some (.int x4), some (.int x5)]) (stk' := [.int (bI y2), .int x4]) (fun _ _ _ => rfl) ?_
              have J50 : ∀ (v49 : Int32), v49 = (if y2 = true then 6 else 7 : Int32) → zw fm sx (d + 2) 113 218 [some (.ref 136), none, some (.int (bI y2)), some (.int x3), some (.int x4), some (.int x5)] [.int v49, .int x4] (zmf (zmf Z 50 (x3 + 1)) 51 (if x5 = 0 then 65533 else (if 1114111 < x5 then 65533 else (if x5 ≤ 55295 then x5 else (if 57344 ≤ x5 then x5 else 65533 : Int32) : Int32) : Int32) : Int32)) Q := by
                intro v49 ev49
                subst ev49
                refine zw_br (c := (if y2 = true then 6 else 7 : Int32) < x4) (t1 := 235) (t2 := 221) (loc' := [some (.ref 136), none, some (.int (bI y2)), some (.int x3), some (.int x4), some (.int x5)]) (stk' := []) (fun _ _ _ => rfl) (fun c51 => ?_) (fun c51 => ?_)
                · skip
                  refine zw_run 1 (pc' := 236) (loc' := [some (.ref 136), none, some (.int (bI y2)), some (.int x3), some (.int x4), some (.int x5)]) (stk' := [.int 0]) (fun _ _ _ => rfl) ?_
                  exact J54 _ (by clear H J54; first | (simp [bI, c47, c51]; done) | (simp [bI, *]; done) | (simp_all [bI]; done) | (exfalso; simp_all; done))
                · skip
                  refine zw_run 2 (pc' := 223) (loc' := [some (.ref 136), none, some (.int (bI y2)), some (.int x3), some (.int x4), some (.int x5)]) (stk' := [.int x3, .ref 136]) (fun _ _ _ => rfl) ?_
                  refine zw_callf (As := [.ref 136, .int x3]) (rest := []) (c_183 (Z := zmf (zmf Z 50 (x3 + 1)) 51 (if x5 = 0 then 65533 else (if 1114111 < x5 then 65533 else (if x5 ≤ 55295 then x5 else (if 57344 ≤ x5 then x5 else 65533 : Int32) : Int32) : Int32) : Int32)) hS x3 (d := d + 1)) rfl rfl rfl rfl ?_
                  show zw fm sx (d + 2) 113 226 [some (.ref 136), none, some (.int (bI y2)), some (.int x3), some (.int x4), some (.int x5)] [.int (ra Z x3)] (zmf (zmf Z 50 (x3 + 1)) 51 (if x5 = 0 then 65533 else (if 1114111 < x5 then 65533 else (if x5 ≤ 55295 then x5 else (if 57344 ≤ x5 then x5 else 65533 : Int32) : Int32) : Int32) : Int32)) Q
                  refine zw_run 1 (pc' := 228) (loc' := [some (.ref 136), none, some (.int (bI y2)), some (.int x3), some (.int x4), some (.int x5)]) (stk' := [.int 59, .int (ra Z x3)]) (fun _ _ _ => rfl) ?_
                  refine zw_br (c := ¬ (ra Z x3) = 59) (t1 := 235) (t2 := 231) (loc' := [some (.ref 136), none, some (.int (bI y2)), some (.int x3), some (.int x4), some (.int x5)]) (stk' := []) (fun _ _ _ => rfl) (fun c52 => ?_) (fun c52 => ?_)
                  · skip
                    refine zw_run 1 (pc' := 236) (loc' := [some (.ref 136), none, some (.int (bI y2)), some (.int x3), some (.int x4), some (.int x5)]) (stk' := [.int 0]) (fun _ _ _ => rfl) ?_
                    exact J54 _ (by clear H J54; first | (simp [bI, c47, c51, c52]; done) | (simp [bI, *]; done) | (simp_all [bI]; done) | (exfalso; simp_all; done))
                  · skip
                    refine zw_run 2 (pc' := 236) (loc' := [some (.ref 136), none, some (.int (bI y2)), some (.int x3), some (.int x4), some (.int x5)]) (stk' := [.int 1]) (fun _ _ _ => rfl) ?_
                    exact J54 _ (by clear H J54; first | (simp [bI, c47, c51, c52]; done) | (simp [bI, *]; done) | (simp_all [bI]; done) | (exfalso; simp_all; done))
              refine zw_b0 (b := y2) (t1 := 211) (t2 := 216) (loc' := [some (.ref 136), none, some (.int (bI y2)), some (.int x3), some (.int x4), some (.int x5)]) (stk' := [.int x4]) (fun _ _ _ => rfl) (fun c48 => ?_) (fun c48 => ?_)
              · skip
                refine zw_run 2 (pc' := 218) (loc' := [some (.ref 136), none, some (.int (bI y2)), some (.int x3), some (.int x4), some (.int x5)]) (stk' := [.int 6, .int x4]) (fun _ _ _ => rfl) ?_
                exact J50 _ (by first | (rw [if_pos c48]; done) | (rw [if_pos c48]; rfl) | (clear H J50; simp_all [bI]; done))
              · skip
                refine zw_run 1 (pc' := 218) (loc' := [some (.ref 136), none, some (.int (bI y2)), some (.int x3), some (.int x4), some (.int x5)]) (stk' := [.int 7, .int x4]) (fun _ _ _ => rfl) ?_
                exact J50 _ (by first | (rw [if_neg c48]; done) | (rw [if_neg c48]; rfl) | (clear H J50; simp_all [bI]; done))
          refine zw_br (c := x5 = 0) (t1 := 190) (t2 := 169) (loc' := [some (.ref 136), none, some (.int (bI y2)), some (.int x3), some (.int x4), some (.int x5)]) (stk' := [.ref 136]) (fun _ _ _ => rfl) (fun c41 => ?_) (fun c41 => ?_)
          · skip
            refine zw_run 2 (pc' := 197) (loc' := [some (.ref 136), none, some (.int (bI y2)), some (.int x3), some (.int x4), some (.int x5)]) (stk' := [.int 65533, .ref 136]) (fun _ _ _ => rfl) ?_
            exact J46 _ (by first | (rw [if_pos c41]; done) | (rw [if_pos c41]; rfl) | (clear H J46; simp_all [bI]; done))
          · skip
            refine zw_run 2 (pc' := 173) (loc' := [some (.ref 136), none, some (.int (bI y2)), some (.int x3), some (.int x4), some (.int x5)]) (stk' := [.int 1114111, .int x5, .ref 136]) (fun _ _ _ => rfl) ?_
            refine zw_br (c := 1114111 < x5) (t1 := 190) (t2 := 176) (loc' := [some (.ref 136), none, some (.int (bI y2)), some (.int x3), some (.int x4), some (.int x5)]) (stk' := [.ref 136]) (fun _ _ _ => rfl) (fun c42 => ?_) (fun c42 => ?_)
            · skip
              refine zw_run 2 (pc' := 197) (loc' := [some (.ref 136), none, some (.int (bI y2)), some (.int x3), some (.int x4), some (.int x5)]) (stk' := [.int 65533, .ref 136]) (fun _ _ _ => rfl) ?_
              exact J46 _ (by first | (rw [if_neg c41, if_pos c42]; done) | (rw [if_neg c41, if_pos c42]; rfl) | (clear H J46; simp_all [bI]; done))
            · skip
              refine zw_run 2 (pc' := 180) (loc' := [some (.ref 136), none, some (.int (bI y2)), some (.int x3), some (.int x4), some (.int x5)]) (stk' := [.int 55295, .int x5, .ref 136]) (fun _ _ _ => rfl) ?_
              refine zw_br (c := x5 ≤ 55295) (t1 := 195) (t2 := 183) (loc' := [some (.ref 136), none, some (.int (bI y2)), some (.int x3), some (.int x4), some (.int x5)]) (stk' := [.ref 136]) (fun _ _ _ => rfl) (fun c43 => ?_) (fun c43 => ?_)
              · skip
                refine zw_run 1 (pc' := 197) (loc' := [some (.ref 136), none, some (.int (bI y2)), some (.int x3), some (.int x4), some (.int x5)]) (stk' := [.int x5, .ref 136]) (fun _ _ _ => rfl) ?_
                exact J46 _ (by first | (rw [if_neg c41, if_neg c42, if_pos c43]; done) | (rw [if_neg c41, if_neg c42, if_pos c43]; rfl) | (clear H J46; simp_all [bI]; done))
              · skip
                refine zw_run 2 (pc' := 187) (loc' := [some (.ref 136), none, some (.int (bI y2)), some (.int x3), some (.int x4), some (.int x5)]) (stk' := [.int 57344, .int x5, .ref 136]) (fun _ _ _ => rfl) ?_
                refine zw_br (c := 57344 ≤ x5) (t1 := 195) (t2 := 190) (loc' := [some (.ref 136), none, some (.int (bI y2)), some (.int x3), some (.int x4), some (.int x5)]) (stk' := [.ref 136]) (fun _ _ _ => rfl) (fun c44 => ?_) (fun c44 => ?_)
                · skip
                  refine zw_run 1 (pc' := 197) (loc' := [some (.ref 136), none, some (.int (bI y2)), some (.int x3), some (.int x4), some (.int x5)]) (stk' := [.int x5, .ref 136]) (fun _ _ _ => rfl) ?_
                  exact J46 _ (by first | (rw [if_neg c41, if_neg c42, if_neg c43, if_pos c44]; done) | (rw [if_neg c41, if_neg c42, if_neg c43, if_pos c44]; rfl) | (clear H J46; simp_all [bI]; done))
                · skip
                  refine zw_run 2 (pc' := 197) (loc' := [some (.ref 136), none, some (.int (bI y2)), some (.int x3), some (.int x4), some (.int x5)]) (stk' := [.int 65533, .ref 136]) (fun _ _ _ => rfl) ?_
                  exact J46 _ (by first | (rw [if_neg c41, if_neg c42, if_neg c43, if_neg c44]; done) | (rw [if_neg c41, if_neg c42, if_neg c43, if_neg c44]; rfl) | (clear H J46; simp_all [bI]; done))
/-- MarkInlinesModel.isReference -/
def o_113 (Z : zr_Z) (k : Int32) : Option (Bool × zr_Z) := (if sok Z then (if (ra Z k) = 38 then (if ¬ (ra Z (k + 1)) = 35 then g_113_239 oF Z k 0 else (olet (((decide ((ra Z (k + 2)) = 120)) || (decide ((ra Z (k + 2)) = 88))) : Bool) fun y7 => (olet ((if y7 = true then (k + 3) else (k + 2) : Int32) : Int32) fun x11 => g_113_74 oF Z k y7 x11 0 0))) else some (false, Z)) else none)
set_option maxRecDepth 100000 in
set_option maxHeartbeats 4000000 in
theorem t_113 {fm : Value} {sx : Nat × (Nat → Int32)} {d : Nat} {Z : zr_Z} {Q : Option Value → zr_Z → Prop} (hu : fm = .null ∨ ∃ q, fm = .ref q) (k : Int32) (H : oq (o_113 Z k) (fun x => Q (some (.int (bI x.1))) x.2)) : zw fm sx (d + 2) 113 0 [some (.ref 136), some (.int k), none, none, none, none] [] Z Q := by
  unfold o_113 at H
  obtain ⟨hS, H⟩ := oq_ob H
  refine zw_run 2 (pc' := 2) (loc' := [some (.ref 136), some (.int k), none, none, none, none]) (stk' := [.int k, .ref 136]) (fun _ _ _ => rfl) ?_
  refine zw_callf (As := [.ref 136, .int k]) (rest := []) (c_183 (Z := Z) hS k (d := d + 1)) rfl rfl rfl rfl ?_
  show zw fm sx (d + 2) 113 5 [some (.ref 136), some (.int k), none, none, none, none] [.int (ra Z k)] Z Q
  refine zw_run 1 (pc' := 7) (loc' := [some (.ref 136), some (.int k), none, none, none, none]) (stk' := [.int 38, .int (ra Z k)]) (fun _ _ _ => rfl) ?_
  refine zw_br (c := (ra Z k) = 38) (t1 := 12) (t2 := 10) (loc' := [some (.ref 136), some (.int k), none, none, none, none]) (stk' := []) (fun _ _ _ => rfl) (fun c1 => ?_) (fun c1 => ?_)
  · rw [if_pos c1] at H
    refine zw_run 4 (pc' := 16) (loc' := [some (.ref 136), some (.int k), none, none, none, none]) (stk' := [.int (k + 1), .ref 136]) (fun _ _ _ => rfl) ?_
    refine zw_callf (As := [.ref 136, .int (k + 1)]) (rest := []) (c_183 (Z := Z) hS (k + 1) (d := d + 1)) rfl rfl rfl rfl ?_
    show zw fm sx (d + 2) 113 19 [some (.ref 136), some (.int k), none, none, none, none] [.int (ra Z (k + 1))] Z Q
    refine zw_run 1 (pc' := 21) (loc' := [some (.ref 136), some (.int k), none, none, none, none]) (stk' := [.int 35, .int (ra Z (k + 1))]) (fun _ _ _ => rfl) ?_
    refine zw_br (c := ¬ (ra Z (k + 1)) = 35) (t1 := 237) (t2 := 24) (loc' := [some (.ref 136), some (.int k), none, none, none, none]) (stk' := []) (fun _ _ _ => rfl) (fun c2 => ?_) (fun c2 => ?_)
    · rw [if_pos c2] at H
      refine zw_run 2 (pc' := 239) (loc' := [some (.ref 136), some (.int k), some (.int 0), none, none, none]) (stk' := []) (fun _ _ _ => rfl) ?_
      exact l_113_239 hu k _ Z 0 H
    · rw [if_neg c2] at H
      refine zw_run 4 (pc' := 28) (loc' := [some (.ref 136), some (.int k), none, none, none, none]) (stk' := [.int (k + 2), .ref 136]) (fun _ _ _ => rfl) ?_
      refine zw_callf (As := [.ref 136, .int (k + 2)]) (rest := []) (c_183 (Z := Z) hS (k + 2) (d := d + 1)) rfl rfl rfl rfl ?_
      show zw fm sx (d + 2) 113 31 [some (.ref 136), some (.int k), none, none, none, none] [.int (ra Z (k + 2))] Z Q
      refine zw_run 1 (pc' := 33) (loc' := [some (.ref 136), some (.int k), none, none, none, none]) (stk' := [.int 120, .int (ra Z (k + 2))]) (fun _ _ _ => rfl) ?_
      have J6 : ∀ (v5 : Int32), v5 = (bI ((decide ((ra Z (k + 2)) = 120)) || (decide ((ra Z (k + 2)) = 88)))) → zw fm sx (d + 2) 113 53 [some (.ref 136), some (.int k), none, none, none, none] [.int v5] Z Q := by
        intro v5 ev5
        subst ev5
        refine zw_run 1 (pc' := 54) (loc' := [some (.ref 136), some (.int k), some (.int (bI ((decide ((ra Z (k + 2)) = 120)) || (decide ((ra Z (k + 2)) = 88))))), none, none, none]) (stk' := []) (fun _ _ _ => rfl) ?_
        obtain ⟨y7, hy7⟩ : ∃ w : Bool, w = ((decide ((ra Z (k + 2)) = 120)) || (decide ((ra Z (k + 2)) = 88))) := ⟨_, rfl⟩
        rw [← hy7]
        have H := oq_let H y7 hy7
        refine zw_run 1 (pc' := 55) (loc' := [some (.ref 136), some (.int k), some (.int (bI y7)), none, none, none]) (stk' := [.int (bI y7)]) (fun _ _ _ => rfl) ?_
        have J10 : ∀ (v9 : Int32), v9 = (if y7 = true then (k + 3) else (k + 2) : Int32) → zw fm sx (d + 2) 113 67 [some (.ref 136), some (.int k), some (.int (bI y7)), none, none, none] [.int v9] Z Q := by
          intro v9 ev9
          subst ev9
          refine zw_run 1 (pc' := 68) (loc' := [some (.ref 136), some (.int k), some (.int (bI y7)), some (.int (if y7 = true then (k + 3) else (k + 2) : Int32)), none, none]) (stk' := []) (fun _ _ _ => rfl) ?_
          obtain ⟨x11, hx11⟩ : ∃ w : Int32, w = (if y7 = true then (k + 3) else (k + 2) : Int32) := ⟨_, rfl⟩
          rw [← hx11]
          have H := oq_let H x11 hx11
          refine zw_run 4 (pc' := 74) (loc' := [some (.ref 136), some (.int k), some (.int (bI y7)), some (.int x11), some (.int 0), some (.int 0)]) (stk' := []) (fun _ _ _ => rfl) ?_
          refine zw_fgt [true, false, true, true, true, true] rfl ?_
          exact l_113_74 hu k _ Z y7 x11 0 0 H
        refine zw_b0 (b := y7) (t1 := 58) (t2 := 64) (loc' := [some (.ref 136), some (.int k), some (.int (bI y7)), none, none, none]) (stk' := []) (fun _ _ _ => rfl) (fun c8 => ?_) (fun c8 => ?_)
        · skip
          refine zw_run 4 (pc' := 67) (loc' := [some (.ref 136), some (.int k), some (.int (bI y7)), none, none, none]) (stk' := [.int (k + 3)]) (fun _ _ _ => rfl) ?_
          exact J10 _ (by first | (rw [if_pos c8]; done) | (rw [if_pos c8]; rfl) | (clear H J10; simp_all [bI]; done))
        · skip
          refine zw_run 3 (pc' := 67) (loc' := [some (.ref 136), some (.int k), some (.int (bI y7)), none, none, none]) (stk' := [.int (k + 2)]) (fun _ _ _ => rfl) ?_
          exact J10 _ (by first | (rw [if_neg c8]; done) | (rw [if_neg c8]; rfl) | (clear H J10; simp_all [bI]; done))
      refine zw_br (c := (ra Z (k + 2)) = 120) (t1 := 48) (t2 := 36) (loc' := [some (.ref 136), some (.int k), none, none, none, none]) (stk' := []) (fun _ _ _ => rfl) (fun c3 => ?_) (fun c3 => ?_)
      · skip
        refine zw_run 2 (pc' := 53) (loc' := [some (.ref 136), some (.int k), none, none, none, none]) (stk' := [.int 1]) (fun _ _ _ => rfl) ?_
        exact J6 _ (by clear H J6; first | (simp [bI, c3]; done) | (simp [bI, *]; done) | (simp_all [bI]; done) | (exfalso; simp_all; done))
      · skip
        refine zw_run 4 (pc' := 40) (loc' := [some (.ref 136), some (.int k), none, none, none, none]) (stk' := [.int (k + 2), .ref 136]) (fun _ _ _ => rfl) ?_
        refine zw_callf (As := [.ref 136, .int (k + 2)]) (rest := []) (c_183 (Z := Z) hS (k + 2) (d := d + 1)) rfl rfl rfl rfl ?_
        show zw fm sx (d + 2) 113 43 [some (.ref 136), some (.int k), none, none, none, none] [.int (ra Z (k + 2))] Z Q
        refine zw_run 1 (pc' := 45) (loc' := [some (.ref 136), some (.int k), none, none, none, none]) (stk' := [.int 88, .int (ra Z (k + 2))]) (fun _ _ _ => rfl) ?_
        refine zw_br (c := ¬ (ra Z (k + 2)) = 88) (t1 := 52) (t2 := 48) (loc' := [some (.ref 136), some (.int k), none, none, none, none]) (stk' := []) (fun _ _ _ => rfl) (fun c4 => ?_) (fun c4 => ?_)
        · skip
          refine zw_run 1 (pc' := 53) (loc' := [some (.ref 136), some (.int k), none, none, none, none]) (stk' := [.int 0]) (fun _ _ _ => rfl) ?_
          exact J6 _ (by clear H J6; first | (simp [bI, c3, c4]; done) | (simp [bI, *]; done) | (simp_all [bI]; done) | (exfalso; simp_all; done))
        · skip
          refine zw_run 2 (pc' := 53) (loc' := [some (.ref 136), some (.int k), none, none, none, none]) (stk' := [.int 1]) (fun _ _ _ => rfl) ?_
          exact J6 _ (by clear H J6; first | (simp [bI, c3, c4]; done) | (simp [bI, *]; done) | (simp_all [bI]; done) | (exfalso; simp_all; done))
  · rw [if_neg c1] at H
    refine zw_run 1 (pc' := 11) (loc' := [some (.ref 136), some (.int k), none, none, none, none]) (stk' := [.int 0]) (fun _ _ _ => rfl) ?_
    refine zw_retz rfl rfl (Or.inl rfl) ?_
    have H := oq_some H
    exact H
theorem c_113 {fm : Value} {sx : Nat × (Nat → Int32)} {d : Nat} {Z : zr_Z} (hu : fm = .null ∨ ∃ q, fm = .ref q) (k : Int32) {x : Bool × zr_Z} (hx : o_113 Z k = some x) : zl fm sx (d + 3) 113 [.ref 136, .int k] Z (fun r Z' => r = some (.int (bI x.1)) ∧ Z' = x.2) :=
  zl_of (nL := 6) (loc0 := [some (.ref 136), some (.int k), none, none, none, none]) rfl rfl rfl (t_113 hu k ⟨x, hx, rfl, rfl⟩)
/-- MarkInlinesModel.gap, its loop at 33 -/
def g_114_33 : Nat → zr_Z → Int32 → Int32 → Option Int32
  | 0, _, _, _ => none
  | n + 1, Z, k, x2 => (if sok Z then (if ¬ (ra Z x2) = 32 then some x2 else g_114_33 n Z k (x2 + 1)) else none)
set_option maxRecDepth 100000 in
set_option maxHeartbeats 4000000 in
theorem l_114_33 {fm : Value} {sx : Nat × (Nat → Int32)} {d : Nat} {Q : Option Value → zr_Z → Prop} (hu : fm = .null ∨ ∃ q, fm = .ref q) (k : Int32) : ∀ (n : Nat) (Z : zr_Z) (x2 : Int32), oq (g_114_33 n Z k x2) (fun x => Q (some (.int x)) Z) → zw fm sx (d + 1) 114 33 [some (.ref 136), none, some (.int x2)] [] Z Q := by
  intro n
  induction n with
  | zero => intro Z x2 H; exact absurd H oq_none
  | succ n ih =>
    intro Z x2 H
    unfold g_114_33 at H
    obtain ⟨hS, H⟩ := oq_ob H
    refine zw_run 2 (pc' := 35) (loc' := [some (.ref 136), none, some (.int x2)]) (stk' := [.int x2, .ref 136]) (fun _ _ _ => rfl) ?_
    refine zw_callf (As := [.ref 136, .int x2]) (rest := []) (c_183 (Z := Z) hS x2 (d := d + 0)) rfl rfl rfl rfl ?_
    show zw fm sx (d + 1) 114 38 [some (.ref 136), none, some (.int x2)] [.int (ra Z x2)] Z Q
    refine zw_run 1 (pc' := 40) (loc' := [some (.ref 136), none, some (.int x2)]) (stk' := [.int 32, .int (ra Z x2)]) (fun _ _ _ => rfl) ?_
    refine zw_br (c := ¬ (ra Z x2) = 32) (t1 := 49) (t2 := 43) (loc' := [some (.ref 136), none, some (.int x2)]) (stk' := []) (fun _ _ _ => rfl) (fun c1 => ?_) (fun c1 => ?_)
    · rw [if_pos c1] at H
      refine zw_run 1 (pc' := 50) (loc' := [some (.ref 136), none, some (.int x2)]) (stk' := [.int x2]) (fun _ _ _ => rfl) ?_
      refine zw_reti (i := .nop) rfl rfl ?_
      have H := oq_some H
      exact H
    · rw [if_neg c1] at H
      refine zw_run 2 (pc' := 33) (loc' := [some (.ref 136), none, some (.int (x2 + 1))]) (stk' := []) (fun _ _ _ => rfl) ?_
      exact ih Z (x2 + 1) H
/-- MarkInlinesModel.gap, its loop at 2 -/
def g_114_2 : Nat → zr_Z → Int32 → Int32 → Option Int32
  | 0, _, _, _ => none
  | n + 1, Z, k, x2 => (if sok Z then (if ¬ (ra Z x2) = 32 then (if (ra Z x2) = 10 then g_114_33 oF Z k (x2 + 1) else some x2) else g_114_2 n Z k (x2 + 1)) else none)
set_option maxRecDepth 100000 in
set_option maxHeartbeats 4000000 in
theorem l_114_2 {fm : Value} {sx : Nat × (Nat → Int32)} {d : Nat} {Q : Option Value → zr_Z → Prop} (hu : fm = .null ∨ ∃ q, fm = .ref q) (k : Int32) : ∀ (n : Nat) (Z : zr_Z) (x2 : Int32), oq (g_114_2 n Z k x2) (fun x => Q (some (.int x)) Z) → zw fm sx (d + 1) 114 2 [some (.ref 136), none, some (.int x2)] [] Z Q := by
  intro n
  induction n with
  | zero => intro Z x2 H; exact absurd H oq_none
  | succ n ih =>
    intro Z x2 H
    unfold g_114_2 at H
    obtain ⟨hS, H⟩ := oq_ob H
    refine zw_run 2 (pc' := 4) (loc' := [some (.ref 136), none, some (.int x2)]) (stk' := [.int x2, .ref 136]) (fun _ _ _ => rfl) ?_
    refine zw_callf (As := [.ref 136, .int x2]) (rest := []) (c_183 (Z := Z) hS x2 (d := d + 0)) rfl rfl rfl rfl ?_
    show zw fm sx (d + 1) 114 7 [some (.ref 136), none, some (.int x2)] [.int (ra Z x2)] Z Q
    refine zw_run 1 (pc' := 9) (loc' := [some (.ref 136), none, some (.int x2)]) (stk' := [.int 32, .int (ra Z x2)]) (fun _ _ _ => rfl) ?_
    refine zw_br (c := ¬ (ra Z x2) = 32) (t1 := 18) (t2 := 12) (loc' := [some (.ref 136), none, some (.int x2)]) (stk' := []) (fun _ _ _ => rfl) (fun c1 => ?_) (fun c1 => ?_)
    · rw [if_pos c1] at H
      refine zw_run 2 (pc' := 20) (loc' := [some (.ref 136), none, some (.int x2)]) (stk' := [.int x2, .ref 136]) (fun _ _ _ => rfl) ?_
      refine zw_callf (As := [.ref 136, .int x2]) (rest := []) (c_183 (Z := Z) hS x2 (d := d + 0)) rfl rfl rfl rfl ?_
      show zw fm sx (d + 1) 114 23 [some (.ref 136), none, some (.int x2)] [.int (ra Z x2)] Z Q
      refine zw_run 1 (pc' := 25) (loc' := [some (.ref 136), none, some (.int x2)]) (stk' := [.int 10, .int (ra Z x2)]) (fun _ _ _ => rfl) ?_
      refine zw_br (c := (ra Z x2) = 10) (t1 := 30) (t2 := 28) (loc' := [some (.ref 136), none, some (.int x2)]) (stk' := []) (fun _ _ _ => rfl) (fun c2 => ?_) (fun c2 => ?_)
      · rw [if_pos c2] at H
        refine zw_run 1 (pc' := 33) (loc' := [some (.ref 136), none, some (.int (x2 + 1))]) (stk' := []) (fun _ _ _ => rfl) ?_
        exact l_114_33 hu k _ Z (x2 + 1) H
      · rw [if_neg c2] at H
        refine zw_run 1 (pc' := 29) (loc' := [some (.ref 136), none, some (.int x2)]) (stk' := [.int x2]) (fun _ _ _ => rfl) ?_
        refine zw_reti (i := .nop) rfl rfl ?_
        have H := oq_some H
        exact H
    · rw [if_neg c1] at H
      refine zw_run 2 (pc' := 2) (loc' := [some (.ref 136), none, some (.int (x2 + 1))]) (stk' := []) (fun _ _ _ => rfl) ?_
      exact ih Z (x2 + 1) H
/-- MarkInlinesModel.gap -/
def o_114 (Z : zr_Z) (k : Int32) : Option Int32 := (if sok Z then g_114_2 oF Z k k else none)
set_option maxRecDepth 100000 in
set_option maxHeartbeats 4000000 in
theorem t_114 {fm : Value} {sx : Nat × (Nat → Int32)} {d : Nat} {Z : zr_Z} {Q : Option Value → zr_Z → Prop} (hu : fm = .null ∨ ∃ q, fm = .ref q) (k : Int32) (H : oq (o_114 Z k) (fun x => Q (some (.int x)) Z)) : zw fm sx (d + 1) 114 0 [some (.ref 136), some (.int k), none] [] Z Q := by
  unfold o_114 at H
  obtain ⟨hS, H⟩ := oq_ob H
  refine zw_run 2 (pc' := 2) (loc' := [some (.ref 136), some (.int k), some (.int k)]) (stk' := []) (fun _ _ _ => rfl) ?_
  refine zw_fgt [true, false, true] rfl ?_
  exact l_114_2 hu k _ Z k H
theorem c_114 {fm : Value} {sx : Nat × (Nat → Int32)} {d : Nat} {Z : zr_Z} (hu : fm = .null ∨ ∃ q, fm = .ref q) (k : Int32) {x : Int32} (hx : o_114 Z k = some x) : zl fm sx (d + 2) 114 [.ref 136, .int k] Z (fun r Z' => r = some (.int x) ∧ Z' = Z) :=
  zl_of (nL := 3) (loc0 := [some (.ref 136), some (.int k), none]) rfl rfl rfl (t_114 hu k ⟨x, hx, rfl, rfl⟩)
/-- MarkInlinesModel.isLabelText, its loop at 5 -/
def g_115_5 : Nat → zr_Z → Int32 → Int32 → Bool → Int32 → Option Bool
  | 0, _, _, _, _, _ => none
  | n + 1, Z, a, b, y3, x4 => (if sok Z then (if b ≤ x4 then some ((!y3) && (!(decide (100 < (b - a))))) else (if (ra Z x4) = 91 then some false else (if ¬ (ra Z x4) = 93 then (olet ((y3 && (k_143 (ra Z x4))) : Bool) fun y12 => (if ¬ (ra Z x4) = 92 then g_115_5 n Z a b y12 (x4 + 1) else (if (x4 + 1) < b then g_115_5 n Z a b y12 ((x4 + 1) + 1) else some false))) else some false))) else none)
set_option maxRecDepth 100000 in
set_option maxHeartbeats 4000000 in
theorem l_115_5 {fm : Value} {sx : Nat × (Nat → Int32)} {d : Nat} {Q : Option Value → zr_Z → Prop} (hu : fm = .null ∨ ∃ q, fm = .ref q) (a : Int32) (b : Int32) : ∀ (n : Nat) (Z : zr_Z) (y3 : Bool) (x4 : Int32), oq (g_115_5 n Z a b y3 x4) (fun x => Q (some (.int (bI x))) Z) → zw fm sx (d + 1) 115 5 [some (.ref 136), some (.int a), some (.int b), some (.int (bI y3)), some (.int x4), none] [] Z Q := by
  intro n
  induction n with
  | zero => intro Z y3 x4 H; exact absurd H oq_none
  | succ n ih =>
    intro Z y3 x4 H
    unfold g_115_5 at H
    obtain ⟨hS, H⟩ := oq_ob H
    refine zw_run 2 (pc' := 8) (loc' := [some (.ref 136), some (.int a), some (.int b), some (.int (bI y3)), some (.int x4), none]) (stk' := [.int b, .int x4]) (fun _ _ _ => rfl) ?_
    refine zw_br (c := b ≤ x4) (t1 := 77) (t2 := 11) (loc' := [some (.ref 136), some (.int a), some (.int b), some (.int (bI y3)), some (.int x4), none]) (stk' := []) (fun _ _ _ => rfl) (fun c1 => ?_) (fun c1 => ?_)
    · rw [if_pos c1] at H
      refine zw_run 1 (pc' := 78) (loc' := [some (.ref 136), some (.int a), some (.int b), some (.int (bI y3)), some (.int x4), none]) (stk' := [.int (bI y3)]) (fun _ _ _ => rfl) ?_
      have J5 : ∀ (v4 : Int32), v4 = (bI ((!y3) && (!(decide (100 < (b - a)))))) → zw fm sx (d + 1) 115 94 [some (.ref 136), some (.int a), some (.int b), some (.int (bI y3)), some (.int x4), none] [.int v4] Z Q := by
        intro v4 ev4
        subst ev4
        refine zw_retz rfl rfl (bI_01 _) ?_
        have H := oq_some H
        exact H
      refine zw_b1 (b := y3) (t1 := 93) (t2 := 81) (loc' := [some (.ref 136), some (.int a), some (.int b), some (.int (bI y3)), some (.int x4), none]) (stk' := []) (fun _ _ _ => rfl) (fun c2 => ?_) (fun c2 => ?_)
      · skip
        refine zw_run 1 (pc' := 94) (loc' := [some (.ref 136), some (.int a), some (.int b), some (.int (bI y3)), some (.int x4), none]) (stk' := [.int 0]) (fun _ _ _ => rfl) ?_
        exact J5 _ (by clear H J5; first | (simp [bI, c2]; done) | (simp [bI, *]; done) | (simp_all [bI]; done) | (exfalso; simp_all; done))
      · skip
        refine zw_run 4 (pc' := 86) (loc' := [some (.ref 136), some (.int a), some (.int b), some (.int (bI y3)), some (.int x4), none]) (stk' := [.int 100, .int (b - a)]) (fun _ _ _ => rfl) ?_
        refine zw_br (c := 100 < (b - a)) (t1 := 93) (t2 := 89) (loc' := [some (.ref 136), some (.int a), some (.int b), some (.int (bI y3)), some (.int x4), none]) (stk' := []) (fun _ _ _ => rfl) (fun c3 => ?_) (fun c3 => ?_)
        · skip
          refine zw_run 1 (pc' := 94) (loc' := [some (.ref 136), some (.int a), some (.int b), some (.int (bI y3)), some (.int x4), none]) (stk' := [.int 0]) (fun _ _ _ => rfl) ?_
          exact J5 _ (by clear H J5; first | (simp [bI, c2, c3]; done) | (simp [bI, *]; done) | (simp_all [bI]; done) | (exfalso; simp_all; done))
        · skip
          refine zw_run 2 (pc' := 94) (loc' := [some (.ref 136), some (.int a), some (.int b), some (.int (bI y3)), some (.int x4), none]) (stk' := [.int 1]) (fun _ _ _ => rfl) ?_
          exact J5 _ (by clear H J5; first | (simp [bI, c2, c3]; done) | (simp [bI, *]; done) | (simp_all [bI]; done) | (exfalso; simp_all; done))
    · rw [if_neg c1] at H
      refine zw_run 2 (pc' := 14) (loc' := [some (.ref 136), some (.int a), some (.int b), some (.int (bI y3)), some (.int x4), none]) (stk' := [.int x4, .ref 136]) (fun _ _ _ => rfl) ?_
      refine zw_callf (As := [.ref 136, .int x4]) (rest := []) (c_183 (Z := Z) hS x4 (d := d + 0)) rfl rfl rfl rfl ?_
      show zw fm sx (d + 1) 115 17 [some (.ref 136), some (.int a), some (.int b), some (.int (bI y3)), some (.int x4), none] [.int (ra Z x4)] Z Q
      refine zw_run 3 (pc' := 23) (loc' := [some (.ref 136), some (.int a), some (.int b), some (.int (bI y3)), some (.int x4), some (.int (ra Z x4))]) (stk' := [.int 91, .int (ra Z x4)]) (fun _ _ _ => rfl) ?_
      refine zw_br (c := (ra Z x4) = 91) (t1 := 33) (t2 := 26) (loc' := [some (.ref 136), some (.int a), some (.int b), some (.int (bI y3)), some (.int x4), some (.int (ra Z x4))]) (stk' := []) (fun _ _ _ => rfl) (fun c6 => ?_) (fun c6 => ?_)
      · rw [if_pos c6] at H
        refine zw_run 1 (pc' := 34) (loc' := [some (.ref 136), some (.int a), some (.int b), some (.int (bI y3)), some (.int x4), some (.int (ra Z x4))]) (stk' := [.int 0]) (fun _ _ _ => rfl) ?_
        refine zw_retz rfl rfl (Or.inl rfl) ?_
        have H := oq_some H
        exact H
      · rw [if_neg c6] at H
        refine zw_run 2 (pc' := 30) (loc' := [some (.ref 136), some (.int a), some (.int b), some (.int (bI y3)), some (.int x4), some (.int (ra Z x4))]) (stk' := [.int 93, .int (ra Z x4)]) (fun _ _ _ => rfl) ?_
        refine zw_br (c := ¬ (ra Z x4) = 93) (t1 := 35) (t2 := 33) (loc' := [some (.ref 136), some (.int a), some (.int b), some (.int (bI y3)), some (.int x4), some (.int (ra Z x4))]) (stk' := []) (fun _ _ _ => rfl) (fun c7 => ?_) (fun c7 => ?_)
        · rw [if_pos c7] at H
          refine zw_run 1 (pc' := 36) (loc' := [some (.ref 136), some (.int a), some (.int b), some (.int (bI y3)), some (.int x4), some (.int (ra Z x4))]) (stk' := [.int (bI y3)]) (fun _ _ _ => rfl) ?_
          have J11 : ∀ (v10 : Int32), v10 = (bI (y3 && (k_143 (ra Z x4)))) → zw fm sx (d + 1) 115 52 [some (.ref 136), some (.int a), some (.int b), some (.int (bI y3)), some (.int x4), some (.int (ra Z x4))] [.int v10] Z Q := by
            intro v10 ev10
            subst ev10
            refine zw_run 1 (pc' := 53) (loc' := [some (.ref 136), some (.int a), some (.int b), some (.int (bI (y3 && (k_143 (ra Z x4))))), some (.int x4), some (.int (ra Z x4))]) (stk' := []) (fun _ _ _ => rfl) ?_
            obtain ⟨y12, hy12⟩ : ∃ w : Bool, w = (y3 && (k_143 (ra Z x4))) := ⟨_, rfl⟩
            rw [← hy12]
            have H := oq_let H y12 hy12
            refine zw_run 2 (pc' := 57) (loc' := [some (.ref 136), some (.int a), some (.int b), some (.int (bI y12)), some (.int x4), some (.int (ra Z x4))]) (stk' := [.int 92, .int (ra Z x4)]) (fun _ _ _ => rfl) ?_
            refine zw_br (c := ¬ (ra Z x4) = 92) (t1 := 71) (t2 := 60) (loc' := [some (.ref 136), some (.int a), some (.int b), some (.int (bI y12)), some (.int x4), some (.int (ra Z x4))]) (stk' := []) (fun _ _ _ => rfl) (fun c13 => ?_) (fun c13 => ?_)
            · rw [if_pos c13] at H
              refine zw_run 2 (pc' := 5) (loc' := [some (.ref 136), some (.int a), some (.int b), some (.int (bI y12)), some (.int (x4 + 1)), some (.int (ra Z x4))]) (stk' := []) (fun _ _ _ => rfl) ?_
              refine zw_fgt [true, true, true, true, true, false] rfl ?_
              exact ih Z y12 (x4 + 1) H
            · rw [if_neg c13] at H
              refine zw_run 3 (pc' := 66) (loc' := [some (.ref 136), some (.int a), some (.int b), some (.int (bI y12)), some (.int (x4 + 1)), some (.int (ra Z x4))]) (stk' := [.int b, .int (x4 + 1)]) (fun _ _ _ => rfl) ?_
              refine zw_br (c := (x4 + 1) < b) (t1 := 71) (t2 := 69) (loc' := [some (.ref 136), some (.int a), some (.int b), some (.int (bI y12)), some (.int (x4 + 1)), some (.int (ra Z x4))]) (stk' := []) (fun _ _ _ => rfl) (fun c14 => ?_) (fun c14 => ?_)
              · rw [if_pos c14] at H
                refine zw_run 2 (pc' := 5) (loc' := [some (.ref 136), some (.int a), some (.int b), some (.int (bI y12)), some (.int ((x4 + 1) + 1)), some (.int (ra Z x4))]) (stk' := []) (fun _ _ _ => rfl) ?_
                refine zw_fgt [true, true, true, true, true, false] rfl ?_
                exact ih Z y12 ((x4 + 1) + 1) H
              · rw [if_neg c14] at H
                refine zw_run 1 (pc' := 70) (loc' := [some (.ref 136), some (.int a), some (.int b), some (.int (bI y12)), some (.int (x4 + 1)), some (.int (ra Z x4))]) (stk' := [.int 0]) (fun _ _ _ => rfl) ?_
                refine zw_retz rfl rfl (Or.inl rfl) ?_
                have H := oq_some H
                exact H
          refine zw_b0 (b := y3) (t1 := 39) (t2 := 51) (loc' := [some (.ref 136), some (.int a), some (.int b), some (.int (bI y3)), some (.int x4), some (.int (ra Z x4))]) (stk' := []) (fun _ _ _ => rfl) (fun c8 => ?_) (fun c8 => ?_)
          · skip
            refine zw_run 1 (pc' := 41) (loc' := [some (.ref 136), some (.int a), some (.int b), some (.int (bI y3)), some (.int x4), some (.int (ra Z x4))]) (stk' := [.int (ra Z x4)]) (fun _ _ _ => rfl) ?_
            refine zw_callf (As := [.int (ra Z x4)]) (rest := []) (c_143 (ra Z x4) (d := d + 0)) rfl rfl rfl rfl ?_
            show zw fm sx (d + 1) 115 44 [some (.ref 136), some (.int a), some (.int b), some (.int (bI y3)), some (.int x4), some (.int (ra Z x4))] [.int (bI (k_143 (ra Z x4)))] Z Q
            refine zw_b0 (b := (k_143 (ra Z x4))) (t1 := 47) (t2 := 51) (loc' := [some (.ref 136), some (.int a), some (.int b), some (.int (bI y3)), some (.int x4), some (.int (ra Z x4))]) (stk' := []) (fun _ _ _ => rfl) (fun c9 => ?_) (fun c9 => ?_)
            · skip
              refine zw_run 2 (pc' := 52) (loc' := [some (.ref 136), some (.int a), some (.int b), some (.int (bI y3)), some (.int x4), some (.int (ra Z x4))]) (stk' := [.int 1]) (fun _ _ _ => rfl) ?_
              exact J11 _ (by clear H J11; first | (simp [bI, c8, c9]; done) | (simp [bI, *]; done) | (simp_all [bI]; done) | (exfalso; simp_all; done))
            · skip
              refine zw_run 1 (pc' := 52) (loc' := [some (.ref 136), some (.int a), some (.int b), some (.int (bI y3)), some (.int x4), some (.int (ra Z x4))]) (stk' := [.int 0]) (fun _ _ _ => rfl) ?_
              exact J11 _ (by clear H J11; first | (simp [bI, c8, c9]; done) | (simp [bI, *]; done) | (simp_all [bI]; done) | (exfalso; simp_all; done))
          · skip
            refine zw_run 1 (pc' := 52) (loc' := [some (.ref 136), some (.int a), some (.int b), some (.int (bI y3)), some (.int x4), some (.int (ra Z x4))]) (stk' := [.int 0]) (fun _ _ _ => rfl) ?_
            exact J11 _ (by clear H J11; first | (simp [bI, c8]; done) | (simp [bI, *]; done) | (simp_all [bI]; done) | (exfalso; simp_all; done))
        · rw [if_neg c7] at H
          refine zw_run 1 (pc' := 34) (loc' := [some (.ref 136), some (.int a), some (.int b), some (.int (bI y3)), some (.int x4), some (.int (ra Z x4))]) (stk' := [.int 0]) (fun _ _ _ => rfl) ?_
          refine zw_retz rfl rfl (Or.inl rfl) ?_
          have H := oq_some H
          exact H
/-- MarkInlinesModel.isLabelText -/
def o_115 (Z : zr_Z) (a : Int32) (b : Int32) : Option Bool := (if sok Z then g_115_5 oF Z a b true a else none)
set_option maxRecDepth 100000 in
set_option maxHeartbeats 4000000 in
theorem t_115 {fm : Value} {sx : Nat × (Nat → Int32)} {d : Nat} {Z : zr_Z} {Q : Option Value → zr_Z → Prop} (hu : fm = .null ∨ ∃ q, fm = .ref q) (a : Int32) (b : Int32) (H : oq (o_115 Z a b) (fun x => Q (some (.int (bI x))) Z)) : zw fm sx (d + 1) 115 0 [some (.ref 136), some (.int a), some (.int b), none, none, none] [] Z Q := by
  unfold o_115 at H
  obtain ⟨hS, H⟩ := oq_ob H
  refine zw_run 4 (pc' := 5) (loc' := [some (.ref 136), some (.int a), some (.int b), some (.int 1), some (.int a), none]) (stk' := []) (fun _ _ _ => rfl) ?_
  exact l_115_5 hu a b _ Z true a H
theorem c_115 {fm : Value} {sx : Nat × (Nat → Int32)} {d : Nat} {Z : zr_Z} (hu : fm = .null ∨ ∃ q, fm = .ref q) (a : Int32) (b : Int32) {x : Bool} (hx : o_115 Z a b = some x) : zl fm sx (d + 2) 115 [.ref 136, .int a, .int b] Z (fun r Z' => r = some (.int (bI x)) ∧ Z' = Z) :=
  zl_of (nL := 6) (loc0 := [some (.ref 136), some (.int a), some (.int b), none, none, none]) rfl rfl rfl (t_115 hu a b ⟨x, hx, rfl, rfl⟩)
/-- MarkInlinesModel.isLabel, its loop at 16 -/
def g_116_16 : Nat → zr_Z → Int32 → Int32 → Option (Bool × zr_Z)
  | 0, _, _, _ => none
  | n + 1, Z, k, x2 => (if sok Z then (if (zf Z 3) ≤ x2 then (if x2 < (zf Z 3) then (Option.bind (o_115 (zmf (zmf (zmf Z 52 (k + 1)) 53 x2) 50 (x2 + 1)) (k + 1) x2) fun u3 => some (u3, zmf (zmf (zmf Z 52 (k + 1)) 53 x2) 50 (x2 + 1))) else some (false, Z)) else (if (ra Z x2) = 93 then (if x2 < (zf Z 3) then (Option.bind (o_115 (zmf (zmf (zmf Z 52 (k + 1)) 53 x2) 50 (x2 + 1)) (k + 1) x2) fun u6 => some (u6, zmf (zmf (zmf Z 52 (k + 1)) 53 x2) 50 (x2 + 1))) else some (false, Z)) else (olet (x2 + (if ¬ (ra Z x2) = 92 then 1 else 2 : Int32) : Int32) fun x10 => g_116_16 n Z k x10))) else none)
set_option maxRecDepth 100000 in
set_option maxHeartbeats 4000000 in
theorem l_116_16 {fm : Value} {sx : Nat × (Nat → Int32)} {d : Nat} {Q : Option Value → zr_Z → Prop} (hu : fm = .null ∨ ∃ q, fm = .ref q) (k : Int32) : ∀ (n : Nat) (Z : zr_Z) (x2 : Int32), oq (g_116_16 n Z k x2) (fun x => Q (some (.int (bI x.1))) x.2) → zw fm sx (d + 2) 116 16 [some (.ref 136), some (.int k), some (.int x2)] [] Z Q := by
  intro n
  induction n with
  | zero => intro Z x2 H; exact absurd H oq_none
  | succ n ih =>
    intro Z x2 H
    unfold g_116_16 at H
    obtain ⟨hS, H⟩ := oq_ob H
    refine zw_run 2 (pc' := 18) (loc' := [some (.ref 136), some (.int k), some (.int x2)]) (stk' := [.ref 136, .int x2]) (fun _ _ _ => rfl) ?_
    refine zw_mget (v := .int (zf Z 3)) rfl rfl ?_
    refine zw_br (c := (zf Z 3) ≤ x2) (t1 := 55) (t2 := 24) (loc' := [some (.ref 136), some (.int k), some (.int x2)]) (stk' := []) (fun _ _ _ => rfl) (fun c1 => ?_) (fun c1 => ?_)
    · rw [if_pos c1] at H
      refine zw_run 2 (pc' := 57) (loc' := [some (.ref 136), some (.int k), some (.int x2)]) (stk' := [.ref 136, .int x2]) (fun _ _ _ => rfl) ?_
      refine zw_mget (v := .int (zf Z 3)) rfl rfl ?_
      refine zw_br (c := x2 < (zf Z 3)) (t1 := 65) (t2 := 63) (loc' := [some (.ref 136), some (.int k), some (.int x2)]) (stk' := []) (fun _ _ _ => rfl) (fun c2 => ?_) (fun c2 => ?_)
      · rw [if_pos c2] at H
        refine zw_run 4 (pc' := 69) (loc' := [some (.ref 136), some (.int k), some (.int x2)]) (stk' := [.int (k + 1), .ref 136]) (fun _ _ _ => rfl) ?_
        refine zw_mput rfl rfl rfl rfl ?_
        show zw fm sx (d + 2) 116 72 [some (.ref 136), some (.int k), some (.int x2)] [] (zmf Z 52 (k + 1)) Q
        refine zw_run 2 (pc' := 74) (loc' := [some (.ref 136), some (.int k), some (.int x2)]) (stk' := [.int x2, .ref 136]) (fun _ _ _ => rfl) ?_
        refine zw_mput rfl rfl rfl rfl ?_
        show zw fm sx (d + 2) 116 77 [some (.ref 136), some (.int k), some (.int x2)] [] (zmf (zmf Z 52 (k + 1)) 53 x2) Q
        refine zw_run 4 (pc' := 81) (loc' := [some (.ref 136), some (.int k), some (.int x2)]) (stk' := [.int (x2 + 1), .ref 136]) (fun _ _ _ => rfl) ?_
        refine zw_mput rfl rfl rfl rfl ?_
        show zw fm sx (d + 2) 116 84 [some (.ref 136), some (.int k), some (.int x2)] [] (zmf (zmf (zmf Z 52 (k + 1)) 53 x2) 50 (x2 + 1)) Q
        refine zw_run 2 (pc' := 86) (loc' := [some (.ref 136), some (.int k), some (.int x2)]) (stk' := [.ref 136, .ref 136]) (fun _ _ _ => rfl) ?_
        refine zw_mget (v := .int (k + 1)) rfl rfl ?_
        refine zw_run 1 (pc' := 90) (loc' := [some (.ref 136), some (.int k), some (.int x2)]) (stk' := [.ref 136, .int (k + 1), .ref 136]) (fun _ _ _ => rfl) ?_
        refine zw_mget (v := .int x2) rfl rfl ?_
        obtain ⟨u3, hu3, H⟩ := oq_bind H
        refine zw_callf (As := [.ref 136, .int (k + 1), .int x2]) (rest := []) (c_115 hu (k + 1) x2 hu3 (d := d + 0)) rfl rfl rfl rfl ?_
        show zw fm sx (d + 2) 116 96 [some (.ref 136), some (.int k), some (.int x2)] [.int (bI u3)] (zmf (zmf (zmf Z 52 (k + 1)) 53 x2) 50 (x2 + 1)) Q
        refine zw_retz rfl rfl (bI_01 _) ?_
        have H := oq_some H
        exact H
      · rw [if_neg c2] at H
        refine zw_run 1 (pc' := 64) (loc' := [some (.ref 136), some (.int k), some (.int x2)]) (stk' := [.int 0]) (fun _ _ _ => rfl) ?_
        refine zw_retz rfl rfl (Or.inl rfl) ?_
        have H := oq_some H
        exact H
    · rw [if_neg c1] at H
      refine zw_run 2 (pc' := 26) (loc' := [some (.ref 136), some (.int k), some (.int x2)]) (stk' := [.int x2, .ref 136]) (fun _ _ _ => rfl) ?_
      refine zw_callf (As := [.ref 136, .int x2]) (rest := []) (c_183 (Z := Z) hS x2 (d := d + 1)) rfl rfl rfl rfl ?_
      show zw fm sx (d + 2) 116 29 [some (.ref 136), some (.int k), some (.int x2)] [.int (ra Z x2)] Z Q
      refine zw_run 1 (pc' := 31) (loc' := [some (.ref 136), some (.int k), some (.int x2)]) (stk' := [.int 93, .int (ra Z x2)]) (fun _ _ _ => rfl) ?_
      refine zw_br (c := (ra Z x2) = 93) (t1 := 55) (t2 := 34) (loc' := [some (.ref 136), some (.int k), some (.int x2)]) (stk' := []) (fun _ _ _ => rfl) (fun c4 => ?_) (fun c4 => ?_)
      · rw [if_pos c4] at H
        refine zw_run 2 (pc' := 57) (loc' := [some (.ref 136), some (.int k), some (.int x2)]) (stk' := [.ref 136, .int x2]) (fun _ _ _ => rfl) ?_
        refine zw_mget (v := .int (zf Z 3)) rfl rfl ?_
        refine zw_br (c := x2 < (zf Z 3)) (t1 := 65) (t2 := 63) (loc' := [some (.ref 136), some (.int k), some (.int x2)]) (stk' := []) (fun _ _ _ => rfl) (fun c5 => ?_) (fun c5 => ?_)
        · rw [if_pos c5] at H
          refine zw_run 4 (pc' := 69) (loc' := [some (.ref 136), some (.int k), some (.int x2)]) (stk' := [.int (k + 1), .ref 136]) (fun _ _ _ => rfl) ?_
          refine zw_mput rfl rfl rfl rfl ?_
          show zw fm sx (d + 2) 116 72 [some (.ref 136), some (.int k), some (.int x2)] [] (zmf Z 52 (k + 1)) Q
          refine zw_run 2 (pc' := 74) (loc' := [some (.ref 136), some (.int k), some (.int x2)]) (stk' := [.int x2, .ref 136]) (fun _ _ _ => rfl) ?_
          refine zw_mput rfl rfl rfl rfl ?_
          show zw fm sx (d + 2) 116 77 [some (.ref 136), some (.int k), some (.int x2)] [] (zmf (zmf Z 52 (k + 1)) 53 x2) Q
          refine zw_run 4 (pc' := 81) (loc' := [some (.ref 136), some (.int k), some (.int x2)]) (stk' := [.int (x2 + 1), .ref 136]) (fun _ _ _ => rfl) ?_
          refine zw_mput rfl rfl rfl rfl ?_
          show zw fm sx (d + 2) 116 84 [some (.ref 136), some (.int k), some (.int x2)] [] (zmf (zmf (zmf Z 52 (k + 1)) 53 x2) 50 (x2 + 1)) Q
          refine zw_run 2 (pc' := 86) (loc' := [some (.ref 136), some (.int k), some (.int x2)]) (stk' := [.ref 136, .ref 136]) (fun _ _ _ => rfl) ?_
          refine zw_mget (v := .int (k + 1)) rfl rfl ?_
          refine zw_run 1 (pc' := 90) (loc' := [some (.ref 136), some (.int k), some (.int x2)]) (stk' := [.ref 136, .int (k + 1), .ref 136]) (fun _ _ _ => rfl) ?_
          refine zw_mget (v := .int x2) rfl rfl ?_
          obtain ⟨u6, hu6, H⟩ := oq_bind H
          refine zw_callf (As := [.ref 136, .int (k + 1), .int x2]) (rest := []) (c_115 hu (k + 1) x2 hu6 (d := d + 0)) rfl rfl rfl rfl ?_
          show zw fm sx (d + 2) 116 96 [some (.ref 136), some (.int k), some (.int x2)] [.int (bI u6)] (zmf (zmf (zmf Z 52 (k + 1)) 53 x2) 50 (x2 + 1)) Q
          refine zw_retz rfl rfl (bI_01 _) ?_
          have H := oq_some H
          exact H
        · rw [if_neg c5] at H
          refine zw_run 1 (pc' := 64) (loc' := [some (.ref 136), some (.int k), some (.int x2)]) (stk' := [.int 0]) (fun _ _ _ => rfl) ?_
          refine zw_retz rfl rfl (Or.inl rfl) ?_
          have H := oq_some H
          exact H
      · rw [if_neg c4] at H
        refine zw_run 3 (pc' := 37) (loc' := [some (.ref 136), some (.int k), some (.int x2)]) (stk' := [.int x2, .ref 136, .int x2]) (fun _ _ _ => rfl) ?_
        refine zw_callf (As := [.ref 136, .int x2]) (rest := [.int x2]) (c_183 (Z := Z) hS x2 (d := d + 1)) rfl rfl rfl rfl ?_
        show zw fm sx (d + 2) 116 40 [some (.ref 136), some (.int k), some (.int x2)] [.int (ra Z x2), .int x2] Z Q
        refine zw_run 1 (pc' := 42) (loc' := [some (.ref 136), some (.int k), some (.int x2)]) (stk' := [.int 92, .int (ra Z x2), .int x2]) (fun _ _ _ => rfl) ?_
        have J9 : ∀ (v8 : Int32), v8 = (if ¬ (ra Z x2) = 92 then 1 else 2 : Int32) → zw fm sx (d + 2) 116 50 [some (.ref 136), some (.int k), some (.int x2)] [.int v8, .int x2] Z Q := by
          intro v8 ev8
          subst ev8
          refine zw_run 2 (pc' := 52) (loc' := [some (.ref 136), some (.int k), some (.int (x2 + (if ¬ (ra Z x2) = 92 then 1 else 2 : Int32)))]) (stk' := []) (fun _ _ _ => rfl) ?_
          obtain ⟨x10, hx10⟩ : ∃ w : Int32, w = x2 + (if ¬ (ra Z x2) = 92 then 1 else 2 : Int32) := ⟨_, rfl⟩
          rw [← hx10]
          have H := oq_let H x10 hx10
          refine zw_run 1 (pc' := 16) (loc' := [some (.ref 136), some (.int k), some (.int x10)]) (stk' := []) (fun _ _ _ => rfl) ?_
          exact ih Z x10 H
        refine zw_br (c := ¬ (ra Z x2) = 92) (t1 := 49) (t2 := 45) (loc' := [some (.ref 136), some (.int k), some (.int x2)]) (stk' := [.int x2]) (fun _ _ _ => rfl) (fun c7 => ?_) (fun c7 => ?_)
        · skip
          refine zw_run 1 (pc' := 50) (loc' := [some (.ref 136), some (.int k), some (.int x2)]) (stk' := [.int 1, .int x2]) (fun _ _ _ => rfl) ?_
          exact J9 _ (by first | (rw [if_pos c7]; done) | (rw [if_pos c7]; rfl) | (clear H J9; simp_all [bI]; done))
        · skip
          refine zw_run 2 (pc' := 50) (loc' := [some (.ref 136), some (.int k), some (.int x2)]) (stk' := [.int 2, .int x2]) (fun _ _ _ => rfl) ?_
          exact J9 _ (by first | (rw [if_neg c7]; done) | (rw [if_neg c7]; rfl) | (clear H J9; simp_all [bI]; done))
/-- MarkInlinesModel.isLabel -/
def o_116 (Z : zr_Z) (k : Int32) : Option (Bool × zr_Z) := (if sok Z then (if (ra Z k) = 91 then g_116_16 oF Z k (k + 1) else some (false, Z)) else none)
set_option maxRecDepth 100000 in
set_option maxHeartbeats 4000000 in
theorem t_116 {fm : Value} {sx : Nat × (Nat → Int32)} {d : Nat} {Z : zr_Z} {Q : Option Value → zr_Z → Prop} (hu : fm = .null ∨ ∃ q, fm = .ref q) (k : Int32) (H : oq (o_116 Z k) (fun x => Q (some (.int (bI x.1))) x.2)) : zw fm sx (d + 2) 116 0 [some (.ref 136), some (.int k), none] [] Z Q := by
  unfold o_116 at H
  obtain ⟨hS, H⟩ := oq_ob H
  refine zw_run 2 (pc' := 2) (loc' := [some (.ref 136), some (.int k), none]) (stk' := [.int k, .ref 136]) (fun _ _ _ => rfl) ?_
  refine zw_callf (As := [.ref 136, .int k]) (rest := []) (c_183 (Z := Z) hS k (d := d + 1)) rfl rfl rfl rfl ?_
  show zw fm sx (d + 2) 116 5 [some (.ref 136), some (.int k), none] [.int (ra Z k)] Z Q
  refine zw_run 1 (pc' := 7) (loc' := [some (.ref 136), some (.int k), none]) (stk' := [.int 91, .int (ra Z k)]) (fun _ _ _ => rfl) ?_
  refine zw_br (c := (ra Z k) = 91) (t1 := 12) (t2 := 10) (loc' := [some (.ref 136), some (.int k), none]) (stk' := []) (fun _ _ _ => rfl) (fun c1 => ?_) (fun c1 => ?_)
  · rw [if_pos c1] at H
    refine zw_run 4 (pc' := 16) (loc' := [some (.ref 136), some (.int k), some (.int (k + 1))]) (stk' := []) (fun _ _ _ => rfl) ?_
    exact l_116_16 hu k _ Z (k + 1) H
  · rw [if_neg c1] at H
    refine zw_run 1 (pc' := 11) (loc' := [some (.ref 136), some (.int k), none]) (stk' := [.int 0]) (fun _ _ _ => rfl) ?_
    refine zw_retz rfl rfl (Or.inl rfl) ?_
    have H := oq_some H
    exact H
theorem c_116 {fm : Value} {sx : Nat × (Nat → Int32)} {d : Nat} {Z : zr_Z} (hu : fm = .null ∨ ∃ q, fm = .ref q) (k : Int32) {x : Bool × zr_Z} (hx : o_116 Z k = some x) : zl fm sx (d + 3) 116 [.ref 136, .int k] Z (fun r Z' => r = some (.int (bI x.1)) ∧ Z' = x.2) :=
  zl_of (nL := 3) (loc0 := [some (.ref 136), some (.int k), none]) rfl rfl rfl (t_116 hu k ⟨x, hx, rfl, rfl⟩)
/-- MarkInlinesModel.isTarget, its loop at 113 -/
def g_117_113 : Nat → zr_Z → Int32 → Int32 → Int32 → Bool → Option (Bool × zr_Z)
  | 0, _, _, _, _, _ => none
  | n + 1, Z, k, x2, x3, y4 => (if sok Z then (if y4 = true then (olet (((!(decide ((ra Z x2) ≤ 32))) && ((!(decide ((ra Z x2) = 127))) && ((!(decide ((ra Z x2) = 41))) || (!(decide (x3 ≤ 0)))))) : Bool) fun y8 => g_117_113 n Z k (if y8 = true then (x2 + (if (rp Z x2) = true then 2 else 1 : Int32)) else x2 : Int32) (if y8 = true then (x3 + (if ¬ (ra Z x2) = 40 then (if ¬ (ra Z x2) = 41 then 0 else (-1) : Int32) else 1 : Int32)) else x3 : Int32) y8) else some (((!(decide (x2 ≤ k))) && ((decide (x3 = 0)) && ((decide ((ra Z x2) = (-1))) || ((k_143 (ra Z x2)) || (decide ((ra Z x2) = 41)))))), zmf (zmf (zmf Z 52 k) 53 x2) 50 x2)) else none)
set_option maxRecDepth 100000 in
set_option maxHeartbeats 4000000 in
theorem l_117_113 {fm : Value} {sx : Nat × (Nat → Int32)} {d : Nat} {Q : Option Value → zr_Z → Prop} (hu : fm = .null ∨ ∃ q, fm = .ref q) (k : Int32) : ∀ (n : Nat) (Z : zr_Z) (x2 : Int32) (x3 : Int32) (y4 : Bool), oq (g_117_113 n Z k x2 x3 y4) (fun x => Q (some (.int (bI x.1))) x.2) → zw fm sx (d + 2) 117 113 [some (.ref 136), some (.int k), some (.int x2), some (.int x3), some (.int (bI y4)), none] [] Z Q := by
  intro n
  induction n with
  | zero => intro Z x2 x3 y4 H; exact absurd H oq_none
  | succ n ih =>
    intro Z x2 x3 y4 H
    unfold g_117_113 at H
    obtain ⟨hS, H⟩ := oq_ob H
    refine zw_run 1 (pc' := 115) (loc' := [some (.ref 136), some (.int k), some (.int x2), some (.int x3), some (.int (bI y4)), none]) (stk' := [.int (bI y4)]) (fun _ _ _ => rfl) ?_
    refine zw_b0 (b := y4) (t1 := 118) (t2 := 207) (loc' := [some (.ref 136), some (.int k), some (.int x2), some (.int x3), some (.int (bI y4)), none]) (stk' := []) (fun _ _ _ => rfl) (fun c1 => ?_) (fun c1 => ?_)
    · rw [if_pos c1] at H
      refine zw_run 2 (pc' := 120) (loc' := [some (.ref 136), some (.int k), some (.int x2), some (.int x3), some (.int (bI y4)), none]) (stk' := [.int x2, .ref 136]) (fun _ _ _ => rfl) ?_
      refine zw_callf (As := [.ref 136, .int x2]) (rest := []) (c_183 (Z := Z) hS x2 (d := d + 1)) rfl rfl rfl rfl ?_
      show zw fm sx (d + 2) 117 123 [some (.ref 136), some (.int k), some (.int x2), some (.int x3), some (.int (bI y4)), none] [.int (ra Z x2)] Z Q
      refine zw_run 3 (pc' := 129) (loc' := [some (.ref 136), some (.int k), some (.int x2), some (.int x3), some (.int (bI y4)), some (.int (ra Z x2))]) (stk' := [.int 32, .int (ra Z x2)]) (fun _ _ _ => rfl) ?_
      have J7 : ∀ (v6 : Int32), v6 = (bI ((!(decide ((ra Z x2) ≤ 32))) && ((!(decide ((ra Z x2) = 127))) && ((!(decide ((ra Z x2) = 41))) || (!(decide (x3 ≤ 0))))))) → zw fm sx (d + 2) 117 155 [some (.ref 136), some (.int k), some (.int x2), some (.int x3), some (.int (bI y4)), some (.int (ra Z x2))] [.int v6] Z Q := by
        intro v6 ev6
        subst ev6
        refine zw_run 1 (pc' := 157) (loc' := [some (.ref 136), some (.int k), some (.int x2), some (.int x3), some (.int (bI ((!(decide ((ra Z x2) ≤ 32))) && ((!(decide ((ra Z x2) = 127))) && ((!(decide ((ra Z x2) = 41))) || (!(decide (x3 ≤ 0)))))))), some (.int (ra Z x2))]) (stk' := []) (fun _ _ _ => rfl) ?_
        obtain ⟨y8, hy8⟩ : ∃ w : Bool, w = ((!(decide ((ra Z x2) ≤ 32))) && ((!(decide ((ra Z x2) = 127))) && ((!(decide ((ra Z x2) = 41))) || (!(decide (x3 ≤ 0)))))) := ⟨_, rfl⟩
        rw [← hy8]
        have H := oq_let H y8 hy8
        refine zw_run 1 (pc' := 159) (loc' := [some (.ref 136), some (.int k), some (.int x2), some (.int x3), some (.int (bI y8)), some (.int (ra Z x2))]) (stk' := [.int (bI y8)]) (fun _ _ _ => rfl) ?_
        have J19 : ∀ (v17 : Int32) (v18 : Int32), v17 = (if y8 = true then (x2 + (if (rp Z x2) = true then 2 else 1 : Int32)) else x2 : Int32) → v18 = (if y8 = true then (x3 + (if ¬ (ra Z x2) = 40 then (if ¬ (ra Z x2) = 41 then 0 else (-1) : Int32) else 1 : Int32)) else x3 : Int32) → zw fm sx (d + 2) 117 204 [some (.ref 136), some (.int k), some (.int v17), some (.int v18), some (.int (bI y8)), some (.int (ra Z x2))] [] Z Q := by
          intro v17 v18 ev17 ev18
          subst ev17 ev18
          refine zw_run 1 (pc' := 113) (loc' := [some (.ref 136), some (.int k), some (.int (if y8 = true then (x2 + (if (rp Z x2) = true then 2 else 1 : Int32)) else x2 : Int32)), some (.int (if y8 = true then (x3 + (if ¬ (ra Z x2) = 40 then (if ¬ (ra Z x2) = 41 then 0 else (-1) : Int32) else 1 : Int32)) else x3 : Int32)), some (.int (bI y8)), some (.int (ra Z x2))]) (stk' := []) (fun _ _ _ => rfl) ?_
          refine zw_fgt [true, true, true, true, true, false] rfl ?_
          exact ih Z (if y8 = true then (x2 + (if (rp Z x2) = true then 2 else 1 : Int32)) else x2 : Int32) (if y8 = true then (x3 + (if ¬ (ra Z x2) = 40 then (if ¬ (ra Z x2) = 41 then 0 else (-1) : Int32) else 1 : Int32)) else x3 : Int32) y8 H
        refine zw_b0 (b := y8) (t1 := 162) (t2 := 204) (loc' := [some (.ref 136), some (.int k), some (.int x2), some (.int x3), some (.int (bI y8)), some (.int (ra Z x2))]) (stk' := []) (fun _ _ _ => rfl) (fun c9 => ?_) (fun c9 => ?_)
        · skip
          refine zw_run 3 (pc' := 167) (loc' := [some (.ref 136), some (.int k), some (.int x2), some (.int x3), some (.int (bI y8)), some (.int (ra Z x2))]) (stk' := [.int 40, .int (ra Z x2), .int x3]) (fun _ _ _ => rfl) ?_
          have J13 : ∀ (v12 : Int32), v12 = (if ¬ (ra Z x2) = 40 then (if ¬ (ra Z x2) = 41 then 0 else (-1) : Int32) else 1 : Int32) → zw fm sx (d + 2) 117 186 [some (.ref 136), some (.int k), some (.int x2), some (.int x3), some (.int (bI y8)), some (.int (ra Z x2))] [.int v12, .int x3] Z Q := by
            intro v12 ev12
            subst ev12
            refine zw_run 5 (pc' := 191) (loc' := [some (.ref 136), some (.int k), some (.int x2), some (.int (x3 + (if ¬ (ra Z x2) = 40 then (if ¬ (ra Z x2) = 41 then 0 else (-1) : Int32) else 1 : Int32))), some (.int (bI y8)), some (.int (ra Z x2))]) (stk' := [.int x2, .ref 136, .int x2]) (fun _ _ _ => rfl) ?_
            refine zw_callf (As := [.ref 136, .int x2]) (rest := [.int x2]) (c_111 (Z := Z) hS x2 (d := d + 0)) rfl rfl rfl rfl ?_
            show zw fm sx (d + 2) 117 194 [some (.ref 136), some (.int k), some (.int x2), some (.int (x3 + (if ¬ (ra Z x2) = 40 then (if ¬ (ra Z x2) = 41 then 0 else (-1) : Int32) else 1 : Int32))), some (.int (bI y8)), some (.int (ra Z x2))] [.int (bI (rp Z x2)), .int x2] Z Q
            have J16 : ∀ (v15 : Int32), v15 = (if (rp Z x2) = true then 2 else 1 : Int32) → zw fm sx (d + 2) 117 202 [some (.ref 136), some (.int k), some (.int x2), some (.int (x3 + (if ¬ (ra Z x2) = 40 then (if ¬ (ra Z x2) = 41 then 0 else (-1) : Int32) else 1 : Int32))), some (.int (bI y8)), some (.int (ra Z x2))] [.int v15, .int x2] Z Q := by
              intro v15 ev15
              subst ev15
              refine zw_run 2 (pc' := 204) (loc' := [some (.ref 136), some (.int k), some (.int (x2 + (if (rp Z x2) = true then 2 else 1 : Int32))), some (.int (x3 + (if ¬ (ra Z x2) = 40 then (if ¬ (ra Z x2) = 41 then 0 else (-1) : Int32) else 1 : Int32))), some (.int (bI y8)), some (.int (ra Z x2))]) (stk' := []) (fun _ _ _ => rfl) ?_
              exact J19 _ _ (by first | (rw [if_pos c9]; done) | (rw [if_pos c9]; rfl) | (clear H J19; simp_all [bI]; done)) (by first | (rw [if_pos c9]; done) | (rw [if_pos c9]; rfl) | (clear H J19; simp_all [bI]; done))
            refine zw_b0 (b := (rp Z x2)) (t1 := 197) (t2 := 201) (loc' := [some (.ref 136), some (.int k), some (.int x2), some (.int (x3 + (if ¬ (ra Z x2) = 40 then (if ¬ (ra Z x2) = 41 then 0 else (-1) : Int32) else 1 : Int32))), some (.int (bI y8)), some (.int (ra Z x2))]) (stk' := [.int x2]) (fun _ _ _ => rfl) (fun c14 => ?_) (fun c14 => ?_)
            · skip
              refine zw_run 2 (pc' := 202) (loc' := [some (.ref 136), some (.int k), some (.int x2), some (.int (x3 + (if ¬ (ra Z x2) = 40 then (if ¬ (ra Z x2) = 41 then 0 else (-1) : Int32) else 1 : Int32))), some (.int (bI y8)), some (.int (ra Z x2))]) (stk' := [.int 2, .int x2]) (fun _ _ _ => rfl) ?_
              exact J16 _ (by first | (rw [if_pos c14]; done) | (rw [if_pos c14]; rfl) | (clear H J16; simp_all [bI]; done))
            · skip
              refine zw_run 1 (pc' := 202) (loc' := [some (.ref 136), some (.int k), some (.int x2), some (.int (x3 + (if ¬ (ra Z x2) = 40 then (if ¬ (ra Z x2) = 41 then 0 else (-1) : Int32) else 1 : Int32))), some (.int (bI y8)), some (.int (ra Z x2))]) (stk' := [.int 1, .int x2]) (fun _ _ _ => rfl) ?_
              exact J16 _ (by first | (rw [if_neg c14]; done) | (rw [if_neg c14]; rfl) | (clear H J16; simp_all [bI]; done))
          refine zw_br (c := ¬ (ra Z x2) = 40) (t1 := 174) (t2 := 170) (loc' := [some (.ref 136), some (.int k), some (.int x2), some (.int x3), some (.int (bI y8)), some (.int (ra Z x2))]) (stk' := [.int x3]) (fun _ _ _ => rfl) (fun c10 => ?_) (fun c10 => ?_)
          · skip
            refine zw_run 2 (pc' := 178) (loc' := [some (.ref 136), some (.int k), some (.int x2), some (.int x3), some (.int (bI y8)), some (.int (ra Z x2))]) (stk' := [.int 41, .int (ra Z x2), .int x3]) (fun _ _ _ => rfl) ?_
            refine zw_br (c := ¬ (ra Z x2) = 41) (t1 := 185) (t2 := 181) (loc' := [some (.ref 136), some (.int k), some (.int x2), some (.int x3), some (.int (bI y8)), some (.int (ra Z x2))]) (stk' := [.int x3]) (fun _ _ _ => rfl) (fun c11 => ?_) (fun c11 => ?_)
            · skip
              refine zw_run 1 (pc' := 186) (loc' := [some (.ref 136), some (.int k), some (.int x2), some (.int x3), some (.int (bI y8)), some (.int (ra Z x2))]) (stk' := [.int 0, .int x3]) (fun _ _ _ => rfl) ?_
              exact J13 _ (by first | (rw [if_pos c10, if_pos c11]; done) | (rw [if_pos c10, if_pos c11]; rfl) | (clear H J13; simp_all [bI]; done))
            · skip
              refine zw_run 2 (pc' := 186) (loc' := [some (.ref 136), some (.int k), some (.int x2), some (.int x3), some (.int (bI y8)), some (.int (ra Z x2))]) (stk' := [.int (-1), .int x3]) (fun _ _ _ => rfl) ?_
              exact J13 _ (by first | (rw [if_pos c10, if_neg c11]; done) | (rw [if_pos c10, if_neg c11]; rfl) | (clear H J13; simp_all [bI]; done))
          · skip
            refine zw_run 2 (pc' := 186) (loc' := [some (.ref 136), some (.int k), some (.int x2), some (.int x3), some (.int (bI y8)), some (.int (ra Z x2))]) (stk' := [.int 1, .int x3]) (fun _ _ _ => rfl) ?_
            exact J13 _ (by first | (rw [if_neg c10]; done) | (rw [if_neg c10]; rfl) | (clear H J13; simp_all [bI]; done))
        · skip
          exact J19 _ _ (by first | (rw [if_neg c9]; done) | (rw [if_neg c9]; rfl) | (clear H J19; simp_all [bI]; done)) (by first | (rw [if_neg c9]; done) | (rw [if_neg c9]; rfl) | (clear H J19; simp_all [bI]; done))
      refine zw_br (c := (ra Z x2) ≤ 32) (t1 := 154) (t2 := 132) (loc' := [some (.ref 136), some (.int k), some (.int x2), some (.int x3), some (.int (bI y4)), some (.int (ra Z x2))]) (stk' := []) (fun _ _ _ => rfl) (fun c2 => ?_) (fun c2 => ?_)
      · skip
        refine zw_run 1 (pc' := 155) (loc' := [some (.ref 136), some (.int k), some (.int x2), some (.int x3), some (.int (bI y4)), some (.int (ra Z x2))]) (stk' := [.int 0]) (fun _ _ _ => rfl) ?_
        exact J7 _ (by clear H J7; first | (simp [bI, c2]; done) | (simp [bI, *]; done) | (simp_all [bI]; done) | (exfalso; simp_all; done))
      · skip
        refine zw_run 2 (pc' := 136) (loc' := [some (.ref 136), some (.int k), some (.int x2), some (.int x3), some (.int (bI y4)), some (.int (ra Z x2))]) (stk' := [.int 127, .int (ra Z x2)]) (fun _ _ _ => rfl) ?_
        refine zw_br (c := (ra Z x2) = 127) (t1 := 154) (t2 := 139) (loc' := [some (.ref 136), some (.int k), some (.int x2), some (.int x3), some (.int (bI y4)), some (.int (ra Z x2))]) (stk' := []) (fun _ _ _ => rfl) (fun c3 => ?_) (fun c3 => ?_)
        · skip
          refine zw_run 1 (pc' := 155) (loc' := [some (.ref 136), some (.int k), some (.int x2), some (.int x3), some (.int (bI y4)), some (.int (ra Z x2))]) (stk' := [.int 0]) (fun _ _ _ => rfl) ?_
          exact J7 _ (by clear H J7; first | (simp [bI, c2, c3]; done) | (simp [bI, *]; done) | (simp_all [bI]; done) | (exfalso; simp_all; done))
        · skip
          refine zw_run 2 (pc' := 143) (loc' := [some (.ref 136), some (.int k), some (.int x2), some (.int x3), some (.int (bI y4)), some (.int (ra Z x2))]) (stk' := [.int 41, .int (ra Z x2)]) (fun _ _ _ => rfl) ?_
          refine zw_br (c := ¬ (ra Z x2) = 41) (t1 := 150) (t2 := 146) (loc' := [some (.ref 136), some (.int k), some (.int x2), some (.int x3), some (.int (bI y4)), some (.int (ra Z x2))]) (stk' := []) (fun _ _ _ => rfl) (fun c4 => ?_) (fun c4 => ?_)
          · skip
            refine zw_run 2 (pc' := 155) (loc' := [some (.ref 136), some (.int k), some (.int x2), some (.int x3), some (.int (bI y4)), some (.int (ra Z x2))]) (stk' := [.int 1]) (fun _ _ _ => rfl) ?_
            exact J7 _ (by clear H J7; first | (simp [bI, c2, c3, c4]; done) | (simp [bI, *]; done) | (simp_all [bI]; done) | (exfalso; simp_all; done))
          · skip
            refine zw_run 1 (pc' := 147) (loc' := [some (.ref 136), some (.int k), some (.int x2), some (.int x3), some (.int (bI y4)), some (.int (ra Z x2))]) (stk' := [.int x3]) (fun _ _ _ => rfl) ?_
            refine zw_br (c := x3 ≤ 0) (t1 := 154) (t2 := 150) (loc' := [some (.ref 136), some (.int k), some (.int x2), some (.int x3), some (.int (bI y4)), some (.int (ra Z x2))]) (stk' := []) (fun _ _ _ => rfl) (fun c5 => ?_) (fun c5 => ?_)
            · skip
              refine zw_run 1 (pc' := 155) (loc' := [some (.ref 136), some (.int k), some (.int x2), some (.int x3), some (.int (bI y4)), some (.int (ra Z x2))]) (stk' := [.int 0]) (fun _ _ _ => rfl) ?_
              exact J7 _ (by clear H J7; first | (simp [bI, c2, c3, c4, c5]; done) | (simp [bI, *]; done) | (simp_all [bI]; done) | (exfalso; simp_all; done))
            · skip
              refine zw_run 2 (pc' := 155) (loc' := [some (.ref 136), some (.int k), some (.int x2), some (.int x3), some (.int (bI y4)), some (.int (ra Z x2))]) (stk' := [.int 1]) (fun _ _ _ => rfl) ?_
              exact J7 _ (by clear H J7; first | (simp [bI, c2, c3, c4, c5]; done) | (simp [bI, *]; done) | (simp_all [bI]; done) | (exfalso; simp_all; done))
    · rw [if_neg c1] at H
      refine zw_run 2 (pc' := 209) (loc' := [some (.ref 136), some (.int k), some (.int x2), some (.int x3), some (.int (bI y4)), none]) (stk' := [.int k, .ref 136]) (fun _ _ _ => rfl) ?_
      refine zw_mput rfl rfl rfl rfl ?_
      show zw fm sx (d + 2) 117 212 [some (.ref 136), some (.int k), some (.int x2), some (.int x3), some (.int (bI y4)), none] [] (zmf Z 52 k) Q
      refine zw_run 2 (pc' := 214) (loc' := [some (.ref 136), some (.int k), some (.int x2), some (.int x3), some (.int (bI y4)), none]) (stk' := [.int x2, .ref 136]) (fun _ _ _ => rfl) ?_
      refine zw_mput rfl rfl rfl rfl ?_
      show zw fm sx (d + 2) 117 217 [some (.ref 136), some (.int k), some (.int x2), some (.int x3), some (.int (bI y4)), none] [] (zmf (zmf Z 52 k) 53 x2) Q
      refine zw_run 2 (pc' := 219) (loc' := [some (.ref 136), some (.int k), some (.int x2), some (.int x3), some (.int (bI y4)), none]) (stk' := [.int x2, .ref 136]) (fun _ _ _ => rfl) ?_
      refine zw_mput rfl rfl rfl rfl ?_
      show zw fm sx (d + 2) 117 222 [some (.ref 136), some (.int k), some (.int x2), some (.int x3), some (.int (bI y4)), none] [] (zmf (zmf (zmf Z 52 k) 53 x2) 50 x2) Q
      refine zw_run 2 (pc' := 224) (loc' := [some (.ref 136), some (.int k), some (.int x2), some (.int x3), some (.int (bI y4)), none]) (stk' := [.int k, .int x2]) (fun _ _ _ => rfl) ?_
      have J26 : ∀ (v25 : Int32), v25 = (bI ((!(decide (x2 ≤ k))) && ((decide (x3 = 0)) && ((decide ((ra Z x2) = (-1))) || ((k_143 (ra Z x2)) || (decide ((ra Z x2) = 41))))))) → zw fm sx (d + 2) 117 266 [some (.ref 136), some (.int k), some (.int x2), some (.int x3), some (.int (bI y4)), none] [.int v25] (zmf (zmf (zmf Z 52 k) 53 x2) 50 x2) Q := by
        intro v25 ev25
        subst ev25
        refine zw_retz rfl rfl (bI_01 _) ?_
        have H := oq_some H
        exact H
      refine zw_br (c := x2 ≤ k) (t1 := 265) (t2 := 227) (loc' := [some (.ref 136), some (.int k), some (.int x2), some (.int x3), some (.int (bI y4)), none]) (stk' := []) (fun _ _ _ => rfl) (fun c20 => ?_) (fun c20 => ?_)
      · skip
        refine zw_run 1 (pc' := 266) (loc' := [some (.ref 136), some (.int k), some (.int x2), some (.int x3), some (.int (bI y4)), none]) (stk' := [.int 0]) (fun _ _ _ => rfl) ?_
        exact J26 _ (by clear H J26; first | (simp [bI, c20]; done) | (simp [bI, *]; done) | (simp_all [bI]; done) | (exfalso; simp_all; done))
      · skip
        refine zw_run 1 (pc' := 228) (loc' := [some (.ref 136), some (.int k), some (.int x2), some (.int x3), some (.int (bI y4)), none]) (stk' := [.int x3]) (fun _ _ _ => rfl) ?_
        refine zw_br (c := ¬ x3 = 0) (t1 := 265) (t2 := 231) (loc' := [some (.ref 136), some (.int k), some (.int x2), some (.int x3), some (.int (bI y4)), none]) (stk' := []) (fun _ _ _ => rfl) (fun c21 => ?_) (fun c21 => ?_)
        · skip
          refine zw_run 1 (pc' := 266) (loc' := [some (.ref 136), some (.int k), some (.int x2), some (.int x3), some (.int (bI y4)), none]) (stk' := [.int 0]) (fun _ _ _ => rfl) ?_
          exact J26 _ (by clear H J26; first | (simp [bI, c20, c21]; done) | (simp [bI, *]; done) | (simp_all [bI]; done) | (exfalso; simp_all; done))
        · skip
          refine zw_run 2 (pc' := 233) (loc' := [some (.ref 136), some (.int k), some (.int x2), some (.int x3), some (.int (bI y4)), none]) (stk' := [.int x2, .ref 136]) (fun _ _ _ => rfl) ?_
          refine zw_callf (As := [.ref 136, .int x2]) (rest := []) (c_183 (Z := zmf (zmf (zmf Z 52 k) 53 x2) 50 x2) hS x2 (d := d + 1)) rfl rfl rfl rfl ?_
          show zw fm sx (d + 2) 117 236 [some (.ref 136), some (.int k), some (.int x2), some (.int x3), some (.int (bI y4)), none] [.int (ra Z x2)] (zmf (zmf (zmf Z 52 k) 53 x2) 50 x2) Q
          refine zw_run 1 (pc' := 237) (loc' := [some (.ref 136), some (.int k), some (.int x2), some (.int x3), some (.int (bI y4)), none]) (stk' := [.int (-1), .int (ra Z x2)]) (fun _ _ _ => rfl) ?_
          refine zw_br (c := (ra Z x2) = (-1)) (t1 := 261) (t2 := 240) (loc' := [some (.ref 136), some (.int k), some (.int x2), some (.int x3), some (.int (bI y4)), none]) (stk' := []) (fun _ _ _ => rfl) (fun c22 => ?_) (fun c22 => ?_)
          · skip
            refine zw_run 2 (pc' := 266) (loc' := [some (.ref 136), some (.int k), some (.int x2), some (.int x3), some (.int (bI y4)), none]) (stk' := [.int 1]) (fun _ _ _ => rfl) ?_
            exact J26 _ (by clear H J26; first | (simp [bI, c20, c21, c22]; done) | (simp [bI, *]; done) | (simp_all [bI]; done) | (exfalso; simp_all; done))
          · skip
            refine zw_run 2 (pc' := 242) (loc' := [some (.ref 136), some (.int k), some (.int x2), some (.int x3), some (.int (bI y4)), none]) (stk' := [.int x2, .ref 136]) (fun _ _ _ => rfl) ?_
            refine zw_callf (As := [.ref 136, .int x2]) (rest := []) (c_183 (Z := zmf (zmf (zmf Z 52 k) 53 x2) 50 x2) hS x2 (d := d + 1)) rfl rfl rfl rfl ?_
            show zw fm sx (d + 2) 117 245 [some (.ref 136), some (.int k), some (.int x2), some (.int x3), some (.int (bI y4)), none] [.int (ra Z x2)] (zmf (zmf (zmf Z 52 k) 53 x2) 50 x2) Q
            refine zw_callf (As := [.int (ra Z x2)]) (rest := []) (c_143 (ra Z x2) (d := d + 1)) rfl rfl rfl rfl ?_
            show zw fm sx (d + 2) 117 248 [some (.ref 136), some (.int k), some (.int x2), some (.int x3), some (.int (bI y4)), none] [.int (bI (k_143 (ra Z x2)))] (zmf (zmf (zmf Z 52 k) 53 x2) 50 x2) Q
            refine zw_b1 (b := (k_143 (ra Z x2))) (t1 := 261) (t2 := 251) (loc' := [some (.ref 136), some (.int k), some (.int x2), some (.int x3), some (.int (bI y4)), none]) (stk' := []) (fun _ _ _ => rfl) (fun c23 => ?_) (fun c23 => ?_)
            · skip
              refine zw_run 2 (pc' := 266) (loc' := [some (.ref 136), some (.int k), some (.int x2), some (.int x3), some (.int (bI y4)), none]) (stk' := [.int 1]) (fun _ _ _ => rfl) ?_
              exact J26 _ (by clear H J26; first | (simp [bI, c20, c21, c22, c23]; done) | (simp [bI, *]; done) | (simp_all [bI]; done) | (exfalso; simp_all; done))
            · skip
              refine zw_run 2 (pc' := 253) (loc' := [some (.ref 136), some (.int k), some (.int x2), some (.int x3), some (.int (bI y4)), none]) (stk' := [.int x2, .ref 136]) (fun _ _ _ => rfl) ?_
              refine zw_callf (As := [.ref 136, .int x2]) (rest := []) (c_183 (Z := zmf (zmf (zmf Z 52 k) 53 x2) 50 x2) hS x2 (d := d + 1)) rfl rfl rfl rfl ?_
              show zw fm sx (d + 2) 117 256 [some (.ref 136), some (.int k), some (.int x2), some (.int x3), some (.int (bI y4)), none] [.int (ra Z x2)] (zmf (zmf (zmf Z 52 k) 53 x2) 50 x2) Q
              refine zw_run 1 (pc' := 258) (loc' := [some (.ref 136), some (.int k), some (.int x2), some (.int x3), some (.int (bI y4)), none]) (stk' := [.int 41, .int (ra Z x2)]) (fun _ _ _ => rfl) ?_
              refine zw_br (c := ¬ (ra Z x2) = 41) (t1 := 265) (t2 := 261) (loc' := [some (.ref 136), some (.int k), some (.int x2), some (.int x3), some (.int (bI y4)), none]) (stk' := []) (fun _ _ _ => rfl) (fun c24 => ?_) (fun c24 => ?_)
              · skip
                refine zw_run 1 (pc' := 266) (loc' := [some (.ref 136), some (.int k), some (.int x2), some (.int x3), some (.int (bI y4)), none]) (stk' := [.int 0]) (fun _ _ _ => rfl) ?_
                exact J26 _ (by clear H J26; first | (simp [bI, c20, c21, c22, c23, c24]; done) | (simp [bI, *]; done) | (simp_all [bI]; done) | (exfalso; simp_all; done))
              · skip
                refine zw_run 2 (pc' := 266) (loc' := [some (.ref 136), some (.int k), some (.int x2), some (.int x3), some (.int (bI y4)), none]) (stk' := [.int 1]) (fun _ _ _ => rfl) ?_
                exact J26 _ (by clear H J26; first | (simp [bI, c20, c21, c22, c23, c24]; done) | (simp [bI, *]; done) | (simp_all [bI]; done) | (exfalso; simp_all; done))
/-- MarkInlinesModel.isTarget, its loop at 15 -/
def g_117_15 : Nat → zr_Z → Int32 → Int32 → Option (Bool × zr_Z)
  | 0, _, _, _ => none
  | n + 1, Z, k, x2 => (if sok Z then (if (ra Z x2) = (-1) then some (((decide ((ra Z x2) = 62))), zmf (zmf (zmf Z 52 (k + 1)) 53 x2) 50 (x2 + 1)) else (if (ra Z x2) = 10 then some (((decide ((ra Z x2) = 62))), zmf (zmf (zmf Z 52 (k + 1)) 53 x2) 50 (x2 + 1)) else (if (ra Z x2) = 60 then some (((decide ((ra Z x2) = 62))), zmf (zmf (zmf Z 52 (k + 1)) 53 x2) 50 (x2 + 1)) else (if (ra Z x2) = 62 then some (((decide ((ra Z x2) = 62))), zmf (zmf (zmf Z 52 (k + 1)) 53 x2) 50 (x2 + 1)) else (olet (x2 + (if (rp Z x2) = true then 2 else 1 : Int32) : Int32) fun x20 => g_117_15 n Z k x20))))) else none)
set_option maxRecDepth 100000 in
set_option maxHeartbeats 4000000 in
theorem l_117_15 {fm : Value} {sx : Nat × (Nat → Int32)} {d : Nat} {Q : Option Value → zr_Z → Prop} (hu : fm = .null ∨ ∃ q, fm = .ref q) (k : Int32) : ∀ (n : Nat) (Z : zr_Z) (x2 : Int32), oq (g_117_15 n Z k x2) (fun x => Q (some (.int (bI x.1))) x.2) → zw fm sx (d + 2) 117 15 [some (.ref 136), some (.int k), some (.int x2), none, none, none] [] Z Q := by
  intro n
  induction n with
  | zero => intro Z x2 H; exact absurd H oq_none
  | succ n ih =>
    intro Z x2 H
    unfold g_117_15 at H
    obtain ⟨hS, H⟩ := oq_ob H
    refine zw_run 2 (pc' := 17) (loc' := [some (.ref 136), some (.int k), some (.int x2), none, none, none]) (stk' := [.int x2, .ref 136]) (fun _ _ _ => rfl) ?_
    refine zw_callf (As := [.ref 136, .int x2]) (rest := []) (c_183 (Z := Z) hS x2 (d := d + 1)) rfl rfl rfl rfl ?_
    show zw fm sx (d + 2) 117 20 [some (.ref 136), some (.int k), some (.int x2), none, none, none] [.int (ra Z x2)] Z Q
    refine zw_run 1 (pc' := 21) (loc' := [some (.ref 136), some (.int k), some (.int x2), none, none, none]) (stk' := [.int (-1), .int (ra Z x2)]) (fun _ _ _ => rfl) ?_
    refine zw_br (c := (ra Z x2) = (-1)) (t1 := 73) (t2 := 24) (loc' := [some (.ref 136), some (.int k), some (.int x2), none, none, none]) (stk' := []) (fun _ _ _ => rfl) (fun c1 => ?_) (fun c1 => ?_)
    · rw [if_pos c1] at H
      refine zw_run 4 (pc' := 77) (loc' := [some (.ref 136), some (.int k), some (.int x2), none, none, none]) (stk' := [.int (k + 1), .ref 136]) (fun _ _ _ => rfl) ?_
      refine zw_mput rfl rfl rfl rfl ?_
      show zw fm sx (d + 2) 117 80 [some (.ref 136), some (.int k), some (.int x2), none, none, none] [] (zmf Z 52 (k + 1)) Q
      refine zw_run 2 (pc' := 82) (loc' := [some (.ref 136), some (.int k), some (.int x2), none, none, none]) (stk' := [.int x2, .ref 136]) (fun _ _ _ => rfl) ?_
      refine zw_mput rfl rfl rfl rfl ?_
      show zw fm sx (d + 2) 117 85 [some (.ref 136), some (.int k), some (.int x2), none, none, none] [] (zmf (zmf Z 52 (k + 1)) 53 x2) Q
      refine zw_run 4 (pc' := 89) (loc' := [some (.ref 136), some (.int k), some (.int x2), none, none, none]) (stk' := [.int (x2 + 1), .ref 136]) (fun _ _ _ => rfl) ?_
      refine zw_mput rfl rfl rfl rfl ?_
      show zw fm sx (d + 2) 117 92 [some (.ref 136), some (.int k), some (.int x2), none, none, none] [] (zmf (zmf (zmf Z 52 (k + 1)) 53 x2) 50 (x2 + 1)) Q
      refine zw_run 2 (pc' := 94) (loc' := [some (.ref 136), some (.int k), some (.int x2), none, none, none]) (stk' := [.int x2, .ref 136]) (fun _ _ _ => rfl) ?_
      refine zw_callf (As := [.ref 136, .int x2]) (rest := []) (c_183 (Z := zmf (zmf (zmf Z 52 (k + 1)) 53 x2) 50 (x2 + 1)) hS x2 (d := d + 1)) rfl rfl rfl rfl ?_
      show zw fm sx (d + 2) 117 97 [some (.ref 136), some (.int k), some (.int x2), none, none, none] [.int (ra Z x2)] (zmf (zmf (zmf Z 52 (k + 1)) 53 x2) 50 (x2 + 1)) Q
      refine zw_run 1 (pc' := 99) (loc' := [some (.ref 136), some (.int k), some (.int x2), none, none, none]) (stk' := [.int 62, .int (ra Z x2)]) (fun _ _ _ => rfl) ?_
      have J4 : ∀ (v3 : Int32), v3 = (bI ((decide ((ra Z x2) = 62)))) → zw fm sx (d + 2) 117 107 [some (.ref 136), some (.int k), some (.int x2), none, none, none] [.int v3] (zmf (zmf (zmf Z 52 (k + 1)) 53 x2) 50 (x2 + 1)) Q := by
        intro v3 ev3
        subst ev3
        refine zw_retz rfl rfl (bI_01 _) ?_
        have H := oq_some H
        exact H
      refine zw_br (c := ¬ (ra Z x2) = 62) (t1 := 106) (t2 := 102) (loc' := [some (.ref 136), some (.int k), some (.int x2), none, none, none]) (stk' := []) (fun _ _ _ => rfl) (fun c2 => ?_) (fun c2 => ?_)
      · skip
        refine zw_run 1 (pc' := 107) (loc' := [some (.ref 136), some (.int k), some (.int x2), none, none, none]) (stk' := [.int 0]) (fun _ _ _ => rfl) ?_
        exact J4 _ (by clear H J4; first | (simp [bI, c2]; done) | (simp [bI, *]; done) | (simp_all [bI]; done) | (exfalso; simp_all; done))
      · skip
        refine zw_run 2 (pc' := 107) (loc' := [some (.ref 136), some (.int k), some (.int x2), none, none, none]) (stk' := [.int 1]) (fun _ _ _ => rfl) ?_
        exact J4 _ (by clear H J4; first | (simp [bI, c2]; done) | (simp [bI, *]; done) | (simp_all [bI]; done) | (exfalso; simp_all; done))
    · rw [if_neg c1] at H
      refine zw_run 2 (pc' := 26) (loc' := [some (.ref 136), some (.int k), some (.int x2), none, none, none]) (stk' := [.int x2, .ref 136]) (fun _ _ _ => rfl) ?_
      refine zw_callf (As := [.ref 136, .int x2]) (rest := []) (c_183 (Z := Z) hS x2 (d := d + 1)) rfl rfl rfl rfl ?_
      show zw fm sx (d + 2) 117 29 [some (.ref 136), some (.int k), some (.int x2), none, none, none] [.int (ra Z x2)] Z Q
      refine zw_run 1 (pc' := 31) (loc' := [some (.ref 136), some (.int k), some (.int x2), none, none, none]) (stk' := [.int 10, .int (ra Z x2)]) (fun _ _ _ => rfl) ?_
      refine zw_br (c := (ra Z x2) = 10) (t1 := 73) (t2 := 34) (loc' := [some (.ref 136), some (.int k), some (.int x2), none, none, none]) (stk' := []) (fun _ _ _ => rfl) (fun c5 => ?_) (fun c5 => ?_)
      · rw [if_pos c5] at H
        refine zw_run 4 (pc' := 77) (loc' := [some (.ref 136), some (.int k), some (.int x2), none, none, none]) (stk' := [.int (k + 1), .ref 136]) (fun _ _ _ => rfl) ?_
        refine zw_mput rfl rfl rfl rfl ?_
        show zw fm sx (d + 2) 117 80 [some (.ref 136), some (.int k), some (.int x2), none, none, none] [] (zmf Z 52 (k + 1)) Q
        refine zw_run 2 (pc' := 82) (loc' := [some (.ref 136), some (.int k), some (.int x2), none, none, none]) (stk' := [.int x2, .ref 136]) (fun _ _ _ => rfl) ?_
        refine zw_mput rfl rfl rfl rfl ?_
        show zw fm sx (d + 2) 117 85 [some (.ref 136), some (.int k), some (.int x2), none, none, none] [] (zmf (zmf Z 52 (k + 1)) 53 x2) Q
        refine zw_run 4 (pc' := 89) (loc' := [some (.ref 136), some (.int k), some (.int x2), none, none, none]) (stk' := [.int (x2 + 1), .ref 136]) (fun _ _ _ => rfl) ?_
        refine zw_mput rfl rfl rfl rfl ?_
        show zw fm sx (d + 2) 117 92 [some (.ref 136), some (.int k), some (.int x2), none, none, none] [] (zmf (zmf (zmf Z 52 (k + 1)) 53 x2) 50 (x2 + 1)) Q
        refine zw_run 2 (pc' := 94) (loc' := [some (.ref 136), some (.int k), some (.int x2), none, none, none]) (stk' := [.int x2, .ref 136]) (fun _ _ _ => rfl) ?_
        refine zw_callf (As := [.ref 136, .int x2]) (rest := []) (c_183 (Z := zmf (zmf (zmf Z 52 (k + 1)) 53 x2) 50 (x2 + 1)) hS x2 (d := d + 1)) rfl rfl rfl rfl ?_
        show zw fm sx (d + 2) 117 97 [some (.ref 136), some (.int k), some (.int x2), none, none, none] [.int (ra Z x2)] (zmf (zmf (zmf Z 52 (k + 1)) 53 x2) 50 (x2 + 1)) Q
        refine zw_run 1 (pc' := 99) (loc' := [some (.ref 136), some (.int k), some (.int x2), none, none, none]) (stk' := [.int 62, .int (ra Z x2)]) (fun _ _ _ => rfl) ?_
        have J8 : ∀ (v7 : Int32), v7 = (bI ((decide ((ra Z x2) = 62)))) → zw fm sx (d + 2) 117 107 [some (.ref 136), some (.int k), some (.int x2), none, none, none] [.int v7] (zmf (zmf (zmf Z 52 (k + 1)) 53 x2) 50 (x2 + 1)) Q := by
          intro v7 ev7
          subst ev7
          refine zw_retz rfl rfl (bI_01 _) ?_
          have H := oq_some H
          exact H
        refine zw_br (c := ¬ (ra Z x2) = 62) (t1 := 106) (t2 := 102) (loc' := [some (.ref 136), some (.int k), some (.int x2), none, none, none]) (stk' := []) (fun _ _ _ => rfl) (fun c6 => ?_) (fun c6 => ?_)
        · skip
          refine zw_run 1 (pc' := 107) (loc' := [some (.ref 136), some (.int k), some (.int x2), none, none, none]) (stk' := [.int 0]) (fun _ _ _ => rfl) ?_
          exact J8 _ (by clear H J8; first | (simp [bI, c6]; done) | (simp [bI, *]; done) | (simp_all [bI]; done) | (exfalso; simp_all; done))
        · skip
          refine zw_run 2 (pc' := 107) (loc' := [some (.ref 136), some (.int k), some (.int x2), none, none, none]) (stk' := [.int 1]) (fun _ _ _ => rfl) ?_
          exact J8 _ (by clear H J8; first | (simp [bI, c6]; done) | (simp [bI, *]; done) | (simp_all [bI]; done) | (exfalso; simp_all; done))
      · rw [if_neg c5] at H
        refine zw_run 2 (pc' := 36) (loc' := [some (.ref 136), some (.int k), some (.int x2), none, none, none]) (stk' := [.int x2, .ref 136]) (fun _ _ _ => rfl) ?_
        refine zw_callf (As := [.ref 136, .int x2]) (rest := []) (c_183 (Z := Z) hS x2 (d := d + 1)) rfl rfl rfl rfl ?_
        show zw fm sx (d + 2) 117 39 [some (.ref 136), some (.int k), some (.int x2), none, none, none] [.int (ra Z x2)] Z Q
        refine zw_run 1 (pc' := 41) (loc' := [some (.ref 136), some (.int k), some (.int x2), none, none, none]) (stk' := [.int 60, .int (ra Z x2)]) (fun _ _ _ => rfl) ?_
        refine zw_br (c := (ra Z x2) = 60) (t1 := 73) (t2 := 44) (loc' := [some (.ref 136), some (.int k), some (.int x2), none, none, none]) (stk' := []) (fun _ _ _ => rfl) (fun c9 => ?_) (fun c9 => ?_)
        · rw [if_pos c9] at H
          refine zw_run 4 (pc' := 77) (loc' := [some (.ref 136), some (.int k), some (.int x2), none, none, none]) (stk' := [.int (k + 1), .ref 136]) (fun _ _ _ => rfl) ?_
          refine zw_mput rfl rfl rfl rfl ?_
          show zw fm sx (d + 2) 117 80 [some (.ref 136), some (.int k), some (.int x2), none, none, none] [] (zmf Z 52 (k + 1)) Q
          refine zw_run 2 (pc' := 82) (loc' := [some (.ref 136), some (.int k), some (.int x2), none, none, none]) (stk' := [.int x2, .ref 136]) (fun _ _ _ => rfl) ?_
          refine zw_mput rfl rfl rfl rfl ?_
          show zw fm sx (d + 2) 117 85 [some (.ref 136), some (.int k), some (.int x2), none, none, none] [] (zmf (zmf Z 52 (k + 1)) 53 x2) Q
          refine zw_run 4 (pc' := 89) (loc' := [some (.ref 136), some (.int k), some (.int x2), none, none, none]) (stk' := [.int (x2 + 1), .ref 136]) (fun _ _ _ => rfl) ?_
          refine zw_mput rfl rfl rfl rfl ?_
          show zw fm sx (d + 2) 117 92 [some (.ref 136), some (.int k), some (.int x2), none, none, none] [] (zmf (zmf (zmf Z 52 (k + 1)) 53 x2) 50 (x2 + 1)) Q
          refine zw_run 2 (pc' := 94) (loc' := [some (.ref 136), some (.int k), some (.int x2), none, none, none]) (stk' := [.int x2, .ref 136]) (fun _ _ _ => rfl) ?_
          refine zw_callf (As := [.ref 136, .int x2]) (rest := []) (c_183 (Z := zmf (zmf (zmf Z 52 (k + 1)) 53 x2) 50 (x2 + 1)) hS x2 (d := d + 1)) rfl rfl rfl rfl ?_
          show zw fm sx (d + 2) 117 97 [some (.ref 136), some (.int k), some (.int x2), none, none, none] [.int (ra Z x2)] (zmf (zmf (zmf Z 52 (k + 1)) 53 x2) 50 (x2 + 1)) Q
          refine zw_run 1 (pc' := 99) (loc' := [some (.ref 136), some (.int k), some (.int x2), none, none, none]) (stk' := [.int 62, .int (ra Z x2)]) (fun _ _ _ => rfl) ?_
          have J12 : ∀ (v11 : Int32), v11 = (bI ((decide ((ra Z x2) = 62)))) → zw fm sx (d + 2) 117 107 [some (.ref 136), some (.int k), some (.int x2), none, none, none] [.int v11] (zmf (zmf (zmf Z 52 (k + 1)) 53 x2) 50 (x2 + 1)) Q := by
            intro v11 ev11
            subst ev11
            refine zw_retz rfl rfl (bI_01 _) ?_
            have H := oq_some H
            exact H
          refine zw_br (c := ¬ (ra Z x2) = 62) (t1 := 106) (t2 := 102) (loc' := [some (.ref 136), some (.int k), some (.int x2), none, none, none]) (stk' := []) (fun _ _ _ => rfl) (fun c10 => ?_) (fun c10 => ?_)
          · skip
            refine zw_run 1 (pc' := 107) (loc' := [some (.ref 136), some (.int k), some (.int x2), none, none, none]) (stk' := [.int 0]) (fun _ _ _ => rfl) ?_
            exact J12 _ (by clear H J12; first | (simp [bI, c10]; done) | (simp [bI, *]; done) | (simp_all [bI]; done) | (exfalso; simp_all; done))
          · skip
            refine zw_run 2 (pc' := 107) (loc' := [some (.ref 136), some (.int k), some (.int x2), none, none, none]) (stk' := [.int 1]) (fun _ _ _ => rfl) ?_
            exact J12 _ (by clear H J12; first | (simp [bI, c10]; done) | (simp [bI, *]; done) | (simp_all [bI]; done) | (exfalso; simp_all; done))
        · rw [if_neg c9] at H
          refine zw_run 2 (pc' := 46) (loc' := [some (.ref 136), some (.int k), some (.int x2), none, none, none]) (stk' := [.int x2, .ref 136]) (fun _ _ _ => rfl) ?_
          refine zw_callf (As := [.ref 136, .int x2]) (rest := []) (c_183 (Z := Z) hS x2 (d := d + 1)) rfl rfl rfl rfl ?_
          show zw fm sx (d + 2) 117 49 [some (.ref 136), some (.int k), some (.int x2), none, none, none] [.int (ra Z x2)] Z Q
          refine zw_run 1 (pc' := 51) (loc' := [some (.ref 136), some (.int k), some (.int x2), none, none, none]) (stk' := [.int 62, .int (ra Z x2)]) (fun _ _ _ => rfl) ?_
          refine zw_br (c := (ra Z x2) = 62) (t1 := 73) (t2 := 54) (loc' := [some (.ref 136), some (.int k), some (.int x2), none, none, none]) (stk' := []) (fun _ _ _ => rfl) (fun c13 => ?_) (fun c13 => ?_)
          · rw [if_pos c13] at H
            refine zw_run 4 (pc' := 77) (loc' := [some (.ref 136), some (.int k), some (.int x2), none, none, none]) (stk' := [.int (k + 1), .ref 136]) (fun _ _ _ => rfl) ?_
            refine zw_mput rfl rfl rfl rfl ?_
            show zw fm sx (d + 2) 117 80 [some (.ref 136), some (.int k), some (.int x2), none, none, none] [] (zmf Z 52 (k + 1)) Q
            refine zw_run 2 (pc' := 82) (loc' := [some (.ref 136), some (.int k), some (.int x2), none, none, none]) (stk' := [.int x2, .ref 136]) (fun _ _ _ => rfl) ?_
            refine zw_mput rfl rfl rfl rfl ?_
            show zw fm sx (d + 2) 117 85 [some (.ref 136), some (.int k), some (.int x2), none, none, none] [] (zmf (zmf Z 52 (k + 1)) 53 x2) Q
            refine zw_run 4 (pc' := 89) (loc' := [some (.ref 136), some (.int k), some (.int x2), none, none, none]) (stk' := [.int (x2 + 1), .ref 136]) (fun _ _ _ => rfl) ?_
            refine zw_mput rfl rfl rfl rfl ?_
            show zw fm sx (d + 2) 117 92 [some (.ref 136), some (.int k), some (.int x2), none, none, none] [] (zmf (zmf (zmf Z 52 (k + 1)) 53 x2) 50 (x2 + 1)) Q
            refine zw_run 2 (pc' := 94) (loc' := [some (.ref 136), some (.int k), some (.int x2), none, none, none]) (stk' := [.int x2, .ref 136]) (fun _ _ _ => rfl) ?_
            refine zw_callf (As := [.ref 136, .int x2]) (rest := []) (c_183 (Z := zmf (zmf (zmf Z 52 (k + 1)) 53 x2) 50 (x2 + 1)) hS x2 (d := d + 1)) rfl rfl rfl rfl ?_
            show zw fm sx (d + 2) 117 97 [some (.ref 136), some (.int k), some (.int x2), none, none, none] [.int (ra Z x2)] (zmf (zmf (zmf Z 52 (k + 1)) 53 x2) 50 (x2 + 1)) Q
            refine zw_run 1 (pc' := 99) (loc' := [some (.ref 136), some (.int k), some (.int x2), none, none, none]) (stk' := [.int 62, .int (ra Z x2)]) (fun _ _ _ => rfl) ?_
            have J16 : ∀ (v15 : Int32), v15 = (bI ((decide ((ra Z x2) = 62)))) → zw fm sx (d + 2) 117 107 [some (.ref 136), some (.int k), some (.int x2), none, none, none] [.int v15] (zmf (zmf (zmf Z 52 (k + 1)) 53 x2) 50 (x2 + 1)) Q := by
              intro v15 ev15
              subst ev15
              refine zw_retz rfl rfl (bI_01 _) ?_
              have H := oq_some H
              exact H
            refine zw_br (c := ¬ (ra Z x2) = 62) (t1 := 106) (t2 := 102) (loc' := [some (.ref 136), some (.int k), some (.int x2), none, none, none]) (stk' := []) (fun _ _ _ => rfl) (fun c14 => ?_) (fun c14 => ?_)
            · skip
              refine zw_run 1 (pc' := 107) (loc' := [some (.ref 136), some (.int k), some (.int x2), none, none, none]) (stk' := [.int 0]) (fun _ _ _ => rfl) ?_
              exact J16 _ (by clear H J16; first | (simp [bI, c14]; done) | (simp [bI, *]; done) | (simp_all [bI]; done) | (exfalso; simp_all; done))
            · skip
              refine zw_run 2 (pc' := 107) (loc' := [some (.ref 136), some (.int k), some (.int x2), none, none, none]) (stk' := [.int 1]) (fun _ _ _ => rfl) ?_
              exact J16 _ (by clear H J16; first | (simp [bI, c14]; done) | (simp [bI, *]; done) | (simp_all [bI]; done) | (exfalso; simp_all; done))
          · rw [if_neg c13] at H
            refine zw_run 3 (pc' := 57) (loc' := [some (.ref 136), some (.int k), some (.int x2), none, none, none]) (stk' := [.int x2, .ref 136, .int x2]) (fun _ _ _ => rfl) ?_
            refine zw_callf (As := [.ref 136, .int x2]) (rest := [.int x2]) (c_111 (Z := Z) hS x2 (d := d + 0)) rfl rfl rfl rfl ?_
            show zw fm sx (d + 2) 117 60 [some (.ref 136), some (.int k), some (.int x2), none, none, none] [.int (bI (rp Z x2)), .int x2] Z Q
            have J19 : ∀ (v18 : Int32), v18 = (if (rp Z x2) = true then 2 else 1 : Int32) → zw fm sx (d + 2) 117 68 [some (.ref 136), some (.int k), some (.int x2), none, none, none] [.int v18, .int x2] Z Q := by
              intro v18 ev18
              subst ev18
              refine zw_run 2 (pc' := 70) (loc' := [some (.ref 136), some (.int k), some (.int (x2 + (if (rp Z x2) = true then 2 else 1 : Int32))), none, none, none]) (stk' := []) (fun _ _ _ => rfl) ?_
              obtain ⟨x20, hx20⟩ : ∃ w : Int32, w = x2 + (if (rp Z x2) = true then 2 else 1 : Int32) := ⟨_, rfl⟩
              rw [← hx20]
              have H := oq_let H x20 hx20
              refine zw_run 1 (pc' := 15) (loc' := [some (.ref 136), some (.int k), some (.int x20), none, none, none]) (stk' := []) (fun _ _ _ => rfl) ?_
              exact ih Z x20 H
            refine zw_b0 (b := (rp Z x2)) (t1 := 63) (t2 := 67) (loc' := [some (.ref 136), some (.int k), some (.int x2), none, none, none]) (stk' := [.int x2]) (fun _ _ _ => rfl) (fun c17 => ?_) (fun c17 => ?_)
            · skip
              refine zw_run 2 (pc' := 68) (loc' := [some (.ref 136), some (.int k), some (.int x2), none, none, none]) (stk' := [.int 2, .int x2]) (fun _ _ _ => rfl) ?_
              exact J19 _ (by first | (rw [if_pos c17]; done) | (rw [if_pos c17]; rfl) | (clear H J19; simp_all [bI]; done))
            · skip
              refine zw_run 1 (pc' := 68) (loc' := [some (.ref 136), some (.int k), some (.int x2), none, none, none]) (stk' := [.int 1, .int x2]) (fun _ _ _ => rfl) ?_
              exact J19 _ (by first | (rw [if_neg c17]; done) | (rw [if_neg c17]; rfl) | (clear H J19; simp_all [bI]; done))
/-- MarkInlinesModel.isTarget -/
def o_117 (Z : zr_Z) (k : Int32) : Option (Bool × zr_Z) := (if sok Z then (if ¬ (ra Z k) = 60 then g_117_113 oF Z k k 0 true else g_117_15 oF Z k (k + 1)) else none)
set_option maxRecDepth 100000 in
set_option maxHeartbeats 4000000 in
theorem t_117 {fm : Value} {sx : Nat × (Nat → Int32)} {d : Nat} {Z : zr_Z} {Q : Option Value → zr_Z → Prop} (hu : fm = .null ∨ ∃ q, fm = .ref q) (k : Int32) (H : oq (o_117 Z k) (fun x => Q (some (.int (bI x.1))) x.2)) : zw fm sx (d + 2) 117 0 [some (.ref 136), some (.int k), none, none, none, none] [] Z Q := by
  unfold o_117 at H
  obtain ⟨hS, H⟩ := oq_ob H
  refine zw_run 4 (pc' := 4) (loc' := [some (.ref 136), some (.int k), some (.int k), none, none, none]) (stk' := [.int k, .ref 136]) (fun _ _ _ => rfl) ?_
  refine zw_callf (As := [.ref 136, .int k]) (rest := []) (c_183 (Z := Z) hS k (d := d + 1)) rfl rfl rfl rfl ?_
  show zw fm sx (d + 2) 117 7 [some (.ref 136), some (.int k), some (.int k), none, none, none] [.int (ra Z k)] Z Q
  refine zw_run 1 (pc' := 9) (loc' := [some (.ref 136), some (.int k), some (.int k), none, none, none]) (stk' := [.int 60, .int (ra Z k)]) (fun _ _ _ => rfl) ?_
  refine zw_br (c := ¬ (ra Z k) = 60) (t1 := 108) (t2 := 12) (loc' := [some (.ref 136), some (.int k), some (.int k), none, none, none]) (stk' := []) (fun _ _ _ => rfl) (fun c1 => ?_) (fun c1 => ?_)
  · rw [if_pos c1] at H
    refine zw_run 4 (pc' := 113) (loc' := [some (.ref 136), some (.int k), some (.int k), some (.int 0), some (.int 1), none]) (stk' := []) (fun _ _ _ => rfl) ?_
    exact l_117_113 hu k _ Z k 0 true H
  · rw [if_neg c1] at H
    refine zw_run 1 (pc' := 15) (loc' := [some (.ref 136), some (.int k), some (.int (k + 1)), none, none, none]) (stk' := []) (fun _ _ _ => rfl) ?_
    exact l_117_15 hu k _ Z (k + 1) H
theorem c_117 {fm : Value} {sx : Nat × (Nat → Int32)} {d : Nat} {Z : zr_Z} (hu : fm = .null ∨ ∃ q, fm = .ref q) (k : Int32) {x : Bool × zr_Z} (hx : o_117 Z k = some x) : zl fm sx (d + 3) 117 [.ref 136, .int k] Z (fun r Z' => r = some (.int (bI x.1)) ∧ Z' = x.2) :=
  zl_of (nL := 6) (loc0 := [some (.ref 136), some (.int k), none, none, none, none]) rfl rfl rfl (t_117 hu k ⟨x, hx, rfl, rfl⟩)
/-- MarkInlinesModel.isTitle, its loop at 44 -/
def g_118_44 : Nat → zr_Z → Int32 → Int32 → Int32 → Int32 → Option (Bool × zr_Z)
  | 0, _, _, _, _, _ => none
  | n + 1, Z, k, x2, x3, x4 => (if sok Z then (if (ra Z x4) = (-1) then some (((decide ((ra Z x4) = x3))), zmf (zmf (zmf Z 54 (k + 1)) 55 x4) 50 (x4 + 1)) else (if (ra Z x4) = x3 then some (((decide ((ra Z x4) = x3))), zmf (zmf (zmf Z 54 (k + 1)) 55 x4) 50 (x4 + 1)) else (if (ra Z x4) = x2 then some (((decide ((ra Z x4) = x3))), zmf (zmf (zmf Z 54 (k + 1)) 55 x4) 50 (x4 + 1)) else (olet (x4 + (if (rp Z x4) = true then 2 else 1 : Int32) : Int32) fun x16 => g_118_44 n Z k x2 x3 x16)))) else none)
set_option maxRecDepth 100000 in
set_option maxHeartbeats 4000000 in
theorem l_118_44 {fm : Value} {sx : Nat × (Nat → Int32)} {d : Nat} {Q : Option Value → zr_Z → Prop} (hu : fm = .null ∨ ∃ q, fm = .ref q) (k : Int32) : ∀ (n : Nat) (Z : zr_Z) (x2 : Int32) (x3 : Int32) (x4 : Int32), oq (g_118_44 n Z k x2 x3 x4) (fun x => Q (some (.int (bI x.1))) x.2) → zw fm sx (d + 2) 118 44 [some (.ref 136), some (.int k), some (.int x2), some (.int x3), some (.int x4)] [] Z Q := by
  intro n
  induction n with
  | zero => intro Z x2 x3 x4 H; exact absurd H oq_none
  | succ n ih =>
    intro Z x2 x3 x4 H
    unfold g_118_44 at H
    obtain ⟨hS, H⟩ := oq_ob H
    refine zw_run 2 (pc' := 47) (loc' := [some (.ref 136), some (.int k), some (.int x2), some (.int x3), some (.int x4)]) (stk' := [.int x4, .ref 136]) (fun _ _ _ => rfl) ?_
    refine zw_callf (As := [.ref 136, .int x4]) (rest := []) (c_183 (Z := Z) hS x4 (d := d + 1)) rfl rfl rfl rfl ?_
    show zw fm sx (d + 2) 118 50 [some (.ref 136), some (.int k), some (.int x2), some (.int x3), some (.int x4)] [.int (ra Z x4)] Z Q
    refine zw_run 1 (pc' := 51) (loc' := [some (.ref 136), some (.int k), some (.int x2), some (.int x3), some (.int x4)]) (stk' := [.int (-1), .int (ra Z x4)]) (fun _ _ _ => rfl) ?_
    refine zw_br (c := (ra Z x4) = (-1)) (t1 := 96) (t2 := 54) (loc' := [some (.ref 136), some (.int k), some (.int x2), some (.int x3), some (.int x4)]) (stk' := []) (fun _ _ _ => rfl) (fun c1 => ?_) (fun c1 => ?_)
    · rw [if_pos c1] at H
      refine zw_run 4 (pc' := 100) (loc' := [some (.ref 136), some (.int k), some (.int x2), some (.int x3), some (.int x4)]) (stk' := [.int (k + 1), .ref 136]) (fun _ _ _ => rfl) ?_
      refine zw_mput rfl rfl rfl rfl ?_
      show zw fm sx (d + 2) 118 103 [some (.ref 136), some (.int k), some (.int x2), some (.int x3), some (.int x4)] [] (zmf Z 54 (k + 1)) Q
      refine zw_run 2 (pc' := 106) (loc' := [some (.ref 136), some (.int k), some (.int x2), some (.int x3), some (.int x4)]) (stk' := [.int x4, .ref 136]) (fun _ _ _ => rfl) ?_
      refine zw_mput rfl rfl rfl rfl ?_
      show zw fm sx (d + 2) 118 109 [some (.ref 136), some (.int k), some (.int x2), some (.int x3), some (.int x4)] [] (zmf (zmf Z 54 (k + 1)) 55 x4) Q
      refine zw_run 4 (pc' := 114) (loc' := [some (.ref 136), some (.int k), some (.int x2), some (.int x3), some (.int x4)]) (stk' := [.int (x4 + 1), .ref 136]) (fun _ _ _ => rfl) ?_
      refine zw_mput rfl rfl rfl rfl ?_
      show zw fm sx (d + 2) 118 117 [some (.ref 136), some (.int k), some (.int x2), some (.int x3), some (.int x4)] [] (zmf (zmf (zmf Z 54 (k + 1)) 55 x4) 50 (x4 + 1)) Q
      refine zw_run 2 (pc' := 120) (loc' := [some (.ref 136), some (.int k), some (.int x2), some (.int x3), some (.int x4)]) (stk' := [.int x4, .ref 136]) (fun _ _ _ => rfl) ?_
      refine zw_callf (As := [.ref 136, .int x4]) (rest := []) (c_183 (Z := zmf (zmf (zmf Z 54 (k + 1)) 55 x4) 50 (x4 + 1)) hS x4 (d := d + 1)) rfl rfl rfl rfl ?_
      show zw fm sx (d + 2) 118 123 [some (.ref 136), some (.int k), some (.int x2), some (.int x3), some (.int x4)] [.int (ra Z x4)] (zmf (zmf (zmf Z 54 (k + 1)) 55 x4) 50 (x4 + 1)) Q
      refine zw_run 1 (pc' := 124) (loc' := [some (.ref 136), some (.int k), some (.int x2), some (.int x3), some (.int x4)]) (stk' := [.int x3, .int (ra Z x4)]) (fun _ _ _ => rfl) ?_
      have J4 : ∀ (v3 : Int32), v3 = (bI ((decide ((ra Z x4) = x3)))) → zw fm sx (d + 2) 118 132 [some (.ref 136), some (.int k), some (.int x2), some (.int x3), some (.int x4)] [.int v3] (zmf (zmf (zmf Z 54 (k + 1)) 55 x4) 50 (x4 + 1)) Q := by
        intro v3 ev3
        subst ev3
        refine zw_retz rfl rfl (bI_01 _) ?_
        have H := oq_some H
        exact H
      refine zw_br (c := ¬ (ra Z x4) = x3) (t1 := 131) (t2 := 127) (loc' := [some (.ref 136), some (.int k), some (.int x2), some (.int x3), some (.int x4)]) (stk' := []) (fun _ _ _ => rfl) (fun c2 => ?_) (fun c2 => ?_)
      · skip
        refine zw_run 1 (pc' := 132) (loc' := [some (.ref 136), some (.int k), some (.int x2), some (.int x3), some (.int x4)]) (stk' := [.int 0]) (fun _ _ _ => rfl) ?_
        exact J4 _ (by clear H J4; first | (simp [bI, c2]; done) | (simp [bI, *]; done) | (simp_all [bI]; done) | (exfalso; simp_all; done))
      · skip
        refine zw_run 2 (pc' := 132) (loc' := [some (.ref 136), some (.int k), some (.int x2), some (.int x3), some (.int x4)]) (stk' := [.int 1]) (fun _ _ _ => rfl) ?_
        exact J4 _ (by clear H J4; first | (simp [bI, c2]; done) | (simp [bI, *]; done) | (simp_all [bI]; done) | (exfalso; simp_all; done))
    · rw [if_neg c1] at H
      refine zw_run 2 (pc' := 57) (loc' := [some (.ref 136), some (.int k), some (.int x2), some (.int x3), some (.int x4)]) (stk' := [.int x4, .ref 136]) (fun _ _ _ => rfl) ?_
      refine zw_callf (As := [.ref 136, .int x4]) (rest := []) (c_183 (Z := Z) hS x4 (d := d + 1)) rfl rfl rfl rfl ?_
      show zw fm sx (d + 2) 118 60 [some (.ref 136), some (.int k), some (.int x2), some (.int x3), some (.int x4)] [.int (ra Z x4)] Z Q
      refine zw_run 1 (pc' := 61) (loc' := [some (.ref 136), some (.int k), some (.int x2), some (.int x3), some (.int x4)]) (stk' := [.int x3, .int (ra Z x4)]) (fun _ _ _ => rfl) ?_
      refine zw_br (c := (ra Z x4) = x3) (t1 := 96) (t2 := 64) (loc' := [some (.ref 136), some (.int k), some (.int x2), some (.int x3), some (.int x4)]) (stk' := []) (fun _ _ _ => rfl) (fun c5 => ?_) (fun c5 => ?_)
      · rw [if_pos c5] at H
        refine zw_run 4 (pc' := 100) (loc' := [some (.ref 136), some (.int k), some (.int x2), some (.int x3), some (.int x4)]) (stk' := [.int (k + 1), .ref 136]) (fun _ _ _ => rfl) ?_
        refine zw_mput rfl rfl rfl rfl ?_
        show zw fm sx (d + 2) 118 103 [some (.ref 136), some (.int k), some (.int x2), some (.int x3), some (.int x4)] [] (zmf Z 54 (k + 1)) Q
        refine zw_run 2 (pc' := 106) (loc' := [some (.ref 136), some (.int k), some (.int x2), some (.int x3), some (.int x4)]) (stk' := [.int x4, .ref 136]) (fun _ _ _ => rfl) ?_
        refine zw_mput rfl rfl rfl rfl ?_
        show zw fm sx (d + 2) 118 109 [some (.ref 136), some (.int k), some (.int x2), some (.int x3), some (.int x4)] [] (zmf (zmf Z 54 (k + 1)) 55 x4) Q
        refine zw_run 4 (pc' := 114) (loc' := [some (.ref 136), some (.int k), some (.int x2), some (.int x3), some (.int x4)]) (stk' := [.int (x4 + 1), .ref 136]) (fun _ _ _ => rfl) ?_
        refine zw_mput rfl rfl rfl rfl ?_
        show zw fm sx (d + 2) 118 117 [some (.ref 136), some (.int k), some (.int x2), some (.int x3), some (.int x4)] [] (zmf (zmf (zmf Z 54 (k + 1)) 55 x4) 50 (x4 + 1)) Q
        refine zw_run 2 (pc' := 120) (loc' := [some (.ref 136), some (.int k), some (.int x2), some (.int x3), some (.int x4)]) (stk' := [.int x4, .ref 136]) (fun _ _ _ => rfl) ?_
        refine zw_callf (As := [.ref 136, .int x4]) (rest := []) (c_183 (Z := zmf (zmf (zmf Z 54 (k + 1)) 55 x4) 50 (x4 + 1)) hS x4 (d := d + 1)) rfl rfl rfl rfl ?_
        show zw fm sx (d + 2) 118 123 [some (.ref 136), some (.int k), some (.int x2), some (.int x3), some (.int x4)] [.int (ra Z x4)] (zmf (zmf (zmf Z 54 (k + 1)) 55 x4) 50 (x4 + 1)) Q
        refine zw_run 1 (pc' := 124) (loc' := [some (.ref 136), some (.int k), some (.int x2), some (.int x3), some (.int x4)]) (stk' := [.int x3, .int (ra Z x4)]) (fun _ _ _ => rfl) ?_
        have J8 : ∀ (v7 : Int32), v7 = (bI ((decide ((ra Z x4) = x3)))) → zw fm sx (d + 2) 118 132 [some (.ref 136), some (.int k), some (.int x2), some (.int x3), some (.int x4)] [.int v7] (zmf (zmf (zmf Z 54 (k + 1)) 55 x4) 50 (x4 + 1)) Q := by
          intro v7 ev7
          subst ev7
          refine zw_retz rfl rfl (bI_01 _) ?_
          have H := oq_some H
          exact H
        refine zw_br (c := ¬ (ra Z x4) = x3) (t1 := 131) (t2 := 127) (loc' := [some (.ref 136), some (.int k), some (.int x2), some (.int x3), some (.int x4)]) (stk' := []) (fun _ _ _ => rfl) (fun c6 => ?_) (fun c6 => ?_)
        · skip
          refine zw_run 1 (pc' := 132) (loc' := [some (.ref 136), some (.int k), some (.int x2), some (.int x3), some (.int x4)]) (stk' := [.int 0]) (fun _ _ _ => rfl) ?_
          exact J8 _ (by clear H J8; first | (simp [bI, c6]; done) | (simp [bI, *]; done) | (simp_all [bI]; done) | (exfalso; simp_all; done))
        · skip
          refine zw_run 2 (pc' := 132) (loc' := [some (.ref 136), some (.int k), some (.int x2), some (.int x3), some (.int x4)]) (stk' := [.int 1]) (fun _ _ _ => rfl) ?_
          exact J8 _ (by clear H J8; first | (simp [bI, c6]; done) | (simp [bI, *]; done) | (simp_all [bI]; done) | (exfalso; simp_all; done))
      · rw [if_neg c5] at H
        refine zw_run 2 (pc' := 67) (loc' := [some (.ref 136), some (.int k), some (.int x2), some (.int x3), some (.int x4)]) (stk' := [.int x4, .ref 136]) (fun _ _ _ => rfl) ?_
        refine zw_callf (As := [.ref 136, .int x4]) (rest := []) (c_183 (Z := Z) hS x4 (d := d + 1)) rfl rfl rfl rfl ?_
        show zw fm sx (d + 2) 118 70 [some (.ref 136), some (.int k), some (.int x2), some (.int x3), some (.int x4)] [.int (ra Z x4)] Z Q
        refine zw_run 1 (pc' := 71) (loc' := [some (.ref 136), some (.int k), some (.int x2), some (.int x3), some (.int x4)]) (stk' := [.int x2, .int (ra Z x4)]) (fun _ _ _ => rfl) ?_
        refine zw_br (c := (ra Z x4) = x2) (t1 := 96) (t2 := 74) (loc' := [some (.ref 136), some (.int k), some (.int x2), some (.int x3), some (.int x4)]) (stk' := []) (fun _ _ _ => rfl) (fun c9 => ?_) (fun c9 => ?_)
        · rw [if_pos c9] at H
          refine zw_run 4 (pc' := 100) (loc' := [some (.ref 136), some (.int k), some (.int x2), some (.int x3), some (.int x4)]) (stk' := [.int (k + 1), .ref 136]) (fun _ _ _ => rfl) ?_
          refine zw_mput rfl rfl rfl rfl ?_
          show zw fm sx (d + 2) 118 103 [some (.ref 136), some (.int k), some (.int x2), some (.int x3), some (.int x4)] [] (zmf Z 54 (k + 1)) Q
          refine zw_run 2 (pc' := 106) (loc' := [some (.ref 136), some (.int k), some (.int x2), some (.int x3), some (.int x4)]) (stk' := [.int x4, .ref 136]) (fun _ _ _ => rfl) ?_
          refine zw_mput rfl rfl rfl rfl ?_
          show zw fm sx (d + 2) 118 109 [some (.ref 136), some (.int k), some (.int x2), some (.int x3), some (.int x4)] [] (zmf (zmf Z 54 (k + 1)) 55 x4) Q
          refine zw_run 4 (pc' := 114) (loc' := [some (.ref 136), some (.int k), some (.int x2), some (.int x3), some (.int x4)]) (stk' := [.int (x4 + 1), .ref 136]) (fun _ _ _ => rfl) ?_
          refine zw_mput rfl rfl rfl rfl ?_
          show zw fm sx (d + 2) 118 117 [some (.ref 136), some (.int k), some (.int x2), some (.int x3), some (.int x4)] [] (zmf (zmf (zmf Z 54 (k + 1)) 55 x4) 50 (x4 + 1)) Q
          refine zw_run 2 (pc' := 120) (loc' := [some (.ref 136), some (.int k), some (.int x2), some (.int x3), some (.int x4)]) (stk' := [.int x4, .ref 136]) (fun _ _ _ => rfl) ?_
          refine zw_callf (As := [.ref 136, .int x4]) (rest := []) (c_183 (Z := zmf (zmf (zmf Z 54 (k + 1)) 55 x4) 50 (x4 + 1)) hS x4 (d := d + 1)) rfl rfl rfl rfl ?_
          show zw fm sx (d + 2) 118 123 [some (.ref 136), some (.int k), some (.int x2), some (.int x3), some (.int x4)] [.int (ra Z x4)] (zmf (zmf (zmf Z 54 (k + 1)) 55 x4) 50 (x4 + 1)) Q
          refine zw_run 1 (pc' := 124) (loc' := [some (.ref 136), some (.int k), some (.int x2), some (.int x3), some (.int x4)]) (stk' := [.int x3, .int (ra Z x4)]) (fun _ _ _ => rfl) ?_
          have J12 : ∀ (v11 : Int32), v11 = (bI ((decide ((ra Z x4) = x3)))) → zw fm sx (d + 2) 118 132 [some (.ref 136), some (.int k), some (.int x2), some (.int x3), some (.int x4)] [.int v11] (zmf (zmf (zmf Z 54 (k + 1)) 55 x4) 50 (x4 + 1)) Q := by
            intro v11 ev11
            subst ev11
            refine zw_retz rfl rfl (bI_01 _) ?_
            have H := oq_some H
            exact H
          refine zw_br (c := ¬ (ra Z x4) = x3) (t1 := 131) (t2 := 127) (loc' := [some (.ref 136), some (.int k), some (.int x2), some (.int x3), some (.int x4)]) (stk' := []) (fun _ _ _ => rfl) (fun c10 => ?_) (fun c10 => ?_)
          · skip
            refine zw_run 1 (pc' := 132) (loc' := [some (.ref 136), some (.int k), some (.int x2), some (.int x3), some (.int x4)]) (stk' := [.int 0]) (fun _ _ _ => rfl) ?_
            exact J12 _ (by clear H J12; first | (simp [bI, c10]; done) | (simp [bI, *]; done) | (simp_all [bI]; done) | (exfalso; simp_all; done))
          · skip
            refine zw_run 2 (pc' := 132) (loc' := [some (.ref 136), some (.int k), some (.int x2), some (.int x3), some (.int x4)]) (stk' := [.int 1]) (fun _ _ _ => rfl) ?_
            exact J12 _ (by clear H J12; first | (simp [bI, c10]; done) | (simp [bI, *]; done) | (simp_all [bI]; done) | (exfalso; simp_all; done))
        · rw [if_neg c9] at H
          refine zw_run 3 (pc' := 79) (loc' := [some (.ref 136), some (.int k), some (.int x2), some (.int x3), some (.int x4)]) (stk' := [.int x4, .ref 136, .int x4]) (fun _ _ _ => rfl) ?_
          refine zw_callf (As := [.ref 136, .int x4]) (rest := [.int x4]) (c_111 (Z := Z) hS x4 (d := d + 0)) rfl rfl rfl rfl ?_
          show zw fm sx (d + 2) 118 82 [some (.ref 136), some (.int k), some (.int x2), some (.int x3), some (.int x4)] [.int (bI (rp Z x4)), .int x4] Z Q
          have J15 : ∀ (v14 : Int32), v14 = (if (rp Z x4) = true then 2 else 1 : Int32) → zw fm sx (d + 2) 118 90 [some (.ref 136), some (.int k), some (.int x2), some (.int x3), some (.int x4)] [.int v14, .int x4] Z Q := by
            intro v14 ev14
            subst ev14
            refine zw_run 2 (pc' := 93) (loc' := [some (.ref 136), some (.int k), some (.int x2), some (.int x3), some (.int (x4 + (if (rp Z x4) = true then 2 else 1 : Int32)))]) (stk' := []) (fun _ _ _ => rfl) ?_
            obtain ⟨x16, hx16⟩ : ∃ w : Int32, w = x4 + (if (rp Z x4) = true then 2 else 1 : Int32) := ⟨_, rfl⟩
            rw [← hx16]
            have H := oq_let H x16 hx16
            refine zw_run 1 (pc' := 44) (loc' := [some (.ref 136), some (.int k), some (.int x2), some (.int x3), some (.int x16)]) (stk' := []) (fun _ _ _ => rfl) ?_
            exact ih Z x2 x3 x16 H
          refine zw_b0 (b := (rp Z x4)) (t1 := 85) (t2 := 89) (loc' := [some (.ref 136), some (.int k), some (.int x2), some (.int x3), some (.int x4)]) (stk' := [.int x4]) (fun _ _ _ => rfl) (fun c13 => ?_) (fun c13 => ?_)
          · skip
            refine zw_run 2 (pc' := 90) (loc' := [some (.ref 136), some (.int k), some (.int x2), some (.int x3), some (.int x4)]) (stk' := [.int 2, .int x4]) (fun _ _ _ => rfl) ?_
            exact J15 _ (by first | (rw [if_pos c13]; done) | (rw [if_pos c13]; rfl) | (clear H J15; simp_all [bI]; done))
          · skip
            refine zw_run 1 (pc' := 90) (loc' := [some (.ref 136), some (.int k), some (.int x2), some (.int x3), some (.int x4)]) (stk' := [.int 1, .int x4]) (fun _ _ _ => rfl) ?_
            exact J15 _ (by first | (rw [if_neg c13]; done) | (rw [if_neg c13]; rfl) | (clear H J15; simp_all [bI]; done))
/-- MarkInlinesModel.isTitle -/
def o_118 (Z : zr_Z) (k : Int32) : Option (Bool × zr_Z) := (if sok Z then (if (ra Z k) = 34 then (olet ((if ¬ (ra Z k) = 40 then (ra Z k) else 41 : Int32) : Int32) fun x5 => g_118_44 oF Z k (ra Z k) x5 (k + 1)) else (if (ra Z k) = 39 then (olet ((if ¬ (ra Z k) = 40 then (ra Z k) else 41 : Int32) : Int32) fun x10 => g_118_44 oF Z k (ra Z k) x10 (k + 1)) else (if (ra Z k) = 40 then (olet ((if ¬ (ra Z k) = 40 then (ra Z k) else 41 : Int32) : Int32) fun x15 => g_118_44 oF Z k (ra Z k) x15 (k + 1)) else some (false, Z)))) else none)
set_option maxRecDepth 100000 in
set_option maxHeartbeats 4000000 in
theorem t_118 {fm : Value} {sx : Nat × (Nat → Int32)} {d : Nat} {Z : zr_Z} {Q : Option Value → zr_Z → Prop} (hu : fm = .null ∨ ∃ q, fm = .ref q) (k : Int32) (H : oq (o_118 Z k) (fun x => Q (some (.int (bI x.1))) x.2)) : zw fm sx (d + 2) 118 0 [some (.ref 136), some (.int k), none, none, none] [] Z Q := by
  unfold o_118 at H
  obtain ⟨hS, H⟩ := oq_ob H
  refine zw_run 2 (pc' := 2) (loc' := [some (.ref 136), some (.int k), none, none, none]) (stk' := [.int k, .ref 136]) (fun _ _ _ => rfl) ?_
  refine zw_callf (As := [.ref 136, .int k]) (rest := []) (c_183 (Z := Z) hS k (d := d + 1)) rfl rfl rfl rfl ?_
  show zw fm sx (d + 2) 118 5 [some (.ref 136), some (.int k), none, none, none] [.int (ra Z k)] Z Q
  refine zw_run 3 (pc' := 9) (loc' := [some (.ref 136), some (.int k), some (.int (ra Z k)), none, none]) (stk' := [.int 34, .int (ra Z k)]) (fun _ _ _ => rfl) ?_
  refine zw_br (c := (ra Z k) = 34) (t1 := 26) (t2 := 12) (loc' := [some (.ref 136), some (.int k), some (.int (ra Z k)), none, none]) (stk' := []) (fun _ _ _ => rfl) (fun c1 => ?_) (fun c1 => ?_)
  · rw [if_pos c1] at H
    refine zw_run 2 (pc' := 29) (loc' := [some (.ref 136), some (.int k), some (.int (ra Z k)), none, none]) (stk' := [.int 40, .int (ra Z k)]) (fun _ _ _ => rfl) ?_
    have J4 : ∀ (v3 : Int32), v3 = (if ¬ (ra Z k) = 40 then (ra Z k) else 41 : Int32) → zw fm sx (d + 2) 118 38 [some (.ref 136), some (.int k), some (.int (ra Z k)), none, none] [.int v3] Z Q := by
      intro v3 ev3
      subst ev3
      refine zw_run 1 (pc' := 39) (loc' := [some (.ref 136), some (.int k), some (.int (ra Z k)), some (.int (if ¬ (ra Z k) = 40 then (ra Z k) else 41 : Int32)), none]) (stk' := []) (fun _ _ _ => rfl) ?_
      obtain ⟨x5, hx5⟩ : ∃ w : Int32, w = (if ¬ (ra Z k) = 40 then (ra Z k) else 41 : Int32) := ⟨_, rfl⟩
      rw [← hx5]
      have H := oq_let H x5 hx5
      refine zw_run 4 (pc' := 44) (loc' := [some (.ref 136), some (.int k), some (.int (ra Z k)), some (.int x5), some (.int (k + 1))]) (stk' := []) (fun _ _ _ => rfl) ?_
      exact l_118_44 hu k _ Z (ra Z k) x5 (k + 1) H
    refine zw_br (c := ¬ (ra Z k) = 40) (t1 := 37) (t2 := 32) (loc' := [some (.ref 136), some (.int k), some (.int (ra Z k)), none, none]) (stk' := []) (fun _ _ _ => rfl) (fun c2 => ?_) (fun c2 => ?_)
    · skip
      refine zw_run 1 (pc' := 38) (loc' := [some (.ref 136), some (.int k), some (.int (ra Z k)), none, none]) (stk' := [.int (ra Z k)]) (fun _ _ _ => rfl) ?_
      exact J4 _ (by first | (rw [if_pos c2]; done) | (rw [if_pos c2]; rfl) | (clear H J4; simp_all [bI]; done))
    · skip
      refine zw_run 2 (pc' := 38) (loc' := [some (.ref 136), some (.int k), some (.int (ra Z k)), none, none]) (stk' := [.int 41]) (fun _ _ _ => rfl) ?_
      exact J4 _ (by first | (rw [if_neg c2]; done) | (rw [if_neg c2]; rfl) | (clear H J4; simp_all [bI]; done))
  · rw [if_neg c1] at H
    refine zw_run 2 (pc' := 15) (loc' := [some (.ref 136), some (.int k), some (.int (ra Z k)), none, none]) (stk' := [.int 39, .int (ra Z k)]) (fun _ _ _ => rfl) ?_
    refine zw_br (c := (ra Z k) = 39) (t1 := 26) (t2 := 18) (loc' := [some (.ref 136), some (.int k), some (.int (ra Z k)), none, none]) (stk' := []) (fun _ _ _ => rfl) (fun c6 => ?_) (fun c6 => ?_)
    · rw [if_pos c6] at H
      refine zw_run 2 (pc' := 29) (loc' := [some (.ref 136), some (.int k), some (.int (ra Z k)), none, none]) (stk' := [.int 40, .int (ra Z k)]) (fun _ _ _ => rfl) ?_
      have J9 : ∀ (v8 : Int32), v8 = (if ¬ (ra Z k) = 40 then (ra Z k) else 41 : Int32) → zw fm sx (d + 2) 118 38 [some (.ref 136), some (.int k), some (.int (ra Z k)), none, none] [.int v8] Z Q := by
        intro v8 ev8
        subst ev8
        refine zw_run 1 (pc' := 39) (loc' := [some (.ref 136), some (.int k), some (.int (ra Z k)), some (.int (if ¬ (ra Z k) = 40 then (ra Z k) else 41 : Int32)), none]) (stk' := []) (fun _ _ _ => rfl) ?_
        obtain ⟨x10, hx10⟩ : ∃ w : Int32, w = (if ¬ (ra Z k) = 40 then (ra Z k) else 41 : Int32) := ⟨_, rfl⟩
        rw [← hx10]
        have H := oq_let H x10 hx10
        refine zw_run 4 (pc' := 44) (loc' := [some (.ref 136), some (.int k), some (.int (ra Z k)), some (.int x10), some (.int (k + 1))]) (stk' := []) (fun _ _ _ => rfl) ?_
        exact l_118_44 hu k _ Z (ra Z k) x10 (k + 1) H
      refine zw_br (c := ¬ (ra Z k) = 40) (t1 := 37) (t2 := 32) (loc' := [some (.ref 136), some (.int k), some (.int (ra Z k)), none, none]) (stk' := []) (fun _ _ _ => rfl) (fun c7 => ?_) (fun c7 => ?_)
      · skip
        refine zw_run 1 (pc' := 38) (loc' := [some (.ref 136), some (.int k), some (.int (ra Z k)), none, none]) (stk' := [.int (ra Z k)]) (fun _ _ _ => rfl) ?_
        exact J9 _ (by first | (rw [if_pos c7]; done) | (rw [if_pos c7]; rfl) | (clear H J9; simp_all [bI]; done))
      · skip
        refine zw_run 2 (pc' := 38) (loc' := [some (.ref 136), some (.int k), some (.int (ra Z k)), none, none]) (stk' := [.int 41]) (fun _ _ _ => rfl) ?_
        exact J9 _ (by first | (rw [if_neg c7]; done) | (rw [if_neg c7]; rfl) | (clear H J9; simp_all [bI]; done))
    · rw [if_neg c6] at H
      refine zw_run 2 (pc' := 21) (loc' := [some (.ref 136), some (.int k), some (.int (ra Z k)), none, none]) (stk' := [.int 40, .int (ra Z k)]) (fun _ _ _ => rfl) ?_
      refine zw_br (c := (ra Z k) = 40) (t1 := 26) (t2 := 24) (loc' := [some (.ref 136), some (.int k), some (.int (ra Z k)), none, none]) (stk' := []) (fun _ _ _ => rfl) (fun c11 => ?_) (fun c11 => ?_)
      · rw [if_pos c11] at H
        refine zw_run 2 (pc' := 29) (loc' := [some (.ref 136), some (.int k), some (.int (ra Z k)), none, none]) (stk' := [.int 40, .int (ra Z k)]) (fun _ _ _ => rfl) ?_
        have J14 : ∀ (v13 : Int32), v13 = (if ¬ (ra Z k) = 40 then (ra Z k) else 41 : Int32) → zw fm sx (d + 2) 118 38 [some (.ref 136), some (.int k), some (.int (ra Z k)), none, none] [.int v13] Z Q := by
          intro v13 ev13
          subst ev13
          refine zw_run 1 (pc' := 39) (loc' := [some (.ref 136), some (.int k), some (.int (ra Z k)), some (.int (if ¬ (ra Z k) = 40 then (ra Z k) else 41 : Int32)), none]) (stk' := []) (fun _ _ _ => rfl) ?_
          obtain ⟨x15, hx15⟩ : ∃ w : Int32, w = (if ¬ (ra Z k) = 40 then (ra Z k) else 41 : Int32) := ⟨_, rfl⟩
          rw [← hx15]
          have H := oq_let H x15 hx15
          refine zw_run 4 (pc' := 44) (loc' := [some (.ref 136), some (.int k), some (.int (ra Z k)), some (.int x15), some (.int (k + 1))]) (stk' := []) (fun _ _ _ => rfl) ?_
          exact l_118_44 hu k _ Z (ra Z k) x15 (k + 1) H
        refine zw_br (c := ¬ (ra Z k) = 40) (t1 := 37) (t2 := 32) (loc' := [some (.ref 136), some (.int k), some (.int (ra Z k)), none, none]) (stk' := []) (fun _ _ _ => rfl) (fun c12 => ?_) (fun c12 => ?_)
        · skip
          refine zw_run 1 (pc' := 38) (loc' := [some (.ref 136), some (.int k), some (.int (ra Z k)), none, none]) (stk' := [.int (ra Z k)]) (fun _ _ _ => rfl) ?_
          exact J14 _ (by first | (rw [if_pos c12]; done) | (rw [if_pos c12]; rfl) | (clear H J14; simp_all [bI]; done))
        · skip
          refine zw_run 2 (pc' := 38) (loc' := [some (.ref 136), some (.int k), some (.int (ra Z k)), none, none]) (stk' := [.int 41]) (fun _ _ _ => rfl) ?_
          exact J14 _ (by first | (rw [if_neg c12]; done) | (rw [if_neg c12]; rfl) | (clear H J14; simp_all [bI]; done))
      · rw [if_neg c11] at H
        refine zw_run 1 (pc' := 25) (loc' := [some (.ref 136), some (.int k), some (.int (ra Z k)), none, none]) (stk' := [.int 0]) (fun _ _ _ => rfl) ?_
        refine zw_retz rfl rfl (Or.inl rfl) ?_
        have H := oq_some H
        exact H
theorem c_118 {fm : Value} {sx : Nat × (Nat → Int32)} {d : Nat} {Z : zr_Z} (hu : fm = .null ∨ ∃ q, fm = .ref q) (k : Int32) {x : Bool × zr_Z} (hx : o_118 Z k = some x) : zl fm sx (d + 3) 118 [.ref 136, .int k] Z (fun r Z' => r = some (.int (bI x.1)) ∧ Z' = x.2) :=
  zl_of (nL := 5) (loc0 := [some (.ref 136), some (.int k), none, none, none]) rfl rfl rfl (t_118 hu k ⟨x, hx, rfl, rfl⟩)
/-- MarkInlinesModel.isRound -/
def o_119 (Z : zr_Z) (k : Int32) : Option (Bool × zr_Z) := (if sok Z then (if (ra Z k) = 40 then (Option.bind (o_114 Z (k + 1)) fun u2 => (Option.bind (o_117 Z u2) fun u3 => (if sok u3.2 then (Option.bind (o_114 u3.2 (if u3.1 = true then (zf u3.2 50) else u2 : Int32)) fun u9 => (if u9 ≤ (if u3.1 = true then (zf u3.2 50) else u2 : Int32) then some (((decide ((ra u3.2 u9) = 41))), zmf (zmf (zmf (zmf u3.2 56 0) 52 (if u3.1 = true then (zf u3.2 52) else u2 : Int32)) 53 (if u3.1 = true then (zf u3.2 53) else u2 : Int32)) 50 (u9 + 1)) else (Option.bind (o_118 u3.2 u9) fun u14 => (if sok u14.2 then (if (u14.1) = true then (Option.bind (o_114 (zmf u14.2 56 (bI (u14.1))) (zf u14.2 50)) fun u19 => some (((decide ((ra u14.2 u19) = 41))), zmf (zmf (zmf (zmf u14.2 56 (bI (u14.1))) 52 (if u3.1 = true then (zf u3.2 52) else u2 : Int32)) 53 (if u3.1 = true then (zf u3.2 53) else u2 : Int32)) 50 (u19 + 1))) else some (((decide ((ra u14.2 u9) = 41))), zmf (zmf (zmf (zmf u14.2 56 (bI (u14.1))) 52 (if u3.1 = true then (zf u3.2 52) else u2 : Int32)) 53 (if u3.1 = true then (zf u3.2 53) else u2 : Int32)) 50 (u9 + 1))) else none)))) else none))) else some (false, Z)) else none)
set_option maxRecDepth 100000 in
set_option maxHeartbeats 4000000 in
theorem t_119 {fm : Value} {sx : Nat × (Nat → Int32)} {d : Nat} {Z : zr_Z} {Q : Option Value → zr_Z → Prop} (hu : fm = .null ∨ ∃ q, fm = .ref q) (k : Int32) (H : oq (o_119 Z k) (fun x => Q (some (.int (bI x.1))) x.2)) : zw fm sx (d + 3) 119 0 [some (.ref 136), some (.int k), none, none, none, none] [] Z Q := by
  unfold o_119 at H
  obtain ⟨hS, H⟩ := oq_ob H
  refine zw_run 2 (pc' := 2) (loc' := [some (.ref 136), some (.int k), none, none, none, none]) (stk' := [.int k, .ref 136]) (fun _ _ _ => rfl) ?_
  refine zw_callf (As := [.ref 136, .int k]) (rest := []) (c_183 (Z := Z) hS k (d := d + 2)) rfl rfl rfl rfl ?_
  show zw fm sx (d + 3) 119 5 [some (.ref 136), some (.int k), none, none, none, none] [.int (ra Z k)] Z Q
  refine zw_run 1 (pc' := 7) (loc' := [some (.ref 136), some (.int k), none, none, none, none]) (stk' := [.int 40, .int (ra Z k)]) (fun _ _ _ => rfl) ?_
  refine zw_br (c := (ra Z k) = 40) (t1 := 12) (t2 := 10) (loc' := [some (.ref 136), some (.int k), none, none, none, none]) (stk' := []) (fun _ _ _ => rfl) (fun c1 => ?_) (fun c1 => ?_)
  · rw [if_pos c1] at H
    refine zw_run 4 (pc' := 16) (loc' := [some (.ref 136), some (.int k), none, none, none, none]) (stk' := [.int (k + 1), .ref 136]) (fun _ _ _ => rfl) ?_
    obtain ⟨u2, hu2, H⟩ := oq_bind H
    refine zw_callf (As := [.ref 136, .int (k + 1)]) (rest := []) (c_114 hu (k + 1) hu2 (d := d + 1)) rfl rfl rfl rfl ?_
    show zw fm sx (d + 3) 119 19 [some (.ref 136), some (.int k), none, none, none, none] [.int u2] Z Q
    refine zw_run 7 (pc' := 27) (loc' := [some (.ref 136), some (.int k), some (.int u2), some (.int u2), some (.int u2), none]) (stk' := [.int u2, .ref 136]) (fun _ _ _ => rfl) ?_
    obtain ⟨u3, hu3, H⟩ := oq_bind H
    refine zw_callf (As := [.ref 136, .int u2]) (rest := []) (c_117 hu u2 hu3 (d := d + 0)) rfl rfl rfl rfl ?_
    show zw fm sx (d + 3) 119 30 [some (.ref 136), some (.int k), some (.int u2), some (.int u2), some (.int u2), none] [.int (bI u3.1)] u3.2 Q
    obtain ⟨hS, H⟩ := oq_ob H
    have J8 : ∀ (v5 : Int32) (v6 : Int32) (v7 : Int32), v5 = (if u3.1 = true then (zf u3.2 50) else u2 : Int32) → v6 = (if u3.1 = true then (zf u3.2 52) else u2 : Int32) → v7 = (if u3.1 = true then (zf u3.2 53) else u2 : Int32) → zw fm sx (d + 3) 119 49 [some (.ref 136), some (.int k), some (.int v5), some (.int v6), some (.int v7), none] [] u3.2 Q := by
      intro v5 v6 v7 ev5 ev6 ev7
      subst ev5 ev6 ev7
      refine zw_run 2 (pc' := 51) (loc' := [some (.ref 136), some (.int k), some (.int (if u3.1 = true then (zf u3.2 50) else u2 : Int32)), some (.int (if u3.1 = true then (zf u3.2 52) else u2 : Int32)), some (.int (if u3.1 = true then (zf u3.2 53) else u2 : Int32)), none]) (stk' := [.int (if u3.1 = true then (zf u3.2 50) else u2 : Int32), .ref 136]) (fun _ _ _ => rfl) ?_
      obtain ⟨u9, hu9, H⟩ := oq_bind H
      refine zw_callf (As := [.ref 136, .int (if u3.1 = true then (zf u3.2 50) else u2 : Int32)]) (rest := []) (c_114 hu (if u3.1 = true then (zf u3.2 50) else u2 : Int32) hu9 (d := d + 1)) rfl rfl rfl rfl ?_
      show zw fm sx (d + 3) 119 54 [some (.ref 136), some (.int k), some (.int (if u3.1 = true then (zf u3.2 50) else u2 : Int32)), some (.int (if u3.1 = true then (zf u3.2 52) else u2 : Int32)), some (.int (if u3.1 = true then (zf u3.2 53) else u2 : Int32)), none] [.int u9] u3.2 Q
      refine zw_run 4 (pc' := 60) (loc' := [some (.ref 136), some (.int k), some (.int (if u3.1 = true then (zf u3.2 50) else u2 : Int32)), some (.int (if u3.1 = true then (zf u3.2 52) else u2 : Int32)), some (.int (if u3.1 = true then (zf u3.2 53) else u2 : Int32)), some (.int u9)]) (stk' := [.int (if u3.1 = true then (zf u3.2 50) else u2 : Int32), .int u9, .ref 136]) (fun _ _ _ => rfl) ?_
      refine zw_br (c := u9 ≤ (if u3.1 = true then (zf u3.2 50) else u2 : Int32)) (t1 := 76) (t2 := 63) (loc' := [some (.ref 136), some (.int k), some (.int (if u3.1 = true then (zf u3.2 50) else u2 : Int32)), some (.int (if u3.1 = true then (zf u3.2 52) else u2 : Int32)), some (.int (if u3.1 = true then (zf u3.2 53) else u2 : Int32)), some (.int u9)]) (stk' := [.ref 136]) (fun _ _ _ => rfl) (fun c10 => ?_) (fun c10 => ?_)
      · rw [if_pos c10] at H
        refine zw_run 1 (pc' := 77) (loc' := [some (.ref 136), some (.int k), some (.int (if u3.1 = true then (zf u3.2 50) else u2 : Int32)), some (.int (if u3.1 = true then (zf u3.2 52) else u2 : Int32)), some (.int (if u3.1 = true then (zf u3.2 53) else u2 : Int32)), some (.int u9)]) (stk' := [.int 0, .ref 136]) (fun _ _ _ => rfl) ?_
        refine zw_mput rfl rfl (by decide) rfl ?_
        show zw fm sx (d + 3) 119 80 [some (.ref 136), some (.int k), some (.int (if u3.1 = true then (zf u3.2 50) else u2 : Int32)), some (.int (if u3.1 = true then (zf u3.2 52) else u2 : Int32)), some (.int (if u3.1 = true then (zf u3.2 53) else u2 : Int32)), some (.int u9)] [] (zmf u3.2 56 0) Q
        refine zw_run 1 (pc' := 81) (loc' := [some (.ref 136), some (.int k), some (.int (if u3.1 = true then (zf u3.2 50) else u2 : Int32)), some (.int (if u3.1 = true then (zf u3.2 52) else u2 : Int32)), some (.int (if u3.1 = true then (zf u3.2 53) else u2 : Int32)), some (.int u9)]) (stk' := [.ref 136]) (fun _ _ _ => rfl) ?_
        refine zw_mget (v := .int 0) rfl rfl ?_
        refine zw_run 5 (pc' := 104) (loc' := [some (.ref 136), some (.int k), some (.int (if u3.1 = true then (zf u3.2 50) else u2 : Int32)), some (.int (if u3.1 = true then (zf u3.2 52) else u2 : Int32)), some (.int (if u3.1 = true then (zf u3.2 53) else u2 : Int32)), some (.int u9)]) (stk' := [.int (if u3.1 = true then (zf u3.2 52) else u2 : Int32), .ref 136]) (fun _ _ _ => rfl) ?_
        refine zw_mput rfl rfl rfl rfl ?_
        show zw fm sx (d + 3) 119 107 [some (.ref 136), some (.int k), some (.int (if u3.1 = true then (zf u3.2 50) else u2 : Int32)), some (.int (if u3.1 = true then (zf u3.2 52) else u2 : Int32)), some (.int (if u3.1 = true then (zf u3.2 53) else u2 : Int32)), some (.int u9)] [] (zmf (zmf u3.2 56 0) 52 (if u3.1 = true then (zf u3.2 52) else u2 : Int32)) Q
        refine zw_run 2 (pc' := 110) (loc' := [some (.ref 136), some (.int k), some (.int (if u3.1 = true then (zf u3.2 50) else u2 : Int32)), some (.int (if u3.1 = true then (zf u3.2 52) else u2 : Int32)), some (.int (if u3.1 = true then (zf u3.2 53) else u2 : Int32)), some (.int u9)]) (stk' := [.int (if u3.1 = true then (zf u3.2 53) else u2 : Int32), .ref 136]) (fun _ _ _ => rfl) ?_
        refine zw_mput rfl rfl rfl rfl ?_
        show zw fm sx (d + 3) 119 113 [some (.ref 136), some (.int k), some (.int (if u3.1 = true then (zf u3.2 50) else u2 : Int32)), some (.int (if u3.1 = true then (zf u3.2 52) else u2 : Int32)), some (.int (if u3.1 = true then (zf u3.2 53) else u2 : Int32)), some (.int u9)] [] (zmf (zmf (zmf u3.2 56 0) 52 (if u3.1 = true then (zf u3.2 52) else u2 : Int32)) 53 (if u3.1 = true then (zf u3.2 53) else u2 : Int32)) Q
        refine zw_run 4 (pc' := 118) (loc' := [some (.ref 136), some (.int k), some (.int (if u3.1 = true then (zf u3.2 50) else u2 : Int32)), some (.int (if u3.1 = true then (zf u3.2 52) else u2 : Int32)), some (.int (if u3.1 = true then (zf u3.2 53) else u2 : Int32)), some (.int u9)]) (stk' := [.int (u9 + 1), .ref 136]) (fun _ _ _ => rfl) ?_
        refine zw_mput rfl rfl rfl rfl ?_
        show zw fm sx (d + 3) 119 121 [some (.ref 136), some (.int k), some (.int (if u3.1 = true then (zf u3.2 50) else u2 : Int32)), some (.int (if u3.1 = true then (zf u3.2 52) else u2 : Int32)), some (.int (if u3.1 = true then (zf u3.2 53) else u2 : Int32)), some (.int u9)] [] (zmf (zmf (zmf (zmf u3.2 56 0) 52 (if u3.1 = true then (zf u3.2 52) else u2 : Int32)) 53 (if u3.1 = true then (zf u3.2 53) else u2 : Int32)) 50 (u9 + 1)) Q
        refine zw_run 2 (pc' := 124) (loc' := [some (.ref 136), some (.int k), some (.int (if u3.1 = true then (zf u3.2 50) else u2 : Int32)), some (.int (if u3.1 = true then (zf u3.2 52) else u2 : Int32)), some (.int (if u3.1 = true then (zf u3.2 53) else u2 : Int32)), some (.int u9)]) (stk' := [.int u9, .ref 136]) (fun _ _ _ => rfl) ?_
        refine zw_callf (As := [.ref 136, .int u9]) (rest := []) (c_183 (Z := zmf (zmf (zmf (zmf u3.2 56 0) 52 (if u3.1 = true then (zf u3.2 52) else u2 : Int32)) 53 (if u3.1 = true then (zf u3.2 53) else u2 : Int32)) 50 (u9 + 1)) hS u9 (d := d + 2)) rfl rfl rfl rfl ?_
        show zw fm sx (d + 3) 119 127 [some (.ref 136), some (.int k), some (.int (if u3.1 = true then (zf u3.2 50) else u2 : Int32)), some (.int (if u3.1 = true then (zf u3.2 52) else u2 : Int32)), some (.int (if u3.1 = true then (zf u3.2 53) else u2 : Int32)), some (.int u9)] [.int (ra u3.2 u9)] (zmf (zmf (zmf (zmf u3.2 56 0) 52 (if u3.1 = true then (zf u3.2 52) else u2 : Int32)) 53 (if u3.1 = true then (zf u3.2 53) else u2 : Int32)) 50 (u9 + 1)) Q
        refine zw_run 1 (pc' := 129) (loc' := [some (.ref 136), some (.int k), some (.int (if u3.1 = true then (zf u3.2 50) else u2 : Int32)), some (.int (if u3.1 = true then (zf u3.2 52) else u2 : Int32)), some (.int (if u3.1 = true then (zf u3.2 53) else u2 : Int32)), some (.int u9)]) (stk' := [.int 41, .int (ra u3.2 u9)]) (fun _ _ _ => rfl) ?_
        have J13 : ∀ (v12 : Int32), v12 = (bI ((decide ((ra u3.2 u9) = 41)))) → zw fm sx (d + 3) 119 137 [some (.ref 136), some (.int k), some (.int (if u3.1 = true then (zf u3.2 50) else u2 : Int32)), some (.int (if u3.1 = true then (zf u3.2 52) else u2 : Int32)), some (.int (if u3.1 = true then (zf u3.2 53) else u2 : Int32)), some (.int u9)] [.int v12] (zmf (zmf (zmf (zmf u3.2 56 0) 52 (if u3.1 = true then (zf u3.2 52) else u2 : Int32)) 53 (if u3.1 = true then (zf u3.2 53) else u2 : Int32)) 50 (u9 + 1)) Q := by
          intro v12 ev12
          subst ev12
          refine zw_retz rfl rfl (bI_01 _) ?_
          have H := oq_some H
          exact H
        refine zw_br (c := ¬ (ra u3.2 u9) = 41) (t1 := 136) (t2 := 132) (loc' := [some (.ref 136), some (.int k), some (.int (if u3.1 = true then (zf u3.2 50) else u2 : Int32)), some (.int (if u3.1 = true then (zf u3.2 52) else u2 : Int32)), some (.int (if u3.1 = true then (zf u3.2 53) else u2 : Int32)), some (.int u9)]) (stk' := []) (fun _ _ _ => rfl) (fun c11 => ?_) (fun c11 => ?_)
        · skip
          refine zw_run 1 (pc' := 137) (loc' := [some (.ref 136), some (.int k), some (.int (if u3.1 = true then (zf u3.2 50) else u2 : Int32)), some (.int (if u3.1 = true then (zf u3.2 52) else u2 : Int32)), some (.int (if u3.1 = true then (zf u3.2 53) else u2 : Int32)), some (.int u9)]) (stk' := [.int 0]) (fun _ _ _ => rfl) ?_
          exact J13 _ (by clear H J13; first | (simp [bI, c11]; done) | (simp [bI, *]; done) | (simp_all [bI]; done) | (exfalso; simp_all; done))
        · skip
          refine zw_run 2 (pc' := 137) (loc' := [some (.ref 136), some (.int k), some (.int (if u3.1 = true then (zf u3.2 50) else u2 : Int32)), some (.int (if u3.1 = true then (zf u3.2 52) else u2 : Int32)), some (.int (if u3.1 = true then (zf u3.2 53) else u2 : Int32)), some (.int u9)]) (stk' := [.int 1]) (fun _ _ _ => rfl) ?_
          exact J13 _ (by clear H J13; first | (simp [bI, c11]; done) | (simp [bI, *]; done) | (simp_all [bI]; done) | (exfalso; simp_all; done))
      · rw [if_neg c10] at H
        refine zw_run 2 (pc' := 66) (loc' := [some (.ref 136), some (.int k), some (.int (if u3.1 = true then (zf u3.2 50) else u2 : Int32)), some (.int (if u3.1 = true then (zf u3.2 52) else u2 : Int32)), some (.int (if u3.1 = true then (zf u3.2 53) else u2 : Int32)), some (.int u9)]) (stk' := [.int u9, .ref 136, .ref 136]) (fun _ _ _ => rfl) ?_
        obtain ⟨u14, hu14, H⟩ := oq_bind H
        refine zw_callf (As := [.ref 136, .int u9]) (rest := [.ref 136]) (c_118 hu u9 hu14 (d := d + 0)) rfl rfl rfl rfl ?_
        show zw fm sx (d + 3) 119 69 [some (.ref 136), some (.int k), some (.int (if u3.1 = true then (zf u3.2 50) else u2 : Int32)), some (.int (if u3.1 = true then (zf u3.2 52) else u2 : Int32)), some (.int (if u3.1 = true then (zf u3.2 53) else u2 : Int32)), some (.int u9)] [.int (bI u14.1), .ref 136] u14.2 Q
        obtain ⟨hS, H⟩ := oq_ob H
        have J17 : ∀ (v16 : Int32), v16 = (bI (u14.1)) → zw fm sx (d + 3) 119 77 [some (.ref 136), some (.int k), some (.int (if u3.1 = true then (zf u3.2 50) else u2 : Int32)), some (.int (if u3.1 = true then (zf u3.2 52) else u2 : Int32)), some (.int (if u3.1 = true then (zf u3.2 53) else u2 : Int32)), some (.int u9)] [.int v16, .ref 136] u14.2 Q := by
          intro v16 ev16
          subst ev16
          refine zw_mput rfl rfl (bI_fit _) rfl ?_
          show zw fm sx (d + 3) 119 80 [some (.ref 136), some (.int k), some (.int (if u3.1 = true then (zf u3.2 50) else u2 : Int32)), some (.int (if u3.1 = true then (zf u3.2 52) else u2 : Int32)), some (.int (if u3.1 = true then (zf u3.2 53) else u2 : Int32)), some (.int u9)] [] (zmf u14.2 56 (bI (u14.1))) Q
          refine zw_run 1 (pc' := 81) (loc' := [some (.ref 136), some (.int k), some (.int (if u3.1 = true then (zf u3.2 50) else u2 : Int32)), some (.int (if u3.1 = true then (zf u3.2 52) else u2 : Int32)), some (.int (if u3.1 = true then (zf u3.2 53) else u2 : Int32)), some (.int u9)]) (stk' := [.ref 136]) (fun _ _ _ => rfl) ?_
          refine zw_mget (v := .int (bI (u14.1))) rfl rfl ?_
          refine zw_b0 (b := (u14.1)) (t1 := 87) (t2 := 98) (loc' := [some (.ref 136), some (.int k), some (.int (if u3.1 = true then (zf u3.2 50) else u2 : Int32)), some (.int (if u3.1 = true then (zf u3.2 52) else u2 : Int32)), some (.int (if u3.1 = true then (zf u3.2 53) else u2 : Int32)), some (.int u9)]) (stk' := []) (fun _ _ _ => rfl) (fun c18 => ?_) (fun c18 => ?_)
          · rw [if_pos c18] at H
            refine zw_run 2 (pc' := 89) (loc' := [some (.ref 136), some (.int k), some (.int (if u3.1 = true then (zf u3.2 50) else u2 : Int32)), some (.int (if u3.1 = true then (zf u3.2 52) else u2 : Int32)), some (.int (if u3.1 = true then (zf u3.2 53) else u2 : Int32)), some (.int u9)]) (stk' := [.ref 136, .ref 136]) (fun _ _ _ => rfl) ?_
            refine zw_mget (v := .int (zf u14.2 50)) rfl rfl ?_
            obtain ⟨u19, hu19, H⟩ := oq_bind H
            refine zw_callf (As := [.ref 136, .int (zf u14.2 50)]) (rest := []) (c_114 hu (zf u14.2 50) hu19 (d := d + 1)) rfl rfl rfl rfl ?_
            show zw fm sx (d + 3) 119 95 [some (.ref 136), some (.int k), some (.int (if u3.1 = true then (zf u3.2 50) else u2 : Int32)), some (.int (if u3.1 = true then (zf u3.2 52) else u2 : Int32)), some (.int (if u3.1 = true then (zf u3.2 53) else u2 : Int32)), some (.int u9)] [.int u19] (zmf u14.2 56 (bI (u14.1))) Q
            refine zw_run 4 (pc' := 104) (loc' := [some (.ref 136), some (.int k), some (.int (if u3.1 = true then (zf u3.2 50) else u2 : Int32)), some (.int (if u3.1 = true then (zf u3.2 52) else u2 : Int32)), some (.int (if u3.1 = true then (zf u3.2 53) else u2 : Int32)), some (.int u19)]) (stk' := [.int (if u3.1 = true then (zf u3.2 52) else u2 : Int32), .ref 136]) (fun _ _ _ => rfl) ?_
            refine zw_mput rfl rfl rfl rfl ?_
            show zw fm sx (d + 3) 119 107 [some (.ref 136), some (.int k), some (.int (if u3.1 = true then (zf u3.2 50) else u2 : Int32)), some (.int (if u3.1 = true then (zf u3.2 52) else u2 : Int32)), some (.int (if u3.1 = true then (zf u3.2 53) else u2 : Int32)), some (.int u19)] [] (zmf (zmf u14.2 56 (bI (u14.1))) 52 (if u3.1 = true then (zf u3.2 52) else u2 : Int32)) Q
            refine zw_run 2 (pc' := 110) (loc' := [some (.ref 136), some (.int k), some (.int (if u3.1 = true then (zf u3.2 50) else u2 : Int32)), some (.int (if u3.1 = true then (zf u3.2 52) else u2 : Int32)), some (.int (if u3.1 = true then (zf u3.2 53) else u2 : Int32)), some (.int u19)]) (stk' := [.int (if u3.1 = true then (zf u3.2 53) else u2 : Int32), .ref 136]) (fun _ _ _ => rfl) ?_
            refine zw_mput rfl rfl rfl rfl ?_
            show zw fm sx (d + 3) 119 113 [some (.ref 136), some (.int k), some (.int (if u3.1 = true then (zf u3.2 50) else u2 : Int32)), some (.int (if u3.1 = true then (zf u3.2 52) else u2 : Int32)), some (.int (if u3.1 = true then (zf u3.2 53) else u2 : Int32)), some (.int u19)] [] (zmf (zmf (zmf u14.2 56 (bI (u14.1))) 52 (if u3.1 = true then (zf u3.2 52) else u2 : Int32)) 53 (if u3.1 = true then (zf u3.2 53) else u2 : Int32)) Q
            refine zw_run 4 (pc' := 118) (loc' := [some (.ref 136), some (.int k), some (.int (if u3.1 = true then (zf u3.2 50) else u2 : Int32)), some (.int (if u3.1 = true then (zf u3.2 52) else u2 : Int32)), some (.int (if u3.1 = true then (zf u3.2 53) else u2 : Int32)), some (.int u19)]) (stk' := [.int (u19 + 1), .ref 136]) (fun _ _ _ => rfl) ?_
            refine zw_mput rfl rfl rfl rfl ?_
            show zw fm sx (d + 3) 119 121 [some (.ref 136), some (.int k), some (.int (if u3.1 = true then (zf u3.2 50) else u2 : Int32)), some (.int (if u3.1 = true then (zf u3.2 52) else u2 : Int32)), some (.int (if u3.1 = true then (zf u3.2 53) else u2 : Int32)), some (.int u19)] [] (zmf (zmf (zmf (zmf u14.2 56 (bI (u14.1))) 52 (if u3.1 = true then (zf u3.2 52) else u2 : Int32)) 53 (if u3.1 = true then (zf u3.2 53) else u2 : Int32)) 50 (u19 + 1)) Q
            refine zw_run 2 (pc' := 124) (loc' := [some (.ref 136), some (.int k), some (.int (if u3.1 = true then (zf u3.2 50) else u2 : Int32)), some (.int (if u3.1 = true then (zf u3.2 52) else u2 : Int32)), some (.int (if u3.1 = true then (zf u3.2 53) else u2 : Int32)), some (.int u19)]) (stk' := [.int u19, .ref 136]) (fun _ _ _ => rfl) ?_
            refine zw_callf (As := [.ref 136, .int u19]) (rest := []) (c_183 (Z := zmf (zmf (zmf (zmf u14.2 56 (bI (u14.1))) 52 (if u3.1 = true then (zf u3.2 52) else u2 : Int32)) 53 (if u3.1 = true then (zf u3.2 53) else u2 : Int32)) 50 (u19 + 1)) hS u19 (d := d + 2)) rfl rfl rfl rfl ?_
            show zw fm sx (d + 3) 119 127 [some (.ref 136), some (.int k), some (.int (if u3.1 = true then (zf u3.2 50) else u2 : Int32)), some (.int (if u3.1 = true then (zf u3.2 52) else u2 : Int32)), some (.int (if u3.1 = true then (zf u3.2 53) else u2 : Int32)), some (.int u19)] [.int (ra u14.2 u19)] (zmf (zmf (zmf (zmf u14.2 56 (bI (u14.1))) 52 (if u3.1 = true then (zf u3.2 52) else u2 : Int32)) 53 (if u3.1 = true then (zf u3.2 53) else u2 : Int32)) 50 (u19 + 1)) Q
            refine zw_run 1 (pc' := 129) (loc' := [some (.ref 136), some (.int k), some (.int (if u3.1 = true then (zf u3.2 50) else u2 : Int32)), some (.int (if u3.1 = true then (zf u3.2 52) else u2 : Int32)), some (.int (if u3.1 = true then (zf u3.2 53) else u2 : Int32)), some (.int u19)]) (stk' := [.int 41, .int (ra u14.2 u19)]) (fun _ _ _ => rfl) ?_
            have J22 : ∀ (v21 : Int32), v21 = (bI ((decide ((ra u14.2 u19) = 41)))) → zw fm sx (d + 3) 119 137 [some (.ref 136), some (.int k), some (.int (if u3.1 = true then (zf u3.2 50) else u2 : Int32)), some (.int (if u3.1 = true then (zf u3.2 52) else u2 : Int32)), some (.int (if u3.1 = true then (zf u3.2 53) else u2 : Int32)), some (.int u19)] [.int v21] (zmf (zmf (zmf (zmf u14.2 56 (bI (u14.1))) 52 (if u3.1 = true then (zf u3.2 52) else u2 : Int32)) 53 (if u3.1 = true then (zf u3.2 53) else u2 : Int32)) 50 (u19 + 1)) Q := by
              intro v21 ev21
              subst ev21
              refine zw_retz rfl rfl (bI_01 _) ?_
              have H := oq_some H
              exact H
            refine zw_br (c := ¬ (ra u14.2 u19) = 41) (t1 := 136) (t2 := 132) (loc' := [some (.ref 136), some (.int k), some (.int (if u3.1 = true then (zf u3.2 50) else u2 : Int32)), some (.int (if u3.1 = true then (zf u3.2 52) else u2 : Int32)), some (.int (if u3.1 = true then (zf u3.2 53) else u2 : Int32)), some (.int u19)]) (stk' := []) (fun _ _ _ => rfl) (fun c20 => ?_) (fun c20 => ?_)
            · skip
              refine zw_run 1 (pc' := 137) (loc' := [some (.ref 136), some (.int k), some (.int (if u3.1 = true then (zf u3.2 50) else u2 : Int32)), some (.int (if u3.1 = true then (zf u3.2 52) else u2 : Int32)), some (.int (if u3.1 = true then (zf u3.2 53) else u2 : Int32)), some (.int u19)]) (stk' := [.int 0]) (fun _ _ _ => rfl) ?_
              exact J22 _ (by clear H J22; first | (simp [bI, c20]; done) | (simp [bI, *]; done) | (simp_all [bI]; done) | (exfalso; simp_all; done))
            · skip
              refine zw_run 2 (pc' := 137) (loc' := [some (.ref 136), some (.int k), some (.int (if u3.1 = true then (zf u3.2 50) else u2 : Int32)), some (.int (if u3.1 = true then (zf u3.2 52) else u2 : Int32)), some (.int (if u3.1 = true then (zf u3.2 53) else u2 : Int32)), some (.int u19)]) (stk' := [.int 1]) (fun _ _ _ => rfl) ?_
              exact J22 _ (by clear H J22; first | (simp [bI, c20]; done) | (simp [bI, *]; done) | (simp_all [bI]; done) | (exfalso; simp_all; done))
          · rw [if_neg c18] at H
            refine zw_run 4 (pc' := 104) (loc' := [some (.ref 136), some (.int k), some (.int (if u3.1 = true then (zf u3.2 50) else u2 : Int32)), some (.int (if u3.1 = true then (zf u3.2 52) else u2 : Int32)), some (.int (if u3.1 = true then (zf u3.2 53) else u2 : Int32)), some (.int u9)]) (stk' := [.int (if u3.1 = true then (zf u3.2 52) else u2 : Int32), .ref 136]) (fun _ _ _ => rfl) ?_
            refine zw_mput rfl rfl rfl rfl ?_
            show zw fm sx (d + 3) 119 107 [some (.ref 136), some (.int k), some (.int (if u3.1 = true then (zf u3.2 50) else u2 : Int32)), some (.int (if u3.1 = true then (zf u3.2 52) else u2 : Int32)), some (.int (if u3.1 = true then (zf u3.2 53) else u2 : Int32)), some (.int u9)] [] (zmf (zmf u14.2 56 (bI (u14.1))) 52 (if u3.1 = true then (zf u3.2 52) else u2 : Int32)) Q
            refine zw_run 2 (pc' := 110) (loc' := [some (.ref 136), some (.int k), some (.int (if u3.1 = true then (zf u3.2 50) else u2 : Int32)), some (.int (if u3.1 = true then (zf u3.2 52) else u2 : Int32)), some (.int (if u3.1 = true then (zf u3.2 53) else u2 : Int32)), some (.int u9)]) (stk' := [.int (if u3.1 = true then (zf u3.2 53) else u2 : Int32), .ref 136]) (fun _ _ _ => rfl) ?_
            refine zw_mput rfl rfl rfl rfl ?_
            show zw fm sx (d + 3) 119 113 [some (.ref 136), some (.int k), some (.int (if u3.1 = true then (zf u3.2 50) else u2 : Int32)), some (.int (if u3.1 = true then (zf u3.2 52) else u2 : Int32)), some (.int (if u3.1 = true then (zf u3.2 53) else u2 : Int32)), some (.int u9)] [] (zmf (zmf (zmf u14.2 56 (bI (u14.1))) 52 (if u3.1 = true then (zf u3.2 52) else u2 : Int32)) 53 (if u3.1 = true then (zf u3.2 53) else u2 : Int32)) Q
            refine zw_run 4 (pc' := 118) (loc' := [some (.ref 136), some (.int k), some (.int (if u3.1 = true then (zf u3.2 50) else u2 : Int32)), some (.int (if u3.1 = true then (zf u3.2 52) else u2 : Int32)), some (.int (if u3.1 = true then (zf u3.2 53) else u2 : Int32)), some (.int u9)]) (stk' := [.int (u9 + 1), .ref 136]) (fun _ _ _ => rfl) ?_
            refine zw_mput rfl rfl rfl rfl ?_
            show zw fm sx (d + 3) 119 121 [some (.ref 136), some (.int k), some (.int (if u3.1 = true then (zf u3.2 50) else u2 : Int32)), some (.int (if u3.1 = true then (zf u3.2 52) else u2 : Int32)), some (.int (if u3.1 = true then (zf u3.2 53) else u2 : Int32)), some (.int u9)] [] (zmf (zmf (zmf (zmf u14.2 56 (bI (u14.1))) 52 (if u3.1 = true then (zf u3.2 52) else u2 : Int32)) 53 (if u3.1 = true then (zf u3.2 53) else u2 : Int32)) 50 (u9 + 1)) Q
            refine zw_run 2 (pc' := 124) (loc' := [some (.ref 136), some (.int k), some (.int (if u3.1 = true then (zf u3.2 50) else u2 : Int32)), some (.int (if u3.1 = true then (zf u3.2 52) else u2 : Int32)), some (.int (if u3.1 = true then (zf u3.2 53) else u2 : Int32)), some (.int u9)]) (stk' := [.int u9, .ref 136]) (fun _ _ _ => rfl) ?_
            refine zw_callf (As := [.ref 136, .int u9]) (rest := []) (c_183 (Z := zmf (zmf (zmf (zmf u14.2 56 (bI (u14.1))) 52 (if u3.1 = true then (zf u3.2 52) else u2 : Int32)) 53 (if u3.1 = true then (zf u3.2 53) else u2 : Int32)) 50 (u9 + 1)) hS u9 (d := d + 2)) rfl rfl rfl rfl ?_
            show zw fm sx (d + 3) 119 127 [some (.ref 136), some (.int k), some (.int (if u3.1 = true then (zf u3.2 50) else u2 : Int32)), some (.int (if u3.1 = true then (zf u3.2 52) else u2 : Int32)), some (.int (if u3.1 = true then (zf u3.2 53) else u2 : Int32)), some (.int u9)] [.int (ra u14.2 u9)] (zmf (zmf (zmf (zmf u14.2 56 (bI (u14.1))) 52 (if u3.1 = true then (zf u3.2 52) else u2 : Int32)) 53 (if u3.1 = true then (zf u3.2 53) else u2 : Int32)) 50 (u9 + 1)) Q
            refine zw_run 1 (pc' := 129) (loc' := [some (.ref 136), some (.int k), some (.int (if u3.1 = true then (zf u3.2 50) else u2 : Int32)), some (.int (if u3.1 = true then (zf u3.2 52) else u2 : Int32)), some (.int (if u3.1 = true then (zf u3.2 53) else u2 : Int32)), some (.int u9)]) (stk' := [.int 41, .int (ra u14.2 u9)]) (fun _ _ _ => rfl) ?_
            have J25 : ∀ (v24 : Int32), v24 = (bI ((decide ((ra u14.2 u9) = 41)))) → zw fm sx (d + 3) 119 137 [some (.ref 136), some (.int k), some (.int (if u3.1 = true then (zf u3.2 50) else u2 : Int32)), some (.int (if u3.1 = true then (zf u3.2 52) else u2 : Int32)), some (.int (if u3.1 = true then (zf u3.2 53) else u2 : Int32)), some (.int u9)] [.int v24] (zmf (zmf (zmf (zmf u14.2 56 (bI (u14.1))) 52 (if u3.1 = true then (zf u3.2 52) else u2 : Int32)) 53 (if u3.1 = true then (zf u3.2 53) else u2 : Int32)) 50 (u9 + 1)) Q := by
              intro v24 ev24
              subst ev24
              refine zw_retz rfl rfl (bI_01 _) ?_
              have H := oq_some H
              exact H
            refine zw_br (c := ¬ (ra u14.2 u9) = 41) (t1 := 136) (t2 := 132) (loc' := [some (.ref 136), some (.int k), some (.int (if u3.1 = true then (zf u3.2 50) else u2 : Int32)), some (.int (if u3.1 = true then (zf u3.2 52) else u2 : Int32)), some (.int (if u3.1 = true then (zf u3.2 53) else u2 : Int32)), some (.int u9)]) (stk' := []) (fun _ _ _ => rfl) (fun c23 => ?_) (fun c23 => ?_)
            · skip
              refine zw_run 1 (pc' := 137) (loc' := [some (.ref 136), some (.int k), some (.int (if u3.1 = true then (zf u3.2 50) else u2 : Int32)), some (.int (if u3.1 = true then (zf u3.2 52) else u2 : Int32)), some (.int (if u3.1 = true then (zf u3.2 53) else u2 : Int32)), some (.int u9)]) (stk' := [.int 0]) (fun _ _ _ => rfl) ?_
              exact J25 _ (by clear H J25; first | (simp [bI, c23]; done) | (simp [bI, *]; done) | (simp_all [bI]; done) | (exfalso; simp_all; done))
            · skip
              refine zw_run 2 (pc' := 137) (loc' := [some (.ref 136), some (.int k), some (.int (if u3.1 = true then (zf u3.2 50) else u2 : Int32)), some (.int (if u3.1 = true then (zf u3.2 52) else u2 : Int32)), some (.int (if u3.1 = true then (zf u3.2 53) else u2 : Int32)), some (.int u9)]) (stk' := [.int 1]) (fun _ _ _ => rfl) ?_
              exact J25 _ (by clear H J25; first | (simp [bI, c23]; done) | (simp [bI, *]; done) | (simp_all [bI]; done) | (exfalso; simp_all; done))
        refine zw_b0 (b := u14.1) (t1 := 72) (t2 := 76) (loc' := [some (.ref 136), some (.int k), some (.int (if u3.1 = true then (zf u3.2 50) else u2 : Int32)), some (.int (if u3.1 = true then (zf u3.2 52) else u2 : Int32)), some (.int (if u3.1 = true then (zf u3.2 53) else u2 : Int32)), some (.int u9)]) (stk' := [.ref 136]) (fun _ _ _ => rfl) (fun c15 => ?_) (fun c15 => ?_)
        · skip
          refine zw_run 2 (pc' := 77) (loc' := [some (.ref 136), some (.int k), some (.int (if u3.1 = true then (zf u3.2 50) else u2 : Int32)), some (.int (if u3.1 = true then (zf u3.2 52) else u2 : Int32)), some (.int (if u3.1 = true then (zf u3.2 53) else u2 : Int32)), some (.int u9)]) (stk' := [.int 1, .ref 136]) (fun _ _ _ => rfl) ?_
          exact J17 _ (by clear H J17; first | (simp [bI, c15]; done) | (simp [bI, *]; done) | (simp_all [bI]; done) | (exfalso; simp_all; done))
        · skip
          refine zw_run 1 (pc' := 77) (loc' := [some (.ref 136), some (.int k), some (.int (if u3.1 = true then (zf u3.2 50) else u2 : Int32)), some (.int (if u3.1 = true then (zf u3.2 52) else u2 : Int32)), some (.int (if u3.1 = true then (zf u3.2 53) else u2 : Int32)), some (.int u9)]) (stk' := [.int 0, .ref 136]) (fun _ _ _ => rfl) ?_
          exact J17 _ (by clear H J17; first | (simp [bI, c15]; done) | (simp [bI, *]; done) | (simp_all [bI]; done) | (exfalso; simp_all; done))
    refine zw_b0 (b := u3.1) (t1 := 33) (t2 := 49) (loc' := [some (.ref 136), some (.int k), some (.int u2), some (.int u2), some (.int u2), none]) (stk' := []) (fun _ _ _ => rfl) (fun c4 => ?_) (fun c4 => ?_)
    · skip
      refine zw_run 1 (pc' := 34) (loc' := [some (.ref 136), some (.int k), some (.int u2), some (.int u2), some (.int u2), none]) (stk' := [.ref 136]) (fun _ _ _ => rfl) ?_
      refine zw_mget (v := .int (zf u3.2 52)) rfl rfl ?_
      refine zw_run 2 (pc' := 39) (loc' := [some (.ref 136), some (.int k), some (.int u2), some (.int (zf u3.2 52)), some (.int u2), none]) (stk' := [.ref 136]) (fun _ _ _ => rfl) ?_
      refine zw_mget (v := .int (zf u3.2 53)) rfl rfl ?_
      refine zw_run 2 (pc' := 45) (loc' := [some (.ref 136), some (.int k), some (.int u2), some (.int (zf u3.2 52)), some (.int (zf u3.2 53)), none]) (stk' := [.ref 136]) (fun _ _ _ => rfl) ?_
      refine zw_mget (v := .int (zf u3.2 50)) rfl rfl ?_
      refine zw_run 1 (pc' := 49) (loc' := [some (.ref 136), some (.int k), some (.int (zf u3.2 50)), some (.int (zf u3.2 52)), some (.int (zf u3.2 53)), none]) (stk' := []) (fun _ _ _ => rfl) ?_
      exact J8 _ _ _ (by first | (rw [if_pos c4]; done) | (rw [if_pos c4]; rfl) | (clear H J8; simp_all [bI]; done)) (by first | (rw [if_pos c4]; done) | (rw [if_pos c4]; rfl) | (clear H J8; simp_all [bI]; done)) (by first | (rw [if_pos c4]; done) | (rw [if_pos c4]; rfl) | (clear H J8; simp_all [bI]; done))
    · skip
      exact J8 _ _ _ (by first | (rw [if_neg c4]; done) | (rw [if_neg c4]; rfl) | (clear H J8; simp_all [bI]; done)) (by first | (rw [if_neg c4]; done) | (rw [if_neg c4]; rfl) | (clear H J8; simp_all [bI]; done)) (by first | (rw [if_neg c4]; done) | (rw [if_neg c4]; rfl) | (clear H J8; simp_all [bI]; done))
  · rw [if_neg c1] at H
    refine zw_run 1 (pc' := 11) (loc' := [some (.ref 136), some (.int k), none, none, none, none]) (stk' := [.int 0]) (fun _ _ _ => rfl) ?_
    refine zw_retz rfl rfl (Or.inl rfl) ?_
    have H := oq_some H
    exact H
theorem c_119 {fm : Value} {sx : Nat × (Nat → Int32)} {d : Nat} {Z : zr_Z} (hu : fm = .null ∨ ∃ q, fm = .ref q) (k : Int32) {x : Bool × zr_Z} (hx : o_119 Z k = some x) : zl fm sx (d + 4) 119 [.ref 136, .int k] Z (fun r Z' => r = some (.int (bI x.1)) ∧ Z' = x.2) :=
  zl_of (nL := 6) (loc0 := [some (.ref 136), some (.int k), none, none, none, none]) rfl rfl rfl (t_119 hu k ⟨x, hx, rfl, rfl⟩)
