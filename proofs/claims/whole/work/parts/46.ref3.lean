/-! walks into Option; written by wip/whole/gen_opt.py -/
/-- MarkInlinesModel.close -/
def o_140 (Z : zr_Z) (k : Int32) : Option (Int32 × zr_Z) := (if sok Z then (if (zf Z 35) = 0 then (Option.bind (o_127 (zmf Z 35 ((zf Z 35) - (bI (!(decide ((zf Z 35) = 0)))))) 0 93) fun u5 => (if sok u5.2 then some (k + 1, u5.2) else none)) else (if inq 163 ((zf Z 35) - 1) then (if (zv Z 163 ((zf Z 35) - 1)) = 0 then (if inq 158 ((zf Z 35) - 1) then (Option.bind (o_119 (zmf Z 35 ((zf Z 35) - 1)) (k + 1)) fun u9 => (if sok u9.2 then (if u9.1 = true then (if inq 145 (zv Z 158 ((zf Z 35) - 1)) then (Option.bind (o_120 (zar u9.2 145 (zv Z 158 ((zf Z 35) - 1)) (zf u9.2 10)) (zf u9.2 52) (zf u9.2 53)) fun u12 => (if sok u12.2 then (if inq 146 (zv Z 158 ((zf Z 35) - 1)) then (if inq 147 (zv Z 158 ((zf Z 35) - 1)) then (if (zf u12.2 56) = 0 then (if inq 148 (zv Z 158 ((zf Z 35) - 1)) then (if u9.1 = true then (if inq 149 (zv Z 158 ((zf Z 35) - 1)) then (if inq 162 ((zf Z 35) - 1) then (if inq 143 (zv Z 158 ((zf Z 35) - 1)) then (if inq 160 ((zf Z 35) - 1) then (Option.bind (o_134 (zar (zar (zar (zar (zar u12.2 146 (zv Z 158 ((zf Z 35) - 1)) u12.1) 147 (zv Z 158 ((zf Z 35) - 1)) (zf u12.2 10)) 148 (zv Z 158 ((zf Z 35) - 1)) 0) 149 (zv Z 158 ((zf Z 35) - 1)) (-1)) 143 (zv Z 158 ((zf Z 35) - 1)) (if (zv u12.2 162 ((zf Z 35) - 1)) = 0 then 6 else 7 : Int32)) (zv u12.2 160 ((zf Z 35) - 1))) fun u25 => (if sok u25 then (Option.bind (o_127 u25 12 0) fun u26 => (if sok u26.2 then (if inq 162 ((zf Z 35) - 1) then (if ¬ (zv u26.2 162 ((zf Z 35) - 1)) = 0 then some (zf u9.2 50, u26.2) else (Option.bind (o_138 u26.2) fun u29 => (if sok u29 then some (zf u9.2 50, u29) else none))) else none) else none)) else none)) else none) else none) else none) else none) else (Option.bind (o_127 (zar (zar (zar u12.2 146 (zv Z 158 ((zf Z 35) - 1)) u12.1) 147 (zv Z 158 ((zf Z 35) - 1)) (zf u12.2 10)) 148 (zv Z 158 ((zf Z 35) - 1)) 0) 0 93) fun u30 => (if sok u30.2 then some (k + 1, u30.2) else none))) else none) else (Option.bind (o_120 (zar (zar u12.2 146 (zv Z 158 ((zf Z 35) - 1)) u12.1) 147 (zv Z 158 ((zf Z 35) - 1)) (zf u12.2 10)) (zf u12.2 54) (zf u12.2 55)) fun u31 => (if sok u31.2 then (if inq 148 (zv Z 158 ((zf Z 35) - 1)) then (if u9.1 = true then (if inq 149 (zv Z 158 ((zf Z 35) - 1)) then (if inq 162 ((zf Z 35) - 1) then (if inq 143 (zv Z 158 ((zf Z 35) - 1)) then (if inq 160 ((zf Z 35) - 1) then (Option.bind (o_134 (zar (zar (zar u31.2 148 (zv Z 158 ((zf Z 35) - 1)) u31.1) 149 (zv Z 158 ((zf Z 35) - 1)) (-1)) 143 (zv Z 158 ((zf Z 35) - 1)) (if (zv u31.2 162 ((zf Z 35) - 1)) = 0 then 6 else 7 : Int32)) (zv u31.2 160 ((zf Z 35) - 1))) fun u41 => (if sok u41 then (Option.bind (o_127 u41 12 0) fun u42 => (if sok u42.2 then (if inq 162 ((zf Z 35) - 1) then (if ¬ (zv u42.2 162 ((zf Z 35) - 1)) = 0 then some (zf u9.2 50, u42.2) else (Option.bind (o_138 u42.2) fun u45 => (if sok u45 then some (zf u9.2 50, u45) else none))) else none) else none)) else none)) else none) else none) else none) else none) else (Option.bind (o_127 (zar u31.2 148 (zv Z 158 ((zf Z 35) - 1)) u31.1) 0 93) fun u46 => (if sok u46.2 then some (k + 1, u46.2) else none))) else none) else none))) else none) else none) else none)) else none) else (Option.bind (o_116 u9.2 (k + 1)) fun u47 => (if sok u47.2 then (if u47.1 = true then (Option.bind (o_123 u47.2 (zf u47.2 52) (zf u47.2 53)) fun u49 => (if sok u49 then (Option.bind (o_124 u49) fun u50 => (if u9.1 = true then (if inq 149 (zv Z 158 ((zf Z 35) - 1)) then (if inq 162 ((zf Z 35) - 1) then (if inq 143 (zv Z 158 ((zf Z 35) - 1)) then (if inq 160 ((zf Z 35) - 1) then (Option.bind (o_134 (zar (zar u49 149 (zv Z 158 ((zf Z 35) - 1)) u50) 143 (zv Z 158 ((zf Z 35) - 1)) (if (zv u49 162 ((zf Z 35) - 1)) = 0 then 6 else 7 : Int32)) (zv u49 160 ((zf Z 35) - 1))) fun u59 => (if sok u59 then (Option.bind (o_127 u59 12 0) fun u60 => (if sok u60.2 then (if inq 162 ((zf Z 35) - 1) then (if ¬ (zv u60.2 162 ((zf Z 35) - 1)) = 0 then some (zf u47.2 50, u60.2) else (Option.bind (o_138 u60.2) fun u63 => (if sok u63 then some (zf u47.2 50, u63) else none))) else none) else none)) else none)) else none) else none) else none) else none) else (if ¬ u50 = (-1) then (if inq 149 (zv Z 158 ((zf Z 35) - 1)) then (if inq 162 ((zf Z 35) - 1) then (if inq 143 (zv Z 158 ((zf Z 35) - 1)) then (if inq 160 ((zf Z 35) - 1) then (Option.bind (o_134 (zar (zar u49 149 (zv Z 158 ((zf Z 35) - 1)) u50) 143 (zv Z 158 ((zf Z 35) - 1)) (if (zv u49 162 ((zf Z 35) - 1)) = 0 then 6 else 7 : Int32)) (zv u49 160 ((zf Z 35) - 1))) fun u72 => (if sok u72 then (Option.bind (o_127 u72 12 0) fun u73 => (if sok u73.2 then (if inq 162 ((zf Z 35) - 1) then (if ¬ (zv u73.2 162 ((zf Z 35) - 1)) = 0 then some (zf u47.2 50, u73.2) else (Option.bind (o_138 u73.2) fun u76 => (if sok u76 then some (zf u47.2 50, u76) else none))) else none) else none)) else none)) else none) else none) else none) else none) else (Option.bind (o_127 u49 0 93) fun u77 => (if sok u77.2 then some (k + 1, u77.2) else none))))) else none)) else (if inq 161 ((zf Z 35) - 1) then (if ¬ (zv u47.2 161 ((zf Z 35) - 1)) = (zf u47.2 36) then (if u9.1 = true then (if inq 149 (zv Z 158 ((zf Z 35) - 1)) then (if inq 162 ((zf Z 35) - 1) then (if inq 143 (zv Z 158 ((zf Z 35) - 1)) then (if inq 160 ((zf Z 35) - 1) then (Option.bind (o_134 (zar (zar u47.2 149 (zv Z 158 ((zf Z 35) - 1)) (-1)) 143 (zv Z 158 ((zf Z 35) - 1)) (if (zv u47.2 162 ((zf Z 35) - 1)) = 0 then 6 else 7 : Int32)) (zv u47.2 160 ((zf Z 35) - 1))) fun u88 => (if sok u88 then (Option.bind (o_127 u88 12 0) fun u89 => (if sok u89.2 then (if inq 162 ((zf Z 35) - 1) then (if ¬ (zv u89.2 162 ((zf Z 35) - 1)) = 0 then some (k + 1, u89.2) else (Option.bind (o_138 u89.2) fun u92 => (if sok u92 then some (k + 1, u92) else none))) else none) else none)) else none)) else none) else none) else none) else none) else (Option.bind (o_127 u47.2 0 93) fun u93 => (if sok u93.2 then some (k + 1, u93.2) else none))) else (if inq 159 ((zf Z 35) - 1) then (Option.bind (o_115 u47.2 (zv u47.2 159 ((zf Z 35) - 1)) k) fun u95 => (if u95 = true then (if inq 159 ((zf Z 35) - 1) then (Option.bind (o_123 u47.2 (zv u47.2 159 ((zf Z 35) - 1)) k) fun u98 => (if sok u98 then (Option.bind (o_124 u98) fun u99 => (olet ((if ¬ (ra u98 (k + 1)) = 91 then (k + 1) else (if ¬ (ra u98 (k + 2)) = 93 then (k + 1) else (k + 3) : Int32) : Int32) : Int32) fun x104 => (if u9.1 = true then (if inq 149 (zv Z 158 ((zf Z 35) - 1)) then (if inq 162 ((zf Z 35) - 1) then (if inq 143 (zv Z 158 ((zf Z 35) - 1)) then (if inq 160 ((zf Z 35) - 1) then (Option.bind (o_134 (zar (zar u98 149 (zv Z 158 ((zf Z 35) - 1)) u99) 143 (zv Z 158 ((zf Z 35) - 1)) (if (zv u98 162 ((zf Z 35) - 1)) = 0 then 6 else 7 : Int32)) (zv u98 160 ((zf Z 35) - 1))) fun u113 => (if sok u113 then (Option.bind (o_127 u113 12 0) fun u114 => (if sok u114.2 then (if inq 162 ((zf Z 35) - 1) then (if ¬ (zv u114.2 162 ((zf Z 35) - 1)) = 0 then some (x104, u114.2) else (Option.bind (o_138 u114.2) fun u117 => (if sok u117 then some (x104, u117) else none))) else none) else none)) else none)) else none) else none) else none) else none) else (if ¬ u99 = (-1) then (if inq 149 (zv Z 158 ((zf Z 35) - 1)) then (if inq 162 ((zf Z 35) - 1) then (if inq 143 (zv Z 158 ((zf Z 35) - 1)) then (if inq 160 ((zf Z 35) - 1) then (Option.bind (o_134 (zar (zar u98 149 (zv Z 158 ((zf Z 35) - 1)) u99) 143 (zv Z 158 ((zf Z 35) - 1)) (if (zv u98 162 ((zf Z 35) - 1)) = 0 then 6 else 7 : Int32)) (zv u98 160 ((zf Z 35) - 1))) fun u126 => (if sok u126 then (Option.bind (o_127 u126 12 0) fun u127 => (if sok u127.2 then (if inq 162 ((zf Z 35) - 1) then (if ¬ (zv u127.2 162 ((zf Z 35) - 1)) = 0 then some (x104, u127.2) else (Option.bind (o_138 u127.2) fun u130 => (if sok u130 then some (x104, u130) else none))) else none) else none)) else none)) else none) else none) else none) else none) else (Option.bind (o_127 u98 0 93) fun u131 => (if sok u131.2 then some (k + 1, u131.2) else none)))))) else none)) else none) else (if u9.1 = true then (if inq 149 (zv Z 158 ((zf Z 35) - 1)) then (if inq 162 ((zf Z 35) - 1) then (if inq 143 (zv Z 158 ((zf Z 35) - 1)) then (if inq 160 ((zf Z 35) - 1) then (Option.bind (o_134 (zar (zar u47.2 149 (zv Z 158 ((zf Z 35) - 1)) (-1)) 143 (zv Z 158 ((zf Z 35) - 1)) (if (zv u47.2 162 ((zf Z 35) - 1)) = 0 then 6 else 7 : Int32)) (zv u47.2 160 ((zf Z 35) - 1))) fun u140 => (if sok u140 then (Option.bind (o_127 u140 12 0) fun u141 => (if sok u141.2 then (if inq 162 ((zf Z 35) - 1) then (if ¬ (zv u141.2 162 ((zf Z 35) - 1)) = 0 then some (k + 1, u141.2) else (Option.bind (o_138 u141.2) fun u144 => (if sok u144 then some (k + 1, u144) else none))) else none) else none)) else none)) else none) else none) else none) else none) else (Option.bind (o_127 u47.2 0 93) fun u145 => (if sok u145.2 then some (k + 1, u145.2) else none))))) else none)) else none)) else none))) else none)) else none) else (Option.bind (o_127 (zmf Z 35 ((zf Z 35) - (bI (!(decide ((zf Z 35) = 0)))))) 0 93) fun u149 => (if sok u149.2 then some (k + 1, u149.2) else none))) else none)) else none)
set_option maxRecDepth 100000 in
set_option maxHeartbeats 4000000 in
theorem t_140 {fm : Value} {sx : Nat × (Nat → Int32)} {d : Nat} {Z : zr_Z} {Q : Option Value → zr_Z → Prop} (hu : fm = .null ∨ ∃ q, fm = .ref q) (k : Int32) (H : oq (o_140 Z k) (fun x => Q (some (.int x.1)) x.2)) : zw fm sx (d + 4) 140 0 [some (.ref 136), some (.int k), none, none, none, none, none, none, none] [] Z Q := by
  unfold o_140 at H
  obtain ⟨hS, H⟩ := oq_ob H
  refine zw_run 1 (pc' := 1) (loc' := [some (.ref 136), some (.int k), none, none, none, none, none, none, none]) (stk' := [.ref 136]) (fun _ _ _ => rfl) ?_
  refine zw_mget (v := .int (zf Z 35)) rfl rfl ?_
  refine zw_br (c := (zf Z 35) = 0) (t1 := 21) (t2 := 7) (loc' := [some (.ref 136), some (.int k), none, none, none, none, none, none, none]) (stk' := []) (fun _ _ _ => rfl) (fun c1 => ?_) (fun c1 => ?_)
  · rw [if_pos c1] at H
    refine zw_run 2 (pc' := 23) (loc' := [some (.ref 136), some (.int k), none, none, none, none, none, none, none]) (stk' := [.ref 136, .ref 136]) (fun _ _ _ => rfl) ?_
    refine zw_mget (v := .int (zf Z 35)) rfl rfl ?_
    refine zw_run 1 (pc' := 27) (loc' := [some (.ref 136), some (.int k), none, none, none, none, none, none, none]) (stk' := [.ref 136, .int (zf Z 35), .ref 136]) (fun _ _ _ => rfl) ?_
    refine zw_mget (v := .int (zf Z 35)) rfl rfl ?_
    have J4 : ∀ (v3 : Int32), v3 = (bI (!(decide ((zf Z 35) = 0)))) → zw fm sx (d + 4) 140 38 [some (.ref 136), some (.int k), none, none, none, none, none, none, none] [.int v3, .int (zf Z 35), .ref 136] Z Q := by
      intro v3 ev3
      subst ev3
      refine zw_run 1 (pc' := 39) (loc' := [some (.ref 136), some (.int k), none, none, none, none, none, none, none]) (stk' := [.int ((zf Z 35) - (bI (!(decide ((zf Z 35) = 0))))), .ref 136]) (fun _ _ _ => rfl) ?_
      refine zw_mput rfl rfl rfl rfl ?_
      show zw fm sx (d + 4) 140 42 [some (.ref 136), some (.int k), none, none, none, none, none, none, none] [] (zmf Z 35 ((zf Z 35) - (bI (!(decide ((zf Z 35) = 0)))))) Q
      refine zw_run 3 (pc' := 46) (loc' := [some (.ref 136), some (.int k), none, none, none, none, none, none, none]) (stk' := [.int 93, .int 0, .ref 136]) (fun _ _ _ => rfl) ?_
      obtain ⟨u5, hu5, H⟩ := oq_bind H
      refine zw_callf (As := [.ref 136, .int 0, .int 93]) (rest := []) (c_127 hu 0 93 hu5 (d := d + 2)) rfl rfl rfl rfl ?_
      show zw fm sx (d + 4) 140 49 [some (.ref 136), some (.int k), none, none, none, none, none, none, none] [.int u5.1] u5.2 Q
      obtain ⟨hS, H⟩ := oq_ob H
      refine zw_run 4 (pc' := 53) (loc' := [some (.ref 136), some (.int k), none, none, none, none, none, none, none]) (stk' := [.int (k + 1)]) (fun _ _ _ => rfl) ?_
      refine zw_reti (i := .nop) rfl rfl ?_
      have H := oq_some H
      exact H
    refine zw_br (c := ¬ (zf Z 35) = 0) (t1 := 37) (t2 := 33) (loc' := [some (.ref 136), some (.int k), none, none, none, none, none, none, none]) (stk' := [.int (zf Z 35), .ref 136]) (fun _ _ _ => rfl) (fun c2 => ?_) (fun c2 => ?_)
    · skip
      refine zw_run 1 (pc' := 38) (loc' := [some (.ref 136), some (.int k), none, none, none, none, none, none, none]) (stk' := [.int 1, .int (zf Z 35), .ref 136]) (fun _ _ _ => rfl) ?_
      exact J4 _ (by clear H J4; first | (simp [bI, c2]; done) | (simp [bI, *]; done) | (simp_all [bI]; done) | (rw [decide_eq_true (Decidable.not_not.mp c2)]; rfl) | (exfalso; simp_all; done))
    · skip
      refine zw_run 2 (pc' := 38) (loc' := [some (.ref 136), some (.int k), none, none, none, none, none, none, none]) (stk' := [.int 0, .int (zf Z 35), .ref 136]) (fun _ _ _ => rfl) ?_
      exact J4 _ (by clear H J4; first | (simp [bI, c2]; done) | (simp [bI, *]; done) | (simp_all [bI]; done) | (rw [decide_eq_true (Decidable.not_not.mp c2)]; rfl) | (exfalso; simp_all; done))
  · rw [if_neg c1] at H
    refine zw_run 1 (pc' := 8) (loc' := [some (.ref 136), some (.int k), none, none, none, none, none, none, none]) (stk' := [.ref 136]) (fun _ _ _ => rfl) ?_
    refine zw_mget (v := .ref 163) rfl rfl ?_
    refine zw_run 1 (pc' := 12) (loc' := [some (.ref 136), some (.int k), none, none, none, none, none, none, none]) (stk' := [.ref 136, .ref 163]) (fun _ _ _ => rfl) ?_
    refine zw_mget (v := .int (zf Z 35)) rfl rfl ?_
    refine zw_run 2 (pc' := 17) (loc' := [some (.ref 136), some (.int k), none, none, none, none, none, none, none]) (stk' := [.int ((zf Z 35) - 1), .ref 163]) (fun _ _ _ => rfl) ?_
    obtain ⟨b6, H⟩ := oq_ob H
    refine zw_bald (j := 163) rfl (by decide) (by decide) rfl b6 ?_
    refine zw_br (c := (zv Z 163 ((zf Z 35) - 1)) = 0) (t1 := 54) (t2 := 21) (loc' := [some (.ref 136), some (.int k), none, none, none, none, none, none, none]) (stk' := []) (fun _ _ _ => rfl) (fun c7 => ?_) (fun c7 => ?_)
    · rw [if_pos c7] at H
      refine zw_run 1 (pc' := 55) (loc' := [some (.ref 136), some (.int k), none, none, none, none, none, none, none]) (stk' := [.ref 136]) (fun _ _ _ => rfl) ?_
      refine zw_mget (v := .int (zf Z 35)) rfl rfl ?_
      refine zw_run 4 (pc' := 62) (loc' := [some (.ref 136), some (.int k), some (.int ((zf Z 35) - 1)), none, none, none, none, none, none]) (stk' := [.ref 136]) (fun _ _ _ => rfl) ?_
      refine zw_mget (v := .ref 158) rfl rfl ?_
      refine zw_run 1 (pc' := 66) (loc' := [some (.ref 136), some (.int k), some (.int ((zf Z 35) - 1)), none, none, none, none, none, none]) (stk' := [.int ((zf Z 35) - 1), .ref 158]) (fun _ _ _ => rfl) ?_
      obtain ⟨b8, H⟩ := oq_ob H
      refine zw_iald (j := 158) rfl (by decide) (by decide) rfl b8 ?_
      refine zw_run 3 (pc' := 70) (loc' := [some (.ref 136), some (.int k), some (.int ((zf Z 35) - 1)), some (.int (zv Z 158 ((zf Z 35) - 1))), none, none, none, none, none]) (stk' := [.ref 136, .ref 136]) (fun _ _ _ => rfl) ?_
      refine zw_mget (v := .int (zf Z 35)) rfl rfl ?_
      refine zw_run 2 (pc' := 75) (loc' := [some (.ref 136), some (.int k), some (.int ((zf Z 35) - 1)), some (.int (zv Z 158 ((zf Z 35) - 1))), none, none, none, none, none]) (stk' := [.int ((zf Z 35) - 1), .ref 136]) (fun _ _ _ => rfl) ?_
      refine zw_mput rfl rfl rfl rfl ?_
      show zw fm sx (d + 4) 140 78 [some (.ref 136), some (.int k), some (.int ((zf Z 35) - 1)), some (.int (zv Z 158 ((zf Z 35) - 1))), none, none, none, none, none] [] (zmf Z 35 ((zf Z 35) - 1)) Q
      refine zw_run 10 (pc' := 90) (loc' := [some (.ref 136), some (.int k), some (.int ((zf Z 35) - 1)), some (.int (zv Z 158 ((zf Z 35) - 1))), some (.int (-1)), some (.int (k + 1)), none, none, none]) (stk' := [.int (k + 1), .ref 136]) (fun _ _ _ => rfl) ?_
      obtain ⟨u9, hu9, H⟩ := oq_bind H
      refine zw_callf (As := [.ref 136, .int (k + 1)]) (rest := []) (c_119 hu (k + 1) hu9 (d := d + 0)) rfl rfl rfl rfl ?_
      show zw fm sx (d + 4) 140 93 [some (.ref 136), some (.int k), some (.int ((zf Z 35) - 1)), some (.int (zv Z 158 ((zf Z 35) - 1))), some (.int (-1)), some (.int (k + 1)), none, none, none] [.int (bI u9.1)] u9.2 Q
      obtain ⟨hS, H⟩ := oq_ob H
      refine zw_run 2 (pc' := 97) (loc' := [some (.ref 136), some (.int k), some (.int ((zf Z 35) - 1)), some (.int (zv Z 158 ((zf Z 35) - 1))), some (.int (-1)), some (.int (k + 1)), some (.int (bI u9.1)), none, none]) (stk' := [.int (bI u9.1)]) (fun _ _ _ => rfl) ?_
      refine zw_b0 (b := u9.1) (t1 := 100) (t2 := 184) (loc' := [some (.ref 136), some (.int k), some (.int ((zf Z 35) - 1)), some (.int (zv Z 158 ((zf Z 35) - 1))), some (.int (-1)), some (.int (k + 1)), some (.int (bI u9.1)), none, none]) (stk' := []) (fun _ _ _ => rfl) (fun c10 => ?_) (fun c10 => ?_)
      · rw [if_pos c10] at H
        refine zw_run 1 (pc' := 101) (loc' := [some (.ref 136), some (.int k), some (.int ((zf Z 35) - 1)), some (.int (zv Z 158 ((zf Z 35) - 1))), some (.int (-1)), some (.int (k + 1)), some (.int (bI u9.1)), none, none]) (stk' := [.ref 136]) (fun _ _ _ => rfl) ?_
        refine zw_mget (v := .int (zf u9.2 50)) rfl rfl ?_
        refine zw_run 2 (pc' := 107) (loc' := [some (.ref 136), some (.int k), some (.int ((zf Z 35) - 1)), some (.int (zv Z 158 ((zf Z 35) - 1))), some (.int (-1)), some (.int (zf u9.2 50)), some (.int (bI u9.1)), none, none]) (stk' := [.ref 136]) (fun _ _ _ => rfl) ?_
        refine zw_mget (v := .int (zf u9.2 52)) rfl rfl ?_
        refine zw_run 2 (pc' := 113) (loc' := [some (.ref 136), some (.int k), some (.int ((zf Z 35) - 1)), some (.int (zv Z 158 ((zf Z 35) - 1))), some (.int (-1)), some (.int (zf u9.2 50)), some (.int (bI u9.1)), some (.int (zf u9.2 52)), none]) (stk' := [.ref 136]) (fun _ _ _ => rfl) ?_
        refine zw_mget (v := .int (zf u9.2 53)) rfl rfl ?_
        refine zw_run 2 (pc' := 119) (loc' := [some (.ref 136), some (.int k), some (.int ((zf Z 35) - 1)), some (.int (zv Z 158 ((zf Z 35) - 1))), some (.int (-1)), some (.int (zf u9.2 50)), some (.int (bI u9.1)), some (.int (zf u9.2 52)), some (.int (zf u9.2 53))]) (stk' := [.ref 136]) (fun _ _ _ => rfl) ?_
        refine zw_mget (v := .ref 145) rfl rfl ?_
        refine zw_run 2 (pc' := 124) (loc' := [some (.ref 136), some (.int k), some (.int ((zf Z 35) - 1)), some (.int (zv Z 158 ((zf Z 35) - 1))), some (.int (-1)), some (.int (zf u9.2 50)), some (.int (bI u9.1)), some (.int (zf u9.2 52)), some (.int (zf u9.2 53))]) (stk' := [.ref 136, .int (zv Z 158 ((zf Z 35) - 1)), .ref 145]) (fun _ _ _ => rfl) ?_
        refine zw_mget (v := .int (zf u9.2 10)) rfl rfl ?_
        obtain ⟨b11, H⟩ := oq_ob H
        refine zw_iast (j := 145) rfl (by decide) (by decide) rfl b11 ?_
        show zw fm sx (d + 4) 140 128 [some (.ref 136), some (.int k), some (.int ((zf Z 35) - 1)), some (.int (zv Z 158 ((zf Z 35) - 1))), some (.int (-1)), some (.int (zf u9.2 50)), some (.int (bI u9.1)), some (.int (zf u9.2 52)), some (.int (zf u9.2 53))] [] (zar u9.2 145 (zv Z 158 ((zf Z 35) - 1)) (zf u9.2 10)) Q
        refine zw_run 1 (pc' := 129) (loc' := [some (.ref 136), some (.int k), some (.int ((zf Z 35) - 1)), some (.int (zv Z 158 ((zf Z 35) - 1))), some (.int (-1)), some (.int (zf u9.2 50)), some (.int (bI u9.1)), some (.int (zf u9.2 52)), some (.int (zf u9.2 53))]) (stk' := [.ref 136]) (fun _ _ _ => rfl) ?_
        refine zw_mget (v := .ref 146) rfl rfl ?_
        refine zw_run 4 (pc' := 138) (loc' := [some (.ref 136), some (.int k), some (.int ((zf Z 35) - 1)), some (.int (zv Z 158 ((zf Z 35) - 1))), some (.int (-1)), some (.int (zf u9.2 50)), some (.int (bI u9.1)), some (.int (zf u9.2 52)), some (.int (zf u9.2 53))]) (stk' := [.int (zf u9.2 53), .int (zf u9.2 52), .ref 136, .int (zv Z 158 ((zf Z 35) - 1)), .ref 146]) (fun _ _ _ => rfl) ?_
        obtain ⟨u12, hu12, H⟩ := oq_bind H
        refine zw_callf (As := [.ref 136, .int (zf u9.2 52), .int (zf u9.2 53)]) (rest := [.int (zv Z 158 ((zf Z 35) - 1)), .ref 146]) (c_120 hu (zf u9.2 52) (zf u9.2 53) hu12 (d := d + 0)) rfl rfl rfl rfl ?_
        show zw fm sx (d + 4) 140 141 [some (.ref 136), some (.int k), some (.int ((zf Z 35) - 1)), some (.int (zv Z 158 ((zf Z 35) - 1))), some (.int (-1)), some (.int (zf u9.2 50)), some (.int (bI u9.1)), some (.int (zf u9.2 52)), some (.int (zf u9.2 53))] [.int u12.1, .int (zv Z 158 ((zf Z 35) - 1)), .ref 146] u12.2 Q
        obtain ⟨hS, H⟩ := oq_ob H
        obtain ⟨b13, H⟩ := oq_ob H
        refine zw_iast (j := 146) rfl (by decide) (by decide) rfl b13 ?_
        show zw fm sx (d + 4) 140 142 [some (.ref 136), some (.int k), some (.int ((zf Z 35) - 1)), some (.int (zv Z 158 ((zf Z 35) - 1))), some (.int (-1)), some (.int (zf u9.2 50)), some (.int (bI u9.1)), some (.int (zf u9.2 52)), some (.int (zf u9.2 53))] [] (zar u12.2 146 (zv Z 158 ((zf Z 35) - 1)) u12.1) Q
        refine zw_run 1 (pc' := 143) (loc' := [some (.ref 136), some (.int k), some (.int ((zf Z 35) - 1)), some (.int (zv Z 158 ((zf Z 35) - 1))), some (.int (-1)), some (.int (zf u9.2 50)), some (.int (bI u9.1)), some (.int (zf u9.2 52)), some (.int (zf u9.2 53))]) (stk' := [.ref 136]) (fun _ _ _ => rfl) ?_
        refine zw_mget (v := .ref 147) rfl rfl ?_
        refine zw_run 2 (pc' := 148) (loc' := [some (.ref 136), some (.int k), some (.int ((zf Z 35) - 1)), some (.int (zv Z 158 ((zf Z 35) - 1))), some (.int (-1)), some (.int (zf u9.2 50)), some (.int (bI u9.1)), some (.int (zf u9.2 52)), some (.int (zf u9.2 53))]) (stk' := [.ref 136, .int (zv Z 158 ((zf Z 35) - 1)), .ref 147]) (fun _ _ _ => rfl) ?_
        refine zw_mget (v := .int (zf u12.2 10)) rfl rfl ?_
        obtain ⟨b14, H⟩ := oq_ob H
        refine zw_iast (j := 147) rfl (by decide) (by decide) rfl b14 ?_
        show zw fm sx (d + 4) 140 152 [some (.ref 136), some (.int k), some (.int ((zf Z 35) - 1)), some (.int (zv Z 158 ((zf Z 35) - 1))), some (.int (-1)), some (.int (zf u9.2 50)), some (.int (bI u9.1)), some (.int (zf u9.2 52)), some (.int (zf u9.2 53))] [] (zar (zar u12.2 146 (zv Z 158 ((zf Z 35) - 1)) u12.1) 147 (zv Z 158 ((zf Z 35) - 1)) (zf u12.2 10)) Q
        refine zw_run 1 (pc' := 153) (loc' := [some (.ref 136), some (.int k), some (.int ((zf Z 35) - 1)), some (.int (zv Z 158 ((zf Z 35) - 1))), some (.int (-1)), some (.int (zf u9.2 50)), some (.int (bI u9.1)), some (.int (zf u9.2 52)), some (.int (zf u9.2 53))]) (stk' := [.ref 136]) (fun _ _ _ => rfl) ?_
        refine zw_mget (v := .ref 148) rfl rfl ?_
        refine zw_run 2 (pc' := 158) (loc' := [some (.ref 136), some (.int k), some (.int ((zf Z 35) - 1)), some (.int (zv Z 158 ((zf Z 35) - 1))), some (.int (-1)), some (.int (zf u9.2 50)), some (.int (bI u9.1)), some (.int (zf u9.2 52)), some (.int (zf u9.2 53))]) (stk' := [.ref 136, .int (zv Z 158 ((zf Z 35) - 1)), .ref 148]) (fun _ _ _ => rfl) ?_
        refine zw_mget (v := .int (zf u12.2 56)) rfl rfl ?_
        refine zw_br (c := (zf u12.2 56) = 0) (t1 := 179) (t2 := 164) (loc' := [some (.ref 136), some (.int k), some (.int ((zf Z 35) - 1)), some (.int (zv Z 158 ((zf Z 35) - 1))), some (.int (-1)), some (.int (zf u9.2 50)), some (.int (bI u9.1)), some (.int (zf u9.2 52)), some (.int (zf u9.2 53))]) (stk' := [.int (zv Z 158 ((zf Z 35) - 1)), .ref 148]) (fun _ _ _ => rfl) (fun c15 => ?_) (fun c15 => ?_)
        · rw [if_pos c15] at H
          refine zw_run 1 (pc' := 180) (loc' := [some (.ref 136), some (.int k), some (.int ((zf Z 35) - 1)), some (.int (zv Z 158 ((zf Z 35) - 1))), some (.int (-1)), some (.int (zf u9.2 50)), some (.int (bI u9.1)), some (.int (zf u9.2 52)), some (.int (zf u9.2 53))]) (stk' := [.int 0, .int (zv Z 158 ((zf Z 35) - 1)), .ref 148]) (fun _ _ _ => rfl) ?_
          obtain ⟨b16, H⟩ := oq_ob H
          refine zw_iast (j := 148) rfl (by decide) (by decide) rfl b16 ?_
          show zw fm sx (d + 4) 140 181 [some (.ref 136), some (.int k), some (.int ((zf Z 35) - 1)), some (.int (zv Z 158 ((zf Z 35) - 1))), some (.int (-1)), some (.int (zf u9.2 50)), some (.int (bI u9.1)), some (.int (zf u9.2 52)), some (.int (zf u9.2 53))] [] (zar (zar (zar u12.2 146 (zv Z 158 ((zf Z 35) - 1)) u12.1) 147 (zv Z 158 ((zf Z 35) - 1)) (zf u12.2 10)) 148 (zv Z 158 ((zf Z 35) - 1)) 0) Q
          refine zw_run 2 (pc' := 306) (loc' := [some (.ref 136), some (.int k), some (.int ((zf Z 35) - 1)), some (.int (zv Z 158 ((zf Z 35) - 1))), some (.int (-1)), some (.int (zf u9.2 50)), some (.int (bI u9.1)), some (.int (zf u9.2 52)), some (.int (zf u9.2 53))]) (stk' := [.int (bI u9.1)]) (fun _ _ _ => rfl) ?_
          refine zw_b1 (b := u9.1) (t1 := 327) (t2 := 309) (loc' := [some (.ref 136), some (.int k), some (.int ((zf Z 35) - 1)), some (.int (zv Z 158 ((zf Z 35) - 1))), some (.int (-1)), some (.int (zf u9.2 50)), some (.int (bI u9.1)), some (.int (zf u9.2 52)), some (.int (zf u9.2 53))]) (stk' := []) (fun _ _ _ => rfl) (fun c17 => ?_) (fun c17 => ?_)
          · rw [if_pos c17] at H
            refine zw_run 1 (pc' := 328) (loc' := [some (.ref 136), some (.int k), some (.int ((zf Z 35) - 1)), some (.int (zv Z 158 ((zf Z 35) - 1))), some (.int (-1)), some (.int (zf u9.2 50)), some (.int (bI u9.1)), some (.int (zf u9.2 52)), some (.int (zf u9.2 53))]) (stk' := [.ref 136]) (fun _ _ _ => rfl) ?_
            refine zw_mget (v := .ref 149) rfl rfl ?_
            refine zw_run 2 (pc' := 334) (loc' := [some (.ref 136), some (.int k), some (.int ((zf Z 35) - 1)), some (.int (zv Z 158 ((zf Z 35) - 1))), some (.int (-1)), some (.int (zf u9.2 50)), some (.int (bI u9.1)), some (.int (zf u9.2 52)), some (.int (zf u9.2 53))]) (stk' := [.int (-1), .int (zv Z 158 ((zf Z 35) - 1)), .ref 149]) (fun _ _ _ => rfl) ?_
            obtain ⟨b18, H⟩ := oq_ob H
            refine zw_iast (j := 149) rfl (by decide) (by decide) rfl b18 ?_
            show zw fm sx (d + 4) 140 335 [some (.ref 136), some (.int k), some (.int ((zf Z 35) - 1)), some (.int (zv Z 158 ((zf Z 35) - 1))), some (.int (-1)), some (.int (zf u9.2 50)), some (.int (bI u9.1)), some (.int (zf u9.2 52)), some (.int (zf u9.2 53))] [] (zar (zar (zar (zar u12.2 146 (zv Z 158 ((zf Z 35) - 1)) u12.1) 147 (zv Z 158 ((zf Z 35) - 1)) (zf u12.2 10)) 148 (zv Z 158 ((zf Z 35) - 1)) 0) 149 (zv Z 158 ((zf Z 35) - 1)) (-1)) Q
            refine zw_run 1 (pc' := 336) (loc' := [some (.ref 136), some (.int k), some (.int ((zf Z 35) - 1)), some (.int (zv Z 158 ((zf Z 35) - 1))), some (.int (-1)), some (.int (zf u9.2 50)), some (.int (bI u9.1)), some (.int (zf u9.2 52)), some (.int (zf u9.2 53))]) (stk' := [.ref 136]) (fun _ _ _ => rfl) ?_
            refine zw_mget (v := .ref 143) rfl rfl ?_
            refine zw_run 2 (pc' := 341) (loc' := [some (.ref 136), some (.int k), some (.int ((zf Z 35) - 1)), some (.int (zv Z 158 ((zf Z 35) - 1))), some (.int (-1)), some (.int (zf u9.2 50)), some (.int (bI u9.1)), some (.int (zf u9.2 52)), some (.int (zf u9.2 53))]) (stk' := [.ref 136, .int (zv Z 158 ((zf Z 35) - 1)), .ref 143]) (fun _ _ _ => rfl) ?_
            refine zw_mget (v := .ref 162) rfl rfl ?_
            refine zw_run 1 (pc' := 345) (loc' := [some (.ref 136), some (.int k), some (.int ((zf Z 35) - 1)), some (.int (zv Z 158 ((zf Z 35) - 1))), some (.int (-1)), some (.int (zf u9.2 50)), some (.int (bI u9.1)), some (.int (zf u9.2 52)), some (.int (zf u9.2 53))]) (stk' := [.int ((zf Z 35) - 1), .ref 162, .int (zv Z 158 ((zf Z 35) - 1)), .ref 143]) (fun _ _ _ => rfl) ?_
            obtain ⟨b19, H⟩ := oq_ob H
            refine zw_bald (j := 162) rfl (by decide) (by decide) rfl b19 ?_
            have J22 : ∀ (v21 : Int32), v21 = (if (zv u12.2 162 ((zf Z 35) - 1)) = 0 then 6 else 7 : Int32) → zw fm sx (d + 4) 140 356 [some (.ref 136), some (.int k), some (.int ((zf Z 35) - 1)), some (.int (zv Z 158 ((zf Z 35) - 1))), some (.int (-1)), some (.int (zf u9.2 50)), some (.int (bI u9.1)), some (.int (zf u9.2 52)), some (.int (zf u9.2 53))] [.int v21, .int (zv Z 158 ((zf Z 35) - 1)), .ref 143] (zar (zar (zar (zar u12.2 146 (zv Z 158 ((zf Z 35) - 1)) u12.1) 147 (zv Z 158 ((zf Z 35) - 1)) (zf u12.2 10)) 148 (zv Z 158 ((zf Z 35) - 1)) 0) 149 (zv Z 158 ((zf Z 35) - 1)) (-1)) Q := by
              intro v21 ev21
              subst ev21
              obtain ⟨b23, H⟩ := oq_ob H
              refine zw_iast (j := 143) rfl (by decide) (by decide) rfl b23 ?_
              show zw fm sx (d + 4) 140 357 [some (.ref 136), some (.int k), some (.int ((zf Z 35) - 1)), some (.int (zv Z 158 ((zf Z 35) - 1))), some (.int (-1)), some (.int (zf u9.2 50)), some (.int (bI u9.1)), some (.int (zf u9.2 52)), some (.int (zf u9.2 53))] [] (zar (zar (zar (zar (zar u12.2 146 (zv Z 158 ((zf Z 35) - 1)) u12.1) 147 (zv Z 158 ((zf Z 35) - 1)) (zf u12.2 10)) 148 (zv Z 158 ((zf Z 35) - 1)) 0) 149 (zv Z 158 ((zf Z 35) - 1)) (-1)) 143 (zv Z 158 ((zf Z 35) - 1)) (if (zv u12.2 162 ((zf Z 35) - 1)) = 0 then 6 else 7 : Int32)) Q
              refine zw_run 2 (pc' := 359) (loc' := [some (.ref 136), some (.int k), some (.int ((zf Z 35) - 1)), some (.int (zv Z 158 ((zf Z 35) - 1))), some (.int (-1)), some (.int (zf u9.2 50)), some (.int (bI u9.1)), some (.int (zf u9.2 52)), some (.int (zf u9.2 53))]) (stk' := [.ref 136, .ref 136]) (fun _ _ _ => rfl) ?_
              refine zw_mget (v := .ref 160) rfl rfl ?_
              refine zw_run 1 (pc' := 363) (loc' := [some (.ref 136), some (.int k), some (.int ((zf Z 35) - 1)), some (.int (zv Z 158 ((zf Z 35) - 1))), some (.int (-1)), some (.int (zf u9.2 50)), some (.int (bI u9.1)), some (.int (zf u9.2 52)), some (.int (zf u9.2 53))]) (stk' := [.int ((zf Z 35) - 1), .ref 160, .ref 136]) (fun _ _ _ => rfl) ?_
              obtain ⟨b24, H⟩ := oq_ob H
              refine zw_iald (j := 160) rfl (by decide) (by decide) rfl b24 ?_
              obtain ⟨u25, hu25, H⟩ := oq_bind H
              refine zw_callf (As := [.ref 136, .int (zv u12.2 160 ((zf Z 35) - 1))]) (rest := []) (c_134 hu (zv u12.2 160 ((zf Z 35) - 1)) hu25 (d := d + 0)) rfl rfl rfl rfl ?_
              show zw fm sx (d + 4) 140 367 [some (.ref 136), some (.int k), some (.int ((zf Z 35) - 1)), some (.int (zv Z 158 ((zf Z 35) - 1))), some (.int (-1)), some (.int (zf u9.2 50)), some (.int (bI u9.1)), some (.int (zf u9.2 52)), some (.int (zf u9.2 53))] [] u25 Q
              obtain ⟨hS, H⟩ := oq_ob H
              refine zw_run 3 (pc' := 371) (loc' := [some (.ref 136), some (.int k), some (.int ((zf Z 35) - 1)), some (.int (zv Z 158 ((zf Z 35) - 1))), some (.int (-1)), some (.int (zf u9.2 50)), some (.int (bI u9.1)), some (.int (zf u9.2 52)), some (.int (zf u9.2 53))]) (stk' := [.int 0, .int 12, .ref 136]) (fun _ _ _ => rfl) ?_
              obtain ⟨u26, hu26, H⟩ := oq_bind H
              refine zw_callf (As := [.ref 136, .int 12, .int 0]) (rest := []) (c_127 hu 12 0 hu26 (d := d + 2)) rfl rfl rfl rfl ?_
              show zw fm sx (d + 4) 140 374 [some (.ref 136), some (.int k), some (.int ((zf Z 35) - 1)), some (.int (zv Z 158 ((zf Z 35) - 1))), some (.int (-1)), some (.int (zf u9.2 50)), some (.int (bI u9.1)), some (.int (zf u9.2 52)), some (.int (zf u9.2 53))] [.int u26.1] u26.2 Q
              obtain ⟨hS, H⟩ := oq_ob H
              refine zw_run 2 (pc' := 376) (loc' := [some (.ref 136), some (.int k), some (.int ((zf Z 35) - 1)), some (.int (zv Z 158 ((zf Z 35) - 1))), some (.int (-1)), some (.int (zf u9.2 50)), some (.int (bI u9.1)), some (.int (zf u9.2 52)), some (.int (zf u9.2 53))]) (stk' := [.ref 136]) (fun _ _ _ => rfl) ?_
              refine zw_mget (v := .ref 162) rfl rfl ?_
              refine zw_run 1 (pc' := 380) (loc' := [some (.ref 136), some (.int k), some (.int ((zf Z 35) - 1)), some (.int (zv Z 158 ((zf Z 35) - 1))), some (.int (-1)), some (.int (zf u9.2 50)), some (.int (bI u9.1)), some (.int (zf u9.2 52)), some (.int (zf u9.2 53))]) (stk' := [.int ((zf Z 35) - 1), .ref 162]) (fun _ _ _ => rfl) ?_
              obtain ⟨b27, H⟩ := oq_ob H
              refine zw_bald (j := 162) rfl (by decide) (by decide) rfl b27 ?_
              refine zw_br (c := ¬ (zv u26.2 162 ((zf Z 35) - 1)) = 0) (t1 := 388) (t2 := 384) (loc' := [some (.ref 136), some (.int k), some (.int ((zf Z 35) - 1)), some (.int (zv Z 158 ((zf Z 35) - 1))), some (.int (-1)), some (.int (zf u9.2 50)), some (.int (bI u9.1)), some (.int (zf u9.2 52)), some (.int (zf u9.2 53))]) (stk' := []) (fun _ _ _ => rfl) (fun c28 => ?_) (fun c28 => ?_)
              · rw [if_pos c28] at H
                refine zw_run 1 (pc' := 390) (loc' := [some (.ref 136), some (.int k), some (.int ((zf Z 35) - 1)), some (.int (zv Z 158 ((zf Z 35) - 1))), some (.int (-1)), some (.int (zf u9.2 50)), some (.int (bI u9.1)), some (.int (zf u9.2 52)), some (.int (zf u9.2 53))]) (stk' := [.int (zf u9.2 50)]) (fun _ _ _ => rfl) ?_
                refine zw_reti (i := .nop) rfl rfl ?_
                have H := oq_some H
                exact H
              · rw [if_neg c28] at H
                refine zw_run 1 (pc' := 385) (loc' := [some (.ref 136), some (.int k), some (.int ((zf Z 35) - 1)), some (.int (zv Z 158 ((zf Z 35) - 1))), some (.int (-1)), some (.int (zf u9.2 50)), some (.int (bI u9.1)), some (.int (zf u9.2 52)), some (.int (zf u9.2 53))]) (stk' := [.ref 136]) (fun _ _ _ => rfl) ?_
                obtain ⟨u29, hu29, H⟩ := oq_bind H
                refine zw_callf (As := [.ref 136]) (rest := []) (c_138 hu hu29 (d := d + 3)) rfl rfl rfl rfl ?_
                show zw fm sx (d + 4) 140 388 [some (.ref 136), some (.int k), some (.int ((zf Z 35) - 1)), some (.int (zv Z 158 ((zf Z 35) - 1))), some (.int (-1)), some (.int (zf u9.2 50)), some (.int (bI u9.1)), some (.int (zf u9.2 52)), some (.int (zf u9.2 53))] [] u29 Q
                obtain ⟨hS, H⟩ := oq_ob H
                refine zw_run 1 (pc' := 390) (loc' := [some (.ref 136), some (.int k), some (.int ((zf Z 35) - 1)), some (.int (zv Z 158 ((zf Z 35) - 1))), some (.int (-1)), some (.int (zf u9.2 50)), some (.int (bI u9.1)), some (.int (zf u9.2 52)), some (.int (zf u9.2 53))]) (stk' := [.int (zf u9.2 50)]) (fun _ _ _ => rfl) ?_
                refine zw_reti (i := .nop) rfl rfl ?_
                have H := oq_some H
                exact H
            refine zw_br (c := (zv u12.2 162 ((zf Z 35) - 1)) = 0) (t1 := 354) (t2 := 349) (loc' := [some (.ref 136), some (.int k), some (.int ((zf Z 35) - 1)), some (.int (zv Z 158 ((zf Z 35) - 1))), some (.int (-1)), some (.int (zf u9.2 50)), some (.int (bI u9.1)), some (.int (zf u9.2 52)), some (.int (zf u9.2 53))]) (stk' := [.int (zv Z 158 ((zf Z 35) - 1)), .ref 143]) (fun _ _ _ => rfl) (fun c20 => ?_) (fun c20 => ?_)
            · skip
              refine zw_run 1 (pc' := 356) (loc' := [some (.ref 136), some (.int k), some (.int ((zf Z 35) - 1)), some (.int (zv Z 158 ((zf Z 35) - 1))), some (.int (-1)), some (.int (zf u9.2 50)), some (.int (bI u9.1)), some (.int (zf u9.2 52)), some (.int (zf u9.2 53))]) (stk' := [.int 6, .int (zv Z 158 ((zf Z 35) - 1)), .ref 143]) (fun _ _ _ => rfl) ?_
              exact J22 _ (by first | (rw [if_pos c20]; done) | (rw [if_pos c20]; rfl) | (clear H J22; simp_all [bI]; done))
            · skip
              refine zw_run 2 (pc' := 356) (loc' := [some (.ref 136), some (.int k), some (.int ((zf Z 35) - 1)), some (.int (zv Z 158 ((zf Z 35) - 1))), some (.int (-1)), some (.int (zf u9.2 50)), some (.int (bI u9.1)), some (.int (zf u9.2 52)), some (.int (zf u9.2 53))]) (stk' := [.int 7, .int (zv Z 158 ((zf Z 35) - 1)), .ref 143]) (fun _ _ _ => rfl) ?_
              exact J22 _ (by first | (rw [if_neg c20]; done) | (rw [if_neg c20]; rfl) | (clear H J22; simp_all [bI]; done))
          · rw [if_neg c17] at H
            refine zw_run 2 (pc' := 312) (loc' := [some (.ref 136), some (.int k), some (.int ((zf Z 35) - 1)), some (.int (zv Z 158 ((zf Z 35) - 1))), some (.int (-1)), some (.int (zf u9.2 50)), some (.int (bI u9.1)), some (.int (zf u9.2 52)), some (.int (zf u9.2 53))]) (stk' := [.int (-1), .int (-1)]) (fun _ _ _ => rfl) ?_
            refine zw_run 4 (pc' := 319) (loc' := [some (.ref 136), some (.int k), some (.int ((zf Z 35) - 1)), some (.int (zv Z 158 ((zf Z 35) - 1))), some (.int (-1)), some (.int (zf u9.2 50)), some (.int (bI u9.1)), some (.int (zf u9.2 52)), some (.int (zf u9.2 53))]) (stk' := [.int 93, .int 0, .ref 136]) (fun _ _ _ => rfl) ?_
            obtain ⟨u30, hu30, H⟩ := oq_bind H
            refine zw_callf (As := [.ref 136, .int 0, .int 93]) (rest := []) (c_127 hu 0 93 hu30 (d := d + 2)) rfl rfl rfl rfl ?_
            show zw fm sx (d + 4) 140 322 [some (.ref 136), some (.int k), some (.int ((zf Z 35) - 1)), some (.int (zv Z 158 ((zf Z 35) - 1))), some (.int (-1)), some (.int (zf u9.2 50)), some (.int (bI u9.1)), some (.int (zf u9.2 52)), some (.int (zf u9.2 53))] [.int u30.1] u30.2 Q
            obtain ⟨hS, H⟩ := oq_ob H
            refine zw_run 4 (pc' := 326) (loc' := [some (.ref 136), some (.int k), some (.int ((zf Z 35) - 1)), some (.int (zv Z 158 ((zf Z 35) - 1))), some (.int (-1)), some (.int (zf u9.2 50)), some (.int (bI u9.1)), some (.int (zf u9.2 52)), some (.int (zf u9.2 53))]) (stk' := [.int (k + 1)]) (fun _ _ _ => rfl) ?_
            refine zw_reti (i := .nop) rfl rfl ?_
            have H := oq_some H
            exact H
        · rw [if_neg c15] at H
          refine zw_run 2 (pc' := 166) (loc' := [some (.ref 136), some (.int k), some (.int ((zf Z 35) - 1)), some (.int (zv Z 158 ((zf Z 35) - 1))), some (.int (-1)), some (.int (zf u9.2 50)), some (.int (bI u9.1)), some (.int (zf u9.2 52)), some (.int (zf u9.2 53))]) (stk' := [.ref 136, .ref 136, .int (zv Z 158 ((zf Z 35) - 1)), .ref 148]) (fun _ _ _ => rfl) ?_
          refine zw_mget (v := .int (zf u12.2 54)) rfl rfl ?_
          refine zw_run 1 (pc' := 170) (loc' := [some (.ref 136), some (.int k), some (.int ((zf Z 35) - 1)), some (.int (zv Z 158 ((zf Z 35) - 1))), some (.int (-1)), some (.int (zf u9.2 50)), some (.int (bI u9.1)), some (.int (zf u9.2 52)), some (.int (zf u9.2 53))]) (stk' := [.ref 136, .int (zf u12.2 54), .ref 136, .int (zv Z 158 ((zf Z 35) - 1)), .ref 148]) (fun _ _ _ => rfl) ?_
          refine zw_mget (v := .int (zf u12.2 55)) rfl rfl ?_
          obtain ⟨u31, hu31, H⟩ := oq_bind H
          refine zw_callf (As := [.ref 136, .int (zf u12.2 54), .int (zf u12.2 55)]) (rest := [.int (zv Z 158 ((zf Z 35) - 1)), .ref 148]) (c_120 hu (zf u12.2 54) (zf u12.2 55) hu31 (d := d + 0)) rfl rfl rfl rfl ?_
          show zw fm sx (d + 4) 140 176 [some (.ref 136), some (.int k), some (.int ((zf Z 35) - 1)), some (.int (zv Z 158 ((zf Z 35) - 1))), some (.int (-1)), some (.int (zf u9.2 50)), some (.int (bI u9.1)), some (.int (zf u9.2 52)), some (.int (zf u9.2 53))] [.int u31.1, .int (zv Z 158 ((zf Z 35) - 1)), .ref 148] u31.2 Q
          obtain ⟨hS, H⟩ := oq_ob H
          refine zw_run 1 (pc' := 180) (loc' := [some (.ref 136), some (.int k), some (.int ((zf Z 35) - 1)), some (.int (zv Z 158 ((zf Z 35) - 1))), some (.int (-1)), some (.int (zf u9.2 50)), some (.int (bI u9.1)), some (.int (zf u9.2 52)), some (.int (zf u9.2 53))]) (stk' := [.int u31.1, .int (zv Z 158 ((zf Z 35) - 1)), .ref 148]) (fun _ _ _ => rfl) ?_
          obtain ⟨b32, H⟩ := oq_ob H
          refine zw_iast (j := 148) rfl (by decide) (by decide) rfl b32 ?_
          show zw fm sx (d + 4) 140 181 [some (.ref 136), some (.int k), some (.int ((zf Z 35) - 1)), some (.int (zv Z 158 ((zf Z 35) - 1))), some (.int (-1)), some (.int (zf u9.2 50)), some (.int (bI u9.1)), some (.int (zf u9.2 52)), some (.int (zf u9.2 53))] [] (zar u31.2 148 (zv Z 158 ((zf Z 35) - 1)) u31.1) Q
          refine zw_run 2 (pc' := 306) (loc' := [some (.ref 136), some (.int k), some (.int ((zf Z 35) - 1)), some (.int (zv Z 158 ((zf Z 35) - 1))), some (.int (-1)), some (.int (zf u9.2 50)), some (.int (bI u9.1)), some (.int (zf u9.2 52)), some (.int (zf u9.2 53))]) (stk' := [.int (bI u9.1)]) (fun _ _ _ => rfl) ?_
          refine zw_b1 (b := u9.1) (t1 := 327) (t2 := 309) (loc' := [some (.ref 136), some (.int k), some (.int ((zf Z 35) - 1)), some (.int (zv Z 158 ((zf Z 35) - 1))), some (.int (-1)), some (.int (zf u9.2 50)), some (.int (bI u9.1)), some (.int (zf u9.2 52)), some (.int (zf u9.2 53))]) (stk' := []) (fun _ _ _ => rfl) (fun c33 => ?_) (fun c33 => ?_)
          · rw [if_pos c33] at H
            refine zw_run 1 (pc' := 328) (loc' := [some (.ref 136), some (.int k), some (.int ((zf Z 35) - 1)), some (.int (zv Z 158 ((zf Z 35) - 1))), some (.int (-1)), some (.int (zf u9.2 50)), some (.int (bI u9.1)), some (.int (zf u9.2 52)), some (.int (zf u9.2 53))]) (stk' := [.ref 136]) (fun _ _ _ => rfl) ?_
            refine zw_mget (v := .ref 149) rfl rfl ?_
            refine zw_run 2 (pc' := 334) (loc' := [some (.ref 136), some (.int k), some (.int ((zf Z 35) - 1)), some (.int (zv Z 158 ((zf Z 35) - 1))), some (.int (-1)), some (.int (zf u9.2 50)), some (.int (bI u9.1)), some (.int (zf u9.2 52)), some (.int (zf u9.2 53))]) (stk' := [.int (-1), .int (zv Z 158 ((zf Z 35) - 1)), .ref 149]) (fun _ _ _ => rfl) ?_
            obtain ⟨b34, H⟩ := oq_ob H
            refine zw_iast (j := 149) rfl (by decide) (by decide) rfl b34 ?_
            show zw fm sx (d + 4) 140 335 [some (.ref 136), some (.int k), some (.int ((zf Z 35) - 1)), some (.int (zv Z 158 ((zf Z 35) - 1))), some (.int (-1)), some (.int (zf u9.2 50)), some (.int (bI u9.1)), some (.int (zf u9.2 52)), some (.int (zf u9.2 53))] [] (zar (zar u31.2 148 (zv Z 158 ((zf Z 35) - 1)) u31.1) 149 (zv Z 158 ((zf Z 35) - 1)) (-1)) Q
            refine zw_run 1 (pc' := 336) (loc' := [some (.ref 136), some (.int k), some (.int ((zf Z 35) - 1)), some (.int (zv Z 158 ((zf Z 35) - 1))), some (.int (-1)), some (.int (zf u9.2 50)), some (.int (bI u9.1)), some (.int (zf u9.2 52)), some (.int (zf u9.2 53))]) (stk' := [.ref 136]) (fun _ _ _ => rfl) ?_
            refine zw_mget (v := .ref 143) rfl rfl ?_
            refine zw_run 2 (pc' := 341) (loc' := [some (.ref 136), some (.int k), some (.int ((zf Z 35) - 1)), some (.int (zv Z 158 ((zf Z 35) - 1))), some (.int (-1)), some (.int (zf u9.2 50)), some (.int (bI u9.1)), some (.int (zf u9.2 52)), some (.int (zf u9.2 53))]) (stk' := [.ref 136, .int (zv Z 158 ((zf Z 35) - 1)), .ref 143]) (fun _ _ _ => rfl) ?_
            refine zw_mget (v := .ref 162) rfl rfl ?_
            refine zw_run 1 (pc' := 345) (loc' := [some (.ref 136), some (.int k), some (.int ((zf Z 35) - 1)), some (.int (zv Z 158 ((zf Z 35) - 1))), some (.int (-1)), some (.int (zf u9.2 50)), some (.int (bI u9.1)), some (.int (zf u9.2 52)), some (.int (zf u9.2 53))]) (stk' := [.int ((zf Z 35) - 1), .ref 162, .int (zv Z 158 ((zf Z 35) - 1)), .ref 143]) (fun _ _ _ => rfl) ?_
            obtain ⟨b35, H⟩ := oq_ob H
            refine zw_bald (j := 162) rfl (by decide) (by decide) rfl b35 ?_
            have J38 : ∀ (v37 : Int32), v37 = (if (zv u31.2 162 ((zf Z 35) - 1)) = 0 then 6 else 7 : Int32) → zw fm sx (d + 4) 140 356 [some (.ref 136), some (.int k), some (.int ((zf Z 35) - 1)), some (.int (zv Z 158 ((zf Z 35) - 1))), some (.int (-1)), some (.int (zf u9.2 50)), some (.int (bI u9.1)), some (.int (zf u9.2 52)), some (.int (zf u9.2 53))] [.int v37, .int (zv Z 158 ((zf Z 35) - 1)), .ref 143] (zar (zar u31.2 148 (zv Z 158 ((zf Z 35) - 1)) u31.1) 149 (zv Z 158 ((zf Z 35) - 1)) (-1)) Q := by
              intro v37 ev37
              subst ev37
              obtain ⟨b39, H⟩ := oq_ob H
              refine zw_iast (j := 143) rfl (by decide) (by decide) rfl b39 ?_
              show zw fm sx (d + 4) 140 357 [some (.ref 136), some (.int k), some (.int ((zf Z 35) - 1)), some (.int (zv Z 158 ((zf Z 35) - 1))), some (.int (-1)), some (.int (zf u9.2 50)), some (.int (bI u9.1)), some (.int (zf u9.2 52)), some (.int (zf u9.2 53))] [] (zar (zar (zar u31.2 148 (zv Z 158 ((zf Z 35) - 1)) u31.1) 149 (zv Z 158 ((zf Z 35) - 1)) (-1)) 143 (zv Z 158 ((zf Z 35) - 1)) (if (zv u31.2 162 ((zf Z 35) - 1)) = 0 then 6 else 7 : Int32)) Q
              refine zw_run 2 (pc' := 359) (loc' := [some (.ref 136), some (.int k), some (.int ((zf Z 35) - 1)), some (.int (zv Z 158 ((zf Z 35) - 1))), some (.int (-1)), some (.int (zf u9.2 50)), some (.int (bI u9.1)), some (.int (zf u9.2 52)), some (.int (zf u9.2 53))]) (stk' := [.ref 136, .ref 136]) (fun _ _ _ => rfl) ?_
              refine zw_mget (v := .ref 160) rfl rfl ?_
              refine zw_run 1 (pc' := 363) (loc' := [some (.ref 136), some (.int k), some (.int ((zf Z 35) - 1)), some (.int (zv Z 158 ((zf Z 35) - 1))), some (.int (-1)), some (.int (zf u9.2 50)), some (.int (bI u9.1)), some (.int (zf u9.2 52)), some (.int (zf u9.2 53))]) (stk' := [.int ((zf Z 35) - 1), .ref 160, .ref 136]) (fun _ _ _ => rfl) ?_
              obtain ⟨b40, H⟩ := oq_ob H
              refine zw_iald (j := 160) rfl (by decide) (by decide) rfl b40 ?_
              obtain ⟨u41, hu41, H⟩ := oq_bind H
              refine zw_callf (As := [.ref 136, .int (zv u31.2 160 ((zf Z 35) - 1))]) (rest := []) (c_134 hu (zv u31.2 160 ((zf Z 35) - 1)) hu41 (d := d + 0)) rfl rfl rfl rfl ?_
              show zw fm sx (d + 4) 140 367 [some (.ref 136), some (.int k), some (.int ((zf Z 35) - 1)), some (.int (zv Z 158 ((zf Z 35) - 1))), some (.int (-1)), some (.int (zf u9.2 50)), some (.int (bI u9.1)), some (.int (zf u9.2 52)), some (.int (zf u9.2 53))] [] u41 Q
              obtain ⟨hS, H⟩ := oq_ob H
              refine zw_run 3 (pc' := 371) (loc' := [some (.ref 136), some (.int k), some (.int ((zf Z 35) - 1)), some (.int (zv Z 158 ((zf Z 35) - 1))), some (.int (-1)), some (.int (zf u9.2 50)), some (.int (bI u9.1)), some (.int (zf u9.2 52)), some (.int (zf u9.2 53))]) (stk' := [.int 0, .int 12, .ref 136]) (fun _ _ _ => rfl) ?_
              obtain ⟨u42, hu42, H⟩ := oq_bind H
              refine zw_callf (As := [.ref 136, .int 12, .int 0]) (rest := []) (c_127 hu 12 0 hu42 (d := d + 2)) rfl rfl rfl rfl ?_
              show zw fm sx (d + 4) 140 374 [some (.ref 136), some (.int k), some (.int ((zf Z 35) - 1)), some (.int (zv Z 158 ((zf Z 35) - 1))), some (.int (-1)), some (.int (zf u9.2 50)), some (.int (bI u9.1)), some (.int (zf u9.2 52)), some (.int (zf u9.2 53))] [.int u42.1] u42.2 Q
              obtain ⟨hS, H⟩ := oq_ob H
              refine zw_run 2 (pc' := 376) (loc' := [some (.ref 136), some (.int k), some (.int ((zf Z 35) - 1)), some (.int (zv Z 158 ((zf Z 35) - 1))), some (.int (-1)), some (.int (zf u9.2 50)), some (.int (bI u9.1)), some (.int (zf u9.2 52)), some (.int (zf u9.2 53))]) (stk' := [.ref 136]) (fun _ _ _ => rfl) ?_
              refine zw_mget (v := .ref 162) rfl rfl ?_
              refine zw_run 1 (pc' := 380) (loc' := [some (.ref 136), some (.int k), some (.int ((zf Z 35) - 1)), some (.int (zv Z 158 ((zf Z 35) - 1))), some (.int (-1)), some (.int (zf u9.2 50)), some (.int (bI u9.1)), some (.int (zf u9.2 52)), some (.int (zf u9.2 53))]) (stk' := [.int ((zf Z 35) - 1), .ref 162]) (fun _ _ _ => rfl) ?_
              obtain ⟨b43, H⟩ := oq_ob H
              refine zw_bald (j := 162) rfl (by decide) (by decide) rfl b43 ?_
              refine zw_br (c := ¬ (zv u42.2 162 ((zf Z 35) - 1)) = 0) (t1 := 388) (t2 := 384) (loc' := [some (.ref 136), some (.int k), some (.int ((zf Z 35) - 1)), some (.int (zv Z 158 ((zf Z 35) - 1))), some (.int (-1)), some (.int (zf u9.2 50)), some (.int (bI u9.1)), some (.int (zf u9.2 52)), some (.int (zf u9.2 53))]) (stk' := []) (fun _ _ _ => rfl) (fun c44 => ?_) (fun c44 => ?_)
              · rw [if_pos c44] at H
                refine zw_run 1 (pc' := 390) (loc' := [some (.ref 136), some (.int k), some (.int ((zf Z 35) - 1)), some (.int (zv Z 158 ((zf Z 35) - 1))), some (.int (-1)), some (.int (zf u9.2 50)), some (.int (bI u9.1)), some (.int (zf u9.2 52)), some (.int (zf u9.2 53))]) (stk' := [.int (zf u9.2 50)]) (fun _ _ _ => rfl) ?_
                refine zw_reti (i := .nop) rfl rfl ?_
                have H := oq_some H
                exact H
              · rw [if_neg c44] at H
                refine zw_run 1 (pc' := 385) (loc' := [some (.ref 136), some (.int k), some (.int ((zf Z 35) - 1)), some (.int (zv Z 158 ((zf Z 35) - 1))), some (.int (-1)), some (.int (zf u9.2 50)), some (.int (bI u9.1)), some (.int (zf u9.2 52)), some (.int (zf u9.2 53))]) (stk' := [.ref 136]) (fun _ _ _ => rfl) ?_
                obtain ⟨u45, hu45, H⟩ := oq_bind H
                refine zw_callf (As := [.ref 136]) (rest := []) (c_138 hu hu45 (d := d + 3)) rfl rfl rfl rfl ?_
                show zw fm sx (d + 4) 140 388 [some (.ref 136), some (.int k), some (.int ((zf Z 35) - 1)), some (.int (zv Z 158 ((zf Z 35) - 1))), some (.int (-1)), some (.int (zf u9.2 50)), some (.int (bI u9.1)), some (.int (zf u9.2 52)), some (.int (zf u9.2 53))] [] u45 Q
                obtain ⟨hS, H⟩ := oq_ob H
                refine zw_run 1 (pc' := 390) (loc' := [some (.ref 136), some (.int k), some (.int ((zf Z 35) - 1)), some (.int (zv Z 158 ((zf Z 35) - 1))), some (.int (-1)), some (.int (zf u9.2 50)), some (.int (bI u9.1)), some (.int (zf u9.2 52)), some (.int (zf u9.2 53))]) (stk' := [.int (zf u9.2 50)]) (fun _ _ _ => rfl) ?_
                refine zw_reti (i := .nop) rfl rfl ?_
                have H := oq_some H
                exact H
            refine zw_br (c := (zv u31.2 162 ((zf Z 35) - 1)) = 0) (t1 := 354) (t2 := 349) (loc' := [some (.ref 136), some (.int k), some (.int ((zf Z 35) - 1)), some (.int (zv Z 158 ((zf Z 35) - 1))), some (.int (-1)), some (.int (zf u9.2 50)), some (.int (bI u9.1)), some (.int (zf u9.2 52)), some (.int (zf u9.2 53))]) (stk' := [.int (zv Z 158 ((zf Z 35) - 1)), .ref 143]) (fun _ _ _ => rfl) (fun c36 => ?_) (fun c36 => ?_)
            · skip
              refine zw_run 1 (pc' := 356) (loc' := [some (.ref 136), some (.int k), some (.int ((zf Z 35) - 1)), some (.int (zv Z 158 ((zf Z 35) - 1))), some (.int (-1)), some (.int (zf u9.2 50)), some (.int (bI u9.1)), some (.int (zf u9.2 52)), some (.int (zf u9.2 53))]) (stk' := [.int 6, .int (zv Z 158 ((zf Z 35) - 1)), .ref 143]) (fun _ _ _ => rfl) ?_
              exact J38 _ (by first | (rw [if_pos c36]; done) | (rw [if_pos c36]; rfl) | (clear H J38; simp_all [bI]; done))
            · skip
              refine zw_run 2 (pc' := 356) (loc' := [some (.ref 136), some (.int k), some (.int ((zf Z 35) - 1)), some (.int (zv Z 158 ((zf Z 35) - 1))), some (.int (-1)), some (.int (zf u9.2 50)), some (.int (bI u9.1)), some (.int (zf u9.2 52)), some (.int (zf u9.2 53))]) (stk' := [.int 7, .int (zv Z 158 ((zf Z 35) - 1)), .ref 143]) (fun _ _ _ => rfl) ?_
              exact J38 _ (by first | (rw [if_neg c36]; done) | (rw [if_neg c36]; rfl) | (clear H J38; simp_all [bI]; done))
          · rw [if_neg c33] at H
            refine zw_run 2 (pc' := 312) (loc' := [some (.ref 136), some (.int k), some (.int ((zf Z 35) - 1)), some (.int (zv Z 158 ((zf Z 35) - 1))), some (.int (-1)), some (.int (zf u9.2 50)), some (.int (bI u9.1)), some (.int (zf u9.2 52)), some (.int (zf u9.2 53))]) (stk' := [.int (-1), .int (-1)]) (fun _ _ _ => rfl) ?_
            refine zw_run 4 (pc' := 319) (loc' := [some (.ref 136), some (.int k), some (.int ((zf Z 35) - 1)), some (.int (zv Z 158 ((zf Z 35) - 1))), some (.int (-1)), some (.int (zf u9.2 50)), some (.int (bI u9.1)), some (.int (zf u9.2 52)), some (.int (zf u9.2 53))]) (stk' := [.int 93, .int 0, .ref 136]) (fun _ _ _ => rfl) ?_
            obtain ⟨u46, hu46, H⟩ := oq_bind H
            refine zw_callf (As := [.ref 136, .int 0, .int 93]) (rest := []) (c_127 hu 0 93 hu46 (d := d + 2)) rfl rfl rfl rfl ?_
            show zw fm sx (d + 4) 140 322 [some (.ref 136), some (.int k), some (.int ((zf Z 35) - 1)), some (.int (zv Z 158 ((zf Z 35) - 1))), some (.int (-1)), some (.int (zf u9.2 50)), some (.int (bI u9.1)), some (.int (zf u9.2 52)), some (.int (zf u9.2 53))] [.int u46.1] u46.2 Q
            obtain ⟨hS, H⟩ := oq_ob H
            refine zw_run 4 (pc' := 326) (loc' := [some (.ref 136), some (.int k), some (.int ((zf Z 35) - 1)), some (.int (zv Z 158 ((zf Z 35) - 1))), some (.int (-1)), some (.int (zf u9.2 50)), some (.int (bI u9.1)), some (.int (zf u9.2 52)), some (.int (zf u9.2 53))]) (stk' := [.int (k + 1)]) (fun _ _ _ => rfl) ?_
            refine zw_reti (i := .nop) rfl rfl ?_
            have H := oq_some H
            exact H
      · rw [if_neg c10] at H
        refine zw_run 4 (pc' := 188) (loc' := [some (.ref 136), some (.int k), some (.int ((zf Z 35) - 1)), some (.int (zv Z 158 ((zf Z 35) - 1))), some (.int (-1)), some (.int (k + 1)), some (.int (bI u9.1)), none, none]) (stk' := [.int (k + 1), .ref 136]) (fun _ _ _ => rfl) ?_
        obtain ⟨u47, hu47, H⟩ := oq_bind H
        refine zw_callf (As := [.ref 136, .int (k + 1)]) (rest := []) (c_116 hu (k + 1) hu47 (d := d + 1)) rfl rfl rfl rfl ?_
        show zw fm sx (d + 4) 140 191 [some (.ref 136), some (.int k), some (.int ((zf Z 35) - 1)), some (.int (zv Z 158 ((zf Z 35) - 1))), some (.int (-1)), some (.int (k + 1)), some (.int (bI u9.1)), none, none] [.int (bI u47.1)] u47.2 Q
        obtain ⟨hS, H⟩ := oq_ob H
        refine zw_b0 (b := u47.1) (t1 := 194) (t2 := 225) (loc' := [some (.ref 136), some (.int k), some (.int ((zf Z 35) - 1)), some (.int (zv Z 158 ((zf Z 35) - 1))), some (.int (-1)), some (.int (k + 1)), some (.int (bI u9.1)), none, none]) (stk' := []) (fun _ _ _ => rfl) (fun c48 => ?_) (fun c48 => ?_)
        · rw [if_pos c48] at H
          refine zw_run 1 (pc' := 195) (loc' := [some (.ref 136), some (.int k), some (.int ((zf Z 35) - 1)), some (.int (zv Z 158 ((zf Z 35) - 1))), some (.int (-1)), some (.int (k + 1)), some (.int (bI u9.1)), none, none]) (stk' := [.ref 136]) (fun _ _ _ => rfl) ?_
          refine zw_mget (v := .int (zf u47.2 50)) rfl rfl ?_
          refine zw_run 3 (pc' := 202) (loc' := [some (.ref 136), some (.int k), some (.int ((zf Z 35) - 1)), some (.int (zv Z 158 ((zf Z 35) - 1))), some (.int (-1)), some (.int (k + 1)), some (.int (bI u9.1)), some (.int (zf u47.2 50)), none]) (stk' := [.ref 136, .ref 136]) (fun _ _ _ => rfl) ?_
          refine zw_mget (v := .int (zf u47.2 52)) rfl rfl ?_
          refine zw_run 1 (pc' := 206) (loc' := [some (.ref 136), some (.int k), some (.int ((zf Z 35) - 1)), some (.int (zv Z 158 ((zf Z 35) - 1))), some (.int (-1)), some (.int (k + 1)), some (.int (bI u9.1)), some (.int (zf u47.2 50)), none]) (stk' := [.ref 136, .int (zf u47.2 52), .ref 136]) (fun _ _ _ => rfl) ?_
          refine zw_mget (v := .int (zf u47.2 53)) rfl rfl ?_
          obtain ⟨u49, hu49, H⟩ := oq_bind H
          refine zw_callf (As := [.ref 136, .int (zf u47.2 52), .int (zf u47.2 53)]) (rest := []) (c_123 hu (zf u47.2 52) (zf u47.2 53) hu49 (d := d + 2)) rfl rfl rfl rfl ?_
          show zw fm sx (d + 4) 140 212 [some (.ref 136), some (.int k), some (.int ((zf Z 35) - 1)), some (.int (zv Z 158 ((zf Z 35) - 1))), some (.int (-1)), some (.int (k + 1)), some (.int (bI u9.1)), some (.int (zf u47.2 50)), none] [] u49 Q
          obtain ⟨hS, H⟩ := oq_ob H
          refine zw_run 1 (pc' := 213) (loc' := [some (.ref 136), some (.int k), some (.int ((zf Z 35) - 1)), some (.int (zv Z 158 ((zf Z 35) - 1))), some (.int (-1)), some (.int (k + 1)), some (.int (bI u9.1)), some (.int (zf u47.2 50)), none]) (stk' := [.ref 136]) (fun _ _ _ => rfl) ?_
          obtain ⟨u50, hu50, H⟩ := oq_bind H
          refine zw_callf (As := [.ref 136]) (rest := []) (c_124 hu hu50 (d := d + 3)) rfl rfl rfl rfl ?_
          show zw fm sx (d + 4) 140 216 [some (.ref 136), some (.int k), some (.int ((zf Z 35) - 1)), some (.int (zv Z 158 ((zf Z 35) - 1))), some (.int (-1)), some (.int (k + 1)), some (.int (bI u9.1)), some (.int (zf u47.2 50)), none] [.int u50] u49 Q
          refine zw_run 5 (pc' := 306) (loc' := [some (.ref 136), some (.int k), some (.int ((zf Z 35) - 1)), some (.int (zv Z 158 ((zf Z 35) - 1))), some (.int u50), some (.int (zf u47.2 50)), some (.int (bI u9.1)), some (.int (zf u47.2 50)), none]) (stk' := [.int (bI u9.1)]) (fun _ _ _ => rfl) ?_
          refine zw_b1 (b := u9.1) (t1 := 327) (t2 := 309) (loc' := [some (.ref 136), some (.int k), some (.int ((zf Z 35) - 1)), some (.int (zv Z 158 ((zf Z 35) - 1))), some (.int u50), some (.int (zf u47.2 50)), some (.int (bI u9.1)), some (.int (zf u47.2 50)), none]) (stk' := []) (fun _ _ _ => rfl) (fun c51 => ?_) (fun c51 => ?_)
          · rw [if_pos c51] at H
            refine zw_run 1 (pc' := 328) (loc' := [some (.ref 136), some (.int k), some (.int ((zf Z 35) - 1)), some (.int (zv Z 158 ((zf Z 35) - 1))), some (.int u50), some (.int (zf u47.2 50)), some (.int (bI u9.1)), some (.int (zf u47.2 50)), none]) (stk' := [.ref 136]) (fun _ _ _ => rfl) ?_
            refine zw_mget (v := .ref 149) rfl rfl ?_
            refine zw_run 2 (pc' := 334) (loc' := [some (.ref 136), some (.int k), some (.int ((zf Z 35) - 1)), some (.int (zv Z 158 ((zf Z 35) - 1))), some (.int u50), some (.int (zf u47.2 50)), some (.int (bI u9.1)), some (.int (zf u47.2 50)), none]) (stk' := [.int u50, .int (zv Z 158 ((zf Z 35) - 1)), .ref 149]) (fun _ _ _ => rfl) ?_
            obtain ⟨b52, H⟩ := oq_ob H
            refine zw_iast (j := 149) rfl (by decide) (by decide) rfl b52 ?_
            show zw fm sx (d + 4) 140 335 [some (.ref 136), some (.int k), some (.int ((zf Z 35) - 1)), some (.int (zv Z 158 ((zf Z 35) - 1))), some (.int u50), some (.int (zf u47.2 50)), some (.int (bI u9.1)), some (.int (zf u47.2 50)), none] [] (zar u49 149 (zv Z 158 ((zf Z 35) - 1)) u50) Q
            refine zw_run 1 (pc' := 336) (loc' := [some (.ref 136), some (.int k), some (.int ((zf Z 35) - 1)), some (.int (zv Z 158 ((zf Z 35) - 1))), some (.int u50), some (.int (zf u47.2 50)), some (.int (bI u9.1)), some (.int (zf u47.2 50)), none]) (stk' := [.ref 136]) (fun _ _ _ => rfl) ?_
            refine zw_mget (v := .ref 143) rfl rfl ?_
            refine zw_run 2 (pc' := 341) (loc' := [some (.ref 136), some (.int k), some (.int ((zf Z 35) - 1)), some (.int (zv Z 158 ((zf Z 35) - 1))), some (.int u50), some (.int (zf u47.2 50)), some (.int (bI u9.1)), some (.int (zf u47.2 50)), none]) (stk' := [.ref 136, .int (zv Z 158 ((zf Z 35) - 1)), .ref 143]) (fun _ _ _ => rfl) ?_
            refine zw_mget (v := .ref 162) rfl rfl ?_
            refine zw_run 1 (pc' := 345) (loc' := [some (.ref 136), some (.int k), some (.int ((zf Z 35) - 1)), some (.int (zv Z 158 ((zf Z 35) - 1))), some (.int u50), some (.int (zf u47.2 50)), some (.int (bI u9.1)), some (.int (zf u47.2 50)), none]) (stk' := [.int ((zf Z 35) - 1), .ref 162, .int (zv Z 158 ((zf Z 35) - 1)), .ref 143]) (fun _ _ _ => rfl) ?_
            obtain ⟨b53, H⟩ := oq_ob H
            refine zw_bald (j := 162) rfl (by decide) (by decide) rfl b53 ?_
            have J56 : ∀ (v55 : Int32), v55 = (if (zv u49 162 ((zf Z 35) - 1)) = 0 then 6 else 7 : Int32) → zw fm sx (d + 4) 140 356 [some (.ref 136), some (.int k), some (.int ((zf Z 35) - 1)), some (.int (zv Z 158 ((zf Z 35) - 1))), some (.int u50), some (.int (zf u47.2 50)), some (.int (bI u9.1)), some (.int (zf u47.2 50)), none] [.int v55, .int (zv Z 158 ((zf Z 35) - 1)), .ref 143] (zar u49 149 (zv Z 158 ((zf Z 35) - 1)) u50) Q := by
              intro v55 ev55
              subst ev55
              obtain ⟨b57, H⟩ := oq_ob H
              refine zw_iast (j := 143) rfl (by decide) (by decide) rfl b57 ?_
              show zw fm sx (d + 4) 140 357 [some (.ref 136), some (.int k), some (.int ((zf Z 35) - 1)), some (.int (zv Z 158 ((zf Z 35) - 1))), some (.int u50), some (.int (zf u47.2 50)), some (.int (bI u9.1)), some (.int (zf u47.2 50)), none] [] (zar (zar u49 149 (zv Z 158 ((zf Z 35) - 1)) u50) 143 (zv Z 158 ((zf Z 35) - 1)) (if (zv u49 162 ((zf Z 35) - 1)) = 0 then 6 else 7 : Int32)) Q
              refine zw_run 2 (pc' := 359) (loc' := [some (.ref 136), some (.int k), some (.int ((zf Z 35) - 1)), some (.int (zv Z 158 ((zf Z 35) - 1))), some (.int u50), some (.int (zf u47.2 50)), some (.int (bI u9.1)), some (.int (zf u47.2 50)), none]) (stk' := [.ref 136, .ref 136]) (fun _ _ _ => rfl) ?_
              refine zw_mget (v := .ref 160) rfl rfl ?_
              refine zw_run 1 (pc' := 363) (loc' := [some (.ref 136), some (.int k), some (.int ((zf Z 35) - 1)), some (.int (zv Z 158 ((zf Z 35) - 1))), some (.int u50), some (.int (zf u47.2 50)), some (.int (bI u9.1)), some (.int (zf u47.2 50)), none]) (stk' := [.int ((zf Z 35) - 1), .ref 160, .ref 136]) (fun _ _ _ => rfl) ?_
              obtain ⟨b58, H⟩ := oq_ob H
              refine zw_iald (j := 160) rfl (by decide) (by decide) rfl b58 ?_
              obtain ⟨u59, hu59, H⟩ := oq_bind H
              refine zw_callf (As := [.ref 136, .int (zv u49 160 ((zf Z 35) - 1))]) (rest := []) (c_134 hu (zv u49 160 ((zf Z 35) - 1)) hu59 (d := d + 0)) rfl rfl rfl rfl ?_
              show zw fm sx (d + 4) 140 367 [some (.ref 136), some (.int k), some (.int ((zf Z 35) - 1)), some (.int (zv Z 158 ((zf Z 35) - 1))), some (.int u50), some (.int (zf u47.2 50)), some (.int (bI u9.1)), some (.int (zf u47.2 50)), none] [] u59 Q
              obtain ⟨hS, H⟩ := oq_ob H
              refine zw_run 3 (pc' := 371) (loc' := [some (.ref 136), some (.int k), some (.int ((zf Z 35) - 1)), some (.int (zv Z 158 ((zf Z 35) - 1))), some (.int u50), some (.int (zf u47.2 50)), some (.int (bI u9.1)), some (.int (zf u47.2 50)), none]) (stk' := [.int 0, .int 12, .ref 136]) (fun _ _ _ => rfl) ?_
              obtain ⟨u60, hu60, H⟩ := oq_bind H
              refine zw_callf (As := [.ref 136, .int 12, .int 0]) (rest := []) (c_127 hu 12 0 hu60 (d := d + 2)) rfl rfl rfl rfl ?_
              show zw fm sx (d + 4) 140 374 [some (.ref 136), some (.int k), some (.int ((zf Z 35) - 1)), some (.int (zv Z 158 ((zf Z 35) - 1))), some (.int u50), some (.int (zf u47.2 50)), some (.int (bI u9.1)), some (.int (zf u47.2 50)), none] [.int u60.1] u60.2 Q
              obtain ⟨hS, H⟩ := oq_ob H
              refine zw_run 2 (pc' := 376) (loc' := [some (.ref 136), some (.int k), some (.int ((zf Z 35) - 1)), some (.int (zv Z 158 ((zf Z 35) - 1))), some (.int u50), some (.int (zf u47.2 50)), some (.int (bI u9.1)), some (.int (zf u47.2 50)), none]) (stk' := [.ref 136]) (fun _ _ _ => rfl) ?_
              refine zw_mget (v := .ref 162) rfl rfl ?_
              refine zw_run 1 (pc' := 380) (loc' := [some (.ref 136), some (.int k), some (.int ((zf Z 35) - 1)), some (.int (zv Z 158 ((zf Z 35) - 1))), some (.int u50), some (.int (zf u47.2 50)), some (.int (bI u9.1)), some (.int (zf u47.2 50)), none]) (stk' := [.int ((zf Z 35) - 1), .ref 162]) (fun _ _ _ => rfl) ?_
              obtain ⟨b61, H⟩ := oq_ob H
              refine zw_bald (j := 162) rfl (by decide) (by decide) rfl b61 ?_
              refine zw_br (c := ¬ (zv u60.2 162 ((zf Z 35) - 1)) = 0) (t1 := 388) (t2 := 384) (loc' := [some (.ref 136), some (.int k), some (.int ((zf Z 35) - 1)), some (.int (zv Z 158 ((zf Z 35) - 1))), some (.int u50), some (.int (zf u47.2 50)), some (.int (bI u9.1)), some (.int (zf u47.2 50)), none]) (stk' := []) (fun _ _ _ => rfl) (fun c62 => ?_) (fun c62 => ?_)
              · rw [if_pos c62] at H
                refine zw_run 1 (pc' := 390) (loc' := [some (.ref 136), some (.int k), some (.int ((zf Z 35) - 1)), some (.int (zv Z 158 ((zf Z 35) - 1))), some (.int u50), some (.int (zf u47.2 50)), some (.int (bI u9.1)), some (.int (zf u47.2 50)), none]) (stk' := [.int (zf u47.2 50)]) (fun _ _ _ => rfl) ?_
                refine zw_reti (i := .nop) rfl rfl ?_
                have H := oq_some H
                exact H
              · rw [if_neg c62] at H
                refine zw_run 1 (pc' := 385) (loc' := [some (.ref 136), some (.int k), some (.int ((zf Z 35) - 1)), some (.int (zv Z 158 ((zf Z 35) - 1))), some (.int u50), some (.int (zf u47.2 50)), some (.int (bI u9.1)), some (.int (zf u47.2 50)), none]) (stk' := [.ref 136]) (fun _ _ _ => rfl) ?_
                obtain ⟨u63, hu63, H⟩ := oq_bind H
                refine zw_callf (As := [.ref 136]) (rest := []) (c_138 hu hu63 (d := d + 3)) rfl rfl rfl rfl ?_
                show zw fm sx (d + 4) 140 388 [some (.ref 136), some (.int k), some (.int ((zf Z 35) - 1)), some (.int (zv Z 158 ((zf Z 35) - 1))), some (.int u50), some (.int (zf u47.2 50)), some (.int (bI u9.1)), some (.int (zf u47.2 50)), none] [] u63 Q
                obtain ⟨hS, H⟩ := oq_ob H
                refine zw_run 1 (pc' := 390) (loc' := [some (.ref 136), some (.int k), some (.int ((zf Z 35) - 1)), some (.int (zv Z 158 ((zf Z 35) - 1))), some (.int u50), some (.int (zf u47.2 50)), some (.int (bI u9.1)), some (.int (zf u47.2 50)), none]) (stk' := [.int (zf u47.2 50)]) (fun _ _ _ => rfl) ?_
                refine zw_reti (i := .nop) rfl rfl ?_
                have H := oq_some H
                exact H
            refine zw_br (c := (zv u49 162 ((zf Z 35) - 1)) = 0) (t1 := 354) (t2 := 349) (loc' := [some (.ref 136), some (.int k), some (.int ((zf Z 35) - 1)), some (.int (zv Z 158 ((zf Z 35) - 1))), some (.int u50), some (.int (zf u47.2 50)), some (.int (bI u9.1)), some (.int (zf u47.2 50)), none]) (stk' := [.int (zv Z 158 ((zf Z 35) - 1)), .ref 143]) (fun _ _ _ => rfl) (fun c54 => ?_) (fun c54 => ?_)
            · skip
              refine zw_run 1 (pc' := 356) (loc' := [some (.ref 136), some (.int k), some (.int ((zf Z 35) - 1)), some (.int (zv Z 158 ((zf Z 35) - 1))), some (.int u50), some (.int (zf u47.2 50)), some (.int (bI u9.1)), some (.int (zf u47.2 50)), none]) (stk' := [.int 6, .int (zv Z 158 ((zf Z 35) - 1)), .ref 143]) (fun _ _ _ => rfl) ?_
              exact J56 _ (by first | (rw [if_pos c54]; done) | (rw [if_pos c54]; rfl) | (clear H J56; simp_all [bI]; done))
            · skip
              refine zw_run 2 (pc' := 356) (loc' := [some (.ref 136), some (.int k), some (.int ((zf Z 35) - 1)), some (.int (zv Z 158 ((zf Z 35) - 1))), some (.int u50), some (.int (zf u47.2 50)), some (.int (bI u9.1)), some (.int (zf u47.2 50)), none]) (stk' := [.int 7, .int (zv Z 158 ((zf Z 35) - 1)), .ref 143]) (fun _ _ _ => rfl) ?_
              exact J56 _ (by first | (rw [if_neg c54]; done) | (rw [if_neg c54]; rfl) | (clear H J56; simp_all [bI]; done))
          · rw [if_neg c51] at H
            refine zw_run 2 (pc' := 312) (loc' := [some (.ref 136), some (.int k), some (.int ((zf Z 35) - 1)), some (.int (zv Z 158 ((zf Z 35) - 1))), some (.int u50), some (.int (zf u47.2 50)), some (.int (bI u9.1)), some (.int (zf u47.2 50)), none]) (stk' := [.int (-1), .int u50]) (fun _ _ _ => rfl) ?_
            refine zw_br (c := ¬ u50 = (-1)) (t1 := 327) (t2 := 315) (loc' := [some (.ref 136), some (.int k), some (.int ((zf Z 35) - 1)), some (.int (zv Z 158 ((zf Z 35) - 1))), some (.int u50), some (.int (zf u47.2 50)), some (.int (bI u9.1)), some (.int (zf u47.2 50)), none]) (stk' := []) (fun _ _ _ => rfl) (fun c64 => ?_) (fun c64 => ?_)
            · rw [if_pos c64] at H
              refine zw_run 1 (pc' := 328) (loc' := [some (.ref 136), some (.int k), some (.int ((zf Z 35) - 1)), some (.int (zv Z 158 ((zf Z 35) - 1))), some (.int u50), some (.int (zf u47.2 50)), some (.int (bI u9.1)), some (.int (zf u47.2 50)), none]) (stk' := [.ref 136]) (fun _ _ _ => rfl) ?_
              refine zw_mget (v := .ref 149) rfl rfl ?_
              refine zw_run 2 (pc' := 334) (loc' := [some (.ref 136), some (.int k), some (.int ((zf Z 35) - 1)), some (.int (zv Z 158 ((zf Z 35) - 1))), some (.int u50), some (.int (zf u47.2 50)), some (.int (bI u9.1)), some (.int (zf u47.2 50)), none]) (stk' := [.int u50, .int (zv Z 158 ((zf Z 35) - 1)), .ref 149]) (fun _ _ _ => rfl) ?_
              obtain ⟨b65, H⟩ := oq_ob H
              refine zw_iast (j := 149) rfl (by decide) (by decide) rfl b65 ?_
              show zw fm sx (d + 4) 140 335 [some (.ref 136), some (.int k), some (.int ((zf Z 35) - 1)), some (.int (zv Z 158 ((zf Z 35) - 1))), some (.int u50), some (.int (zf u47.2 50)), some (.int (bI u9.1)), some (.int (zf u47.2 50)), none] [] (zar u49 149 (zv Z 158 ((zf Z 35) - 1)) u50) Q
              refine zw_run 1 (pc' := 336) (loc' := [some (.ref 136), some (.int k), some (.int ((zf Z 35) - 1)), some (.int (zv Z 158 ((zf Z 35) - 1))), some (.int u50), some (.int (zf u47.2 50)), some (.int (bI u9.1)), some (.int (zf u47.2 50)), none]) (stk' := [.ref 136]) (fun _ _ _ => rfl) ?_
              refine zw_mget (v := .ref 143) rfl rfl ?_
              refine zw_run 2 (pc' := 341) (loc' := [some (.ref 136), some (.int k), some (.int ((zf Z 35) - 1)), some (.int (zv Z 158 ((zf Z 35) - 1))), some (.int u50), some (.int (zf u47.2 50)), some (.int (bI u9.1)), some (.int (zf u47.2 50)), none]) (stk' := [.ref 136, .int (zv Z 158 ((zf Z 35) - 1)), .ref 143]) (fun _ _ _ => rfl) ?_
              refine zw_mget (v := .ref 162) rfl rfl ?_
              refine zw_run 1 (pc' := 345) (loc' := [some (.ref 136), some (.int k), some (.int ((zf Z 35) - 1)), some (.int (zv Z 158 ((zf Z 35) - 1))), some (.int u50), some (.int (zf u47.2 50)), some (.int (bI u9.1)), some (.int (zf u47.2 50)), none]) (stk' := [.int ((zf Z 35) - 1), .ref 162, .int (zv Z 158 ((zf Z 35) - 1)), .ref 143]) (fun _ _ _ => rfl) ?_
              obtain ⟨b66, H⟩ := oq_ob H
              refine zw_bald (j := 162) rfl (by decide) (by decide) rfl b66 ?_
              have J69 : ∀ (v68 : Int32), v68 = (if (zv u49 162 ((zf Z 35) - 1)) = 0 then 6 else 7 : Int32) → zw fm sx (d + 4) 140 356 [some (.ref 136), some (.int k), some (.int ((zf Z 35) - 1)), some (.int (zv Z 158 ((zf Z 35) - 1))), some (.int u50), some (.int (zf u47.2 50)), some (.int (bI u9.1)), some (.int (zf u47.2 50)), none] [.int v68, .int (zv Z 158 ((zf Z 35) - 1)), .ref 143] (zar u49 149 (zv Z 158 ((zf Z 35) - 1)) u50) Q := by
                intro v68 ev68
                subst ev68
                obtain ⟨b70, H⟩ := oq_ob H
                refine zw_iast (j := 143) rfl (by decide) (by decide) rfl b70 ?_
                show zw fm sx (d + 4) 140 357 [some (.ref 136), some (.int k), some (.int ((zf Z 35) - 1)), some (.int (zv Z 158 ((zf Z 35) - 1))), some (.int u50), some (.int (zf u47.2 50)), some (.int (bI u9.1)), some (.int (zf u47.2 50)), none] [] (zar (zar u49 149 (zv Z 158 ((zf Z 35) - 1)) u50) 143 (zv Z 158 ((zf Z 35) - 1)) (if (zv u49 162 ((zf Z 35) - 1)) = 0 then 6 else 7 : Int32)) Q
                refine zw_run 2 (pc' := 359) (loc' := [some (.ref 136), some (.int k), some (.int ((zf Z 35) - 1)), some (.int (zv Z 158 ((zf Z 35) - 1))), some (.int u50), some (.int (zf u47.2 50)), some (.int (bI u9.1)), some (.int (zf u47.2 50)), none]) (stk' := [.ref 136, .ref 136]) (fun _ _ _ => rfl) ?_
                refine zw_mget (v := .ref 160) rfl rfl ?_
                refine zw_run 1 (pc' := 363) (loc' := [some (.ref 136), some (.int k), some (.int ((zf Z 35) - 1)), some (.int (zv Z 158 ((zf Z 35) - 1))), some (.int u50), some (.int (zf u47.2 50)), some (.int (bI u9.1)), some (.int (zf u47.2 50)), none]) (stk' := [.int ((zf Z 35) - 1), .ref 160, .ref 136]) (fun _ _ _ => rfl) ?_
                obtain ⟨b71, H⟩ := oq_ob H
                refine zw_iald (j := 160) rfl (by decide) (by decide) rfl b71 ?_
                obtain ⟨u72, hu72, H⟩ := oq_bind H
                refine zw_callf (As := [.ref 136, .int (zv u49 160 ((zf Z 35) - 1))]) (rest := []) (c_134 hu (zv u49 160 ((zf Z 35) - 1)) hu72 (d := d + 0)) rfl rfl rfl rfl ?_
                show zw fm sx (d + 4) 140 367 [some (.ref 136), some (.int k), some (.int ((zf Z 35) - 1)), some (.int (zv Z 158 ((zf Z 35) - 1))), some (.int u50), some (.int (zf u47.2 50)), some (.int (bI u9.1)), some (.int (zf u47.2 50)), none] [] u72 Q
                obtain ⟨hS, H⟩ := oq_ob H
                refine zw_run 3 (pc' := 371) (loc' := [some (.ref 136), some (.int k), some (.int ((zf Z 35) - 1)), some (.int (zv Z 158 ((zf Z 35) - 1))), some (.int u50), some (.int (zf u47.2 50)), some (.int (bI u9.1)), some (.int (zf u47.2 50)), none]) (stk' := [.int 0, .int 12, .ref 136]) (fun _ _ _ => rfl) ?_
                obtain ⟨u73, hu73, H⟩ := oq_bind H
                refine zw_callf (As := [.ref 136, .int 12, .int 0]) (rest := []) (c_127 hu 12 0 hu73 (d := d + 2)) rfl rfl rfl rfl ?_
                show zw fm sx (d + 4) 140 374 [some (.ref 136), some (.int k), some (.int ((zf Z 35) - 1)), some (.int (zv Z 158 ((zf Z 35) - 1))), some (.int u50), some (.int (zf u47.2 50)), some (.int (bI u9.1)), some (.int (zf u47.2 50)), none] [.int u73.1] u73.2 Q
                obtain ⟨hS, H⟩ := oq_ob H
                refine zw_run 2 (pc' := 376) (loc' := [some (.ref 136), some (.int k), some (.int ((zf Z 35) - 1)), some (.int (zv Z 158 ((zf Z 35) - 1))), some (.int u50), some (.int (zf u47.2 50)), some (.int (bI u9.1)), some (.int (zf u47.2 50)), none]) (stk' := [.ref 136]) (fun _ _ _ => rfl) ?_
                refine zw_mget (v := .ref 162) rfl rfl ?_
                refine zw_run 1 (pc' := 380) (loc' := [some (.ref 136), some (.int k), some (.int ((zf Z 35) - 1)), some (.int (zv Z 158 ((zf Z 35) - 1))), some (.int u50), some (.int (zf u47.2 50)), some (.int (bI u9.1)), some (.int (zf u47.2 50)), none]) (stk' := [.int ((zf Z 35) - 1), .ref 162]) (fun _ _ _ => rfl) ?_
                obtain ⟨b74, H⟩ := oq_ob H
                refine zw_bald (j := 162) rfl (by decide) (by decide) rfl b74 ?_
                refine zw_br (c := ¬ (zv u73.2 162 ((zf Z 35) - 1)) = 0) (t1 := 388) (t2 := 384) (loc' := [some (.ref 136), some (.int k), some (.int ((zf Z 35) - 1)), some (.int (zv Z 158 ((zf Z 35) - 1))), some (.int u50), some (.int (zf u47.2 50)), some (.int (bI u9.1)), some (.int (zf u47.2 50)), none]) (stk' := []) (fun _ _ _ => rfl) (fun c75 => ?_) (fun c75 => ?_)
                · rw [if_pos c75] at H
                  refine zw_run 1 (pc' := 390) (loc' := [some (.ref 136), some (.int k), some (.int ((zf Z 35) - 1)), some (.int (zv Z 158 ((zf Z 35) - 1))), some (.int u50), some (.int (zf u47.2 50)), some (.int (bI u9.1)), some (.int (zf u47.2 50)), none]) (stk' := [.int (zf u47.2 50)]) (fun _ _ _ => rfl) ?_
                  refine zw_reti (i := .nop) rfl rfl ?_
                  have H := oq_some H
                  exact H
                · rw [if_neg c75] at H
                  refine zw_run 1 (pc' := 385) (loc' := [some (.ref 136), some (.int k), some (.int ((zf Z 35) - 1)), some (.int (zv Z 158 ((zf Z 35) - 1))), some (.int u50), some (.int (zf u47.2 50)), some (.int (bI u9.1)), some (.int (zf u47.2 50)), none]) (stk' := [.ref 136]) (fun _ _ _ => rfl) ?_
                  obtain ⟨u76, hu76, H⟩ := oq_bind H
                  refine zw_callf (As := [.ref 136]) (rest := []) (c_138 hu hu76 (d := d + 3)) rfl rfl rfl rfl ?_
                  show zw fm sx (d + 4) 140 388 [some (.ref 136), some (.int k), some (.int ((zf Z 35) - 1)), some (.int (zv Z 158 ((zf Z 35) - 1))), some (.int u50), some (.int (zf u47.2 50)), some (.int (bI u9.1)), some (.int (zf u47.2 50)), none] [] u76 Q
                  obtain ⟨hS, H⟩ := oq_ob H
                  refine zw_run 1 (pc' := 390) (loc' := [some (.ref 136), some (.int k), some (.int ((zf Z 35) - 1)), some (.int (zv Z 158 ((zf Z 35) - 1))), some (.int u50), some (.int (zf u47.2 50)), some (.int (bI u9.1)), some (.int (zf u47.2 50)), none]) (stk' := [.int (zf u47.2 50)]) (fun _ _ _ => rfl) ?_
                  refine zw_reti (i := .nop) rfl rfl ?_
                  have H := oq_some H
                  exact H
              refine zw_br (c := (zv u49 162 ((zf Z 35) - 1)) = 0) (t1 := 354) (t2 := 349) (loc' := [some (.ref 136), some (.int k), some (.int ((zf Z 35) - 1)), some (.int (zv Z 158 ((zf Z 35) - 1))), some (.int u50), some (.int (zf u47.2 50)), some (.int (bI u9.1)), some (.int (zf u47.2 50)), none]) (stk' := [.int (zv Z 158 ((zf Z 35) - 1)), .ref 143]) (fun _ _ _ => rfl) (fun c67 => ?_) (fun c67 => ?_)
              · skip
                refine zw_run 1 (pc' := 356) (loc' := [some (.ref 136), some (.int k), some (.int ((zf Z 35) - 1)), some (.int (zv Z 158 ((zf Z 35) - 1))), some (.int u50), some (.int (zf u47.2 50)), some (.int (bI u9.1)), some (.int (zf u47.2 50)), none]) (stk' := [.int 6, .int (zv Z 158 ((zf Z 35) - 1)), .ref 143]) (fun _ _ _ => rfl) ?_
                exact J69 _ (by first | (rw [if_pos c67]; done) | (rw [if_pos c67]; rfl) | (clear H J69; simp_all [bI]; done))
              · skip
                refine zw_run 2 (pc' := 356) (loc' := [some (.ref 136), some (.int k), some (.int ((zf Z 35) - 1)), some (.int (zv Z 158 ((zf Z 35) - 1))), some (.int u50), some (.int (zf u47.2 50)), some (.int (bI u9.1)), some (.int (zf u47.2 50)), none]) (stk' := [.int 7, .int (zv Z 158 ((zf Z 35) - 1)), .ref 143]) (fun _ _ _ => rfl) ?_
                exact J69 _ (by first | (rw [if_neg c67]; done) | (rw [if_neg c67]; rfl) | (clear H J69; simp_all [bI]; done))
            · rw [if_neg c64] at H
              refine zw_run 3 (pc' := 319) (loc' := [some (.ref 136), some (.int k), some (.int ((zf Z 35) - 1)), some (.int (zv Z 158 ((zf Z 35) - 1))), some (.int u50), some (.int (zf u47.2 50)), some (.int (bI u9.1)), some (.int (zf u47.2 50)), none]) (stk' := [.int 93, .int 0, .ref 136]) (fun _ _ _ => rfl) ?_
              obtain ⟨u77, hu77, H⟩ := oq_bind H
              refine zw_callf (As := [.ref 136, .int 0, .int 93]) (rest := []) (c_127 hu 0 93 hu77 (d := d + 2)) rfl rfl rfl rfl ?_
              show zw fm sx (d + 4) 140 322 [some (.ref 136), some (.int k), some (.int ((zf Z 35) - 1)), some (.int (zv Z 158 ((zf Z 35) - 1))), some (.int u50), some (.int (zf u47.2 50)), some (.int (bI u9.1)), some (.int (zf u47.2 50)), none] [.int u77.1] u77.2 Q
              obtain ⟨hS, H⟩ := oq_ob H
              refine zw_run 4 (pc' := 326) (loc' := [some (.ref 136), some (.int k), some (.int ((zf Z 35) - 1)), some (.int (zv Z 158 ((zf Z 35) - 1))), some (.int u50), some (.int (zf u47.2 50)), some (.int (bI u9.1)), some (.int (zf u47.2 50)), none]) (stk' := [.int (k + 1)]) (fun _ _ _ => rfl) ?_
              refine zw_reti (i := .nop) rfl rfl ?_
              have H := oq_some H
              exact H
        · rw [if_neg c48] at H
          refine zw_run 1 (pc' := 226) (loc' := [some (.ref 136), some (.int k), some (.int ((zf Z 35) - 1)), some (.int (zv Z 158 ((zf Z 35) - 1))), some (.int (-1)), some (.int (k + 1)), some (.int (bI u9.1)), none, none]) (stk' := [.ref 136]) (fun _ _ _ => rfl) ?_
          refine zw_mget (v := .ref 161) rfl rfl ?_
          refine zw_run 1 (pc' := 230) (loc' := [some (.ref 136), some (.int k), some (.int ((zf Z 35) - 1)), some (.int (zv Z 158 ((zf Z 35) - 1))), some (.int (-1)), some (.int (k + 1)), some (.int (bI u9.1)), none, none]) (stk' := [.int ((zf Z 35) - 1), .ref 161]) (fun _ _ _ => rfl) ?_
          obtain ⟨b78, H⟩ := oq_ob H
          refine zw_iald (j := 161) rfl (by decide) (by decide) rfl b78 ?_
          refine zw_run 1 (pc' := 232) (loc' := [some (.ref 136), some (.int k), some (.int ((zf Z 35) - 1)), some (.int (zv Z 158 ((zf Z 35) - 1))), some (.int (-1)), some (.int (k + 1)), some (.int (bI u9.1)), none, none]) (stk' := [.ref 136, .int (zv u47.2 161 ((zf Z 35) - 1))]) (fun _ _ _ => rfl) ?_
          refine zw_mget (v := .int (zf u47.2 36)) rfl rfl ?_
          refine zw_br (c := ¬ (zv u47.2 161 ((zf Z 35) - 1)) = (zf u47.2 36)) (t1 := 304) (t2 := 238) (loc' := [some (.ref 136), some (.int k), some (.int ((zf Z 35) - 1)), some (.int (zv Z 158 ((zf Z 35) - 1))), some (.int (-1)), some (.int (k + 1)), some (.int (bI u9.1)), none, none]) (stk' := []) (fun _ _ _ => rfl) (fun c79 => ?_) (fun c79 => ?_)
          · rw [if_pos c79] at H
            refine zw_run 1 (pc' := 306) (loc' := [some (.ref 136), some (.int k), some (.int ((zf Z 35) - 1)), some (.int (zv Z 158 ((zf Z 35) - 1))), some (.int (-1)), some (.int (k + 1)), some (.int (bI u9.1)), none, none]) (stk' := [.int (bI u9.1)]) (fun _ _ _ => rfl) ?_
            refine zw_b1 (b := u9.1) (t1 := 327) (t2 := 309) (loc' := [some (.ref 136), some (.int k), some (.int ((zf Z 35) - 1)), some (.int (zv Z 158 ((zf Z 35) - 1))), some (.int (-1)), some (.int (k + 1)), some (.int (bI u9.1)), none, none]) (stk' := []) (fun _ _ _ => rfl) (fun c80 => ?_) (fun c80 => ?_)
            · rw [if_pos c80] at H
              refine zw_run 1 (pc' := 328) (loc' := [some (.ref 136), some (.int k), some (.int ((zf Z 35) - 1)), some (.int (zv Z 158 ((zf Z 35) - 1))), some (.int (-1)), some (.int (k + 1)), some (.int (bI u9.1)), none, none]) (stk' := [.ref 136]) (fun _ _ _ => rfl) ?_
              refine zw_mget (v := .ref 149) rfl rfl ?_
              refine zw_run 2 (pc' := 334) (loc' := [some (.ref 136), some (.int k), some (.int ((zf Z 35) - 1)), some (.int (zv Z 158 ((zf Z 35) - 1))), some (.int (-1)), some (.int (k + 1)), some (.int (bI u9.1)), none, none]) (stk' := [.int (-1), .int (zv Z 158 ((zf Z 35) - 1)), .ref 149]) (fun _ _ _ => rfl) ?_
              obtain ⟨b81, H⟩ := oq_ob H
              refine zw_iast (j := 149) rfl (by decide) (by decide) rfl b81 ?_
              show zw fm sx (d + 4) 140 335 [some (.ref 136), some (.int k), some (.int ((zf Z 35) - 1)), some (.int (zv Z 158 ((zf Z 35) - 1))), some (.int (-1)), some (.int (k + 1)), some (.int (bI u9.1)), none, none] [] (zar u47.2 149 (zv Z 158 ((zf Z 35) - 1)) (-1)) Q
              refine zw_run 1 (pc' := 336) (loc' := [some (.ref 136), some (.int k), some (.int ((zf Z 35) - 1)), some (.int (zv Z 158 ((zf Z 35) - 1))), some (.int (-1)), some (.int (k + 1)), some (.int (bI u9.1)), none, none]) (stk' := [.ref 136]) (fun _ _ _ => rfl) ?_
              refine zw_mget (v := .ref 143) rfl rfl ?_
              refine zw_run 2 (pc' := 341) (loc' := [some (.ref 136), some (.int k), some (.int ((zf Z 35) - 1)), some (.int (zv Z 158 ((zf Z 35) - 1))), some (.int (-1)), some (.int (k + 1)), some (.int (bI u9.1)), none, none]) (stk' := [.ref 136, .int (zv Z 158 ((zf Z 35) - 1)), .ref 143]) (fun _ _ _ => rfl) ?_
              refine zw_mget (v := .ref 162) rfl rfl ?_
              refine zw_run 1 (pc' := 345) (loc' := [some (.ref 136), some (.int k), some (.int ((zf Z 35) - 1)), some (.int (zv Z 158 ((zf Z 35) - 1))), some (.int (-1)), some (.int (k + 1)), some (.int (bI u9.1)), none, none]) (stk' := [.int ((zf Z 35) - 1), .ref 162, .int (zv Z 158 ((zf Z 35) - 1)), .ref 143]) (fun _ _ _ => rfl) ?_
              obtain ⟨b82, H⟩ := oq_ob H
              refine zw_bald (j := 162) rfl (by decide) (by decide) rfl b82 ?_
              have J85 : ∀ (v84 : Int32), v84 = (if (zv u47.2 162 ((zf Z 35) - 1)) = 0 then 6 else 7 : Int32) → zw fm sx (d + 4) 140 356 [some (.ref 136), some (.int k), some (.int ((zf Z 35) - 1)), some (.int (zv Z 158 ((zf Z 35) - 1))), some (.int (-1)), some (.int (k + 1)), some (.int (bI u9.1)), none, none] [.int v84, .int (zv Z 158 ((zf Z 35) - 1)), .ref 143] (zar u47.2 149 (zv Z 158 ((zf Z 35) - 1)) (-1)) Q := by
                intro v84 ev84
                subst ev84
                obtain ⟨b86, H⟩ := oq_ob H
                refine zw_iast (j := 143) rfl (by decide) (by decide) rfl b86 ?_
                show zw fm sx (d + 4) 140 357 [some (.ref 136), some (.int k), some (.int ((zf Z 35) - 1)), some (.int (zv Z 158 ((zf Z 35) - 1))), some (.int (-1)), some (.int (k + 1)), some (.int (bI u9.1)), none, none] [] (zar (zar u47.2 149 (zv Z 158 ((zf Z 35) - 1)) (-1)) 143 (zv Z 158 ((zf Z 35) - 1)) (if (zv u47.2 162 ((zf Z 35) - 1)) = 0 then 6 else 7 : Int32)) Q
                refine zw_run 2 (pc' := 359) (loc' := [some (.ref 136), some (.int k), some (.int ((zf Z 35) - 1)), some (.int (zv Z 158 ((zf Z 35) - 1))), some (.int (-1)), some (.int (k + 1)), some (.int (bI u9.1)), none, none]) (stk' := [.ref 136, .ref 136]) (fun _ _ _ => rfl) ?_
                refine zw_mget (v := .ref 160) rfl rfl ?_
                refine zw_run 1 (pc' := 363) (loc' := [some (.ref 136), some (.int k), some (.int ((zf Z 35) - 1)), some (.int (zv Z 158 ((zf Z 35) - 1))), some (.int (-1)), some (.int (k + 1)), some (.int (bI u9.1)), none, none]) (stk' := [.int ((zf Z 35) - 1), .ref 160, .ref 136]) (fun _ _ _ => rfl) ?_
                obtain ⟨b87, H⟩ := oq_ob H
                refine zw_iald (j := 160) rfl (by decide) (by decide) rfl b87 ?_
                obtain ⟨u88, hu88, H⟩ := oq_bind H
                refine zw_callf (As := [.ref 136, .int (zv u47.2 160 ((zf Z 35) - 1))]) (rest := []) (c_134 hu (zv u47.2 160 ((zf Z 35) - 1)) hu88 (d := d + 0)) rfl rfl rfl rfl ?_
                show zw fm sx (d + 4) 140 367 [some (.ref 136), some (.int k), some (.int ((zf Z 35) - 1)), some (.int (zv Z 158 ((zf Z 35) - 1))), some (.int (-1)), some (.int (k + 1)), some (.int (bI u9.1)), none, none] [] u88 Q
                obtain ⟨hS, H⟩ := oq_ob H
                refine zw_run 3 (pc' := 371) (loc' := [some (.ref 136), some (.int k), some (.int ((zf Z 35) - 1)), some (.int (zv Z 158 ((zf Z 35) - 1))), some (.int (-1)), some (.int (k + 1)), some (.int (bI u9.1)), none, none]) (stk' := [.int 0, .int 12, .ref 136]) (fun _ _ _ => rfl) ?_
                obtain ⟨u89, hu89, H⟩ := oq_bind H
                refine zw_callf (As := [.ref 136, .int 12, .int 0]) (rest := []) (c_127 hu 12 0 hu89 (d := d + 2)) rfl rfl rfl rfl ?_
                show zw fm sx (d + 4) 140 374 [some (.ref 136), some (.int k), some (.int ((zf Z 35) - 1)), some (.int (zv Z 158 ((zf Z 35) - 1))), some (.int (-1)), some (.int (k + 1)), some (.int (bI u9.1)), none, none] [.int u89.1] u89.2 Q
                obtain ⟨hS, H⟩ := oq_ob H
                refine zw_run 2 (pc' := 376) (loc' := [some (.ref 136), some (.int k), some (.int ((zf Z 35) - 1)), some (.int (zv Z 158 ((zf Z 35) - 1))), some (.int (-1)), some (.int (k + 1)), some (.int (bI u9.1)), none, none]) (stk' := [.ref 136]) (fun _ _ _ => rfl) ?_
                refine zw_mget (v := .ref 162) rfl rfl ?_
                refine zw_run 1 (pc' := 380) (loc' := [some (.ref 136), some (.int k), some (.int ((zf Z 35) - 1)), some (.int (zv Z 158 ((zf Z 35) - 1))), some (.int (-1)), some (.int (k + 1)), some (.int (bI u9.1)), none, none]) (stk' := [.int ((zf Z 35) - 1), .ref 162]) (fun _ _ _ => rfl) ?_
                obtain ⟨b90, H⟩ := oq_ob H
                refine zw_bald (j := 162) rfl (by decide) (by decide) rfl b90 ?_
                refine zw_br (c := ¬ (zv u89.2 162 ((zf Z 35) - 1)) = 0) (t1 := 388) (t2 := 384) (loc' := [some (.ref 136), some (.int k), some (.int ((zf Z 35) - 1)), some (.int (zv Z 158 ((zf Z 35) - 1))), some (.int (-1)), some (.int (k + 1)), some (.int (bI u9.1)), none, none]) (stk' := []) (fun _ _ _ => rfl) (fun c91 => ?_) (fun c91 => ?_)
                · rw [if_pos c91] at H
                  refine zw_run 1 (pc' := 390) (loc' := [some (.ref 136), some (.int k), some (.int ((zf Z 35) - 1)), some (.int (zv Z 158 ((zf Z 35) - 1))), some (.int (-1)), some (.int (k + 1)), some (.int (bI u9.1)), none, none]) (stk' := [.int (k + 1)]) (fun _ _ _ => rfl) ?_
                  refine zw_reti (i := .nop) rfl rfl ?_
                  have H := oq_some H
                  exact H
                · rw [if_neg c91] at H
                  refine zw_run 1 (pc' := 385) (loc' := [some (.ref 136), some (.int k), some (.int ((zf Z 35) - 1)), some (.int (zv Z 158 ((zf Z 35) - 1))), some (.int (-1)), some (.int (k + 1)), some (.int (bI u9.1)), none, none]) (stk' := [.ref 136]) (fun _ _ _ => rfl) ?_
                  obtain ⟨u92, hu92, H⟩ := oq_bind H
                  refine zw_callf (As := [.ref 136]) (rest := []) (c_138 hu hu92 (d := d + 3)) rfl rfl rfl rfl ?_
                  show zw fm sx (d + 4) 140 388 [some (.ref 136), some (.int k), some (.int ((zf Z 35) - 1)), some (.int (zv Z 158 ((zf Z 35) - 1))), some (.int (-1)), some (.int (k + 1)), some (.int (bI u9.1)), none, none] [] u92 Q
                  obtain ⟨hS, H⟩ := oq_ob H
                  refine zw_run 1 (pc' := 390) (loc' := [some (.ref 136), some (.int k), some (.int ((zf Z 35) - 1)), some (.int (zv Z 158 ((zf Z 35) - 1))), some (.int (-1)), some (.int (k + 1)), some (.int (bI u9.1)), none, none]) (stk' := [.int (k + 1)]) (fun _ _ _ => rfl) ?_
                  refine zw_reti (i := .nop) rfl rfl ?_
                  have H := oq_some H
                  exact H
              refine zw_br (c := (zv u47.2 162 ((zf Z 35) - 1)) = 0) (t1 := 354) (t2 := 349) (loc' := [some (.ref 136), some (.int k), some (.int ((zf Z 35) - 1)), some (.int (zv Z 158 ((zf Z 35) - 1))), some (.int (-1)), some (.int (k + 1)), some (.int (bI u9.1)), none, none]) (stk' := [.int (zv Z 158 ((zf Z 35) - 1)), .ref 143]) (fun _ _ _ => rfl) (fun c83 => ?_) (fun c83 => ?_)
              · skip
                refine zw_run 1 (pc' := 356) (loc' := [some (.ref 136), some (.int k), some (.int ((zf Z 35) - 1)), some (.int (zv Z 158 ((zf Z 35) - 1))), some (.int (-1)), some (.int (k + 1)), some (.int (bI u9.1)), none, none]) (stk' := [.int 6, .int (zv Z 158 ((zf Z 35) - 1)), .ref 143]) (fun _ _ _ => rfl) ?_
                exact J85 _ (by first | (rw [if_pos c83]; done) | (rw [if_pos c83]; rfl) | (clear H J85; simp_all [bI]; done))
              · skip
                refine zw_run 2 (pc' := 356) (loc' := [some (.ref 136), some (.int k), some (.int ((zf Z 35) - 1)), some (.int (zv Z 158 ((zf Z 35) - 1))), some (.int (-1)), some (.int (k + 1)), some (.int (bI u9.1)), none, none]) (stk' := [.int 7, .int (zv Z 158 ((zf Z 35) - 1)), .ref 143]) (fun _ _ _ => rfl) ?_
                exact J85 _ (by first | (rw [if_neg c83]; done) | (rw [if_neg c83]; rfl) | (clear H J85; simp_all [bI]; done))
            · rw [if_neg c80] at H
              refine zw_run 2 (pc' := 312) (loc' := [some (.ref 136), some (.int k), some (.int ((zf Z 35) - 1)), some (.int (zv Z 158 ((zf Z 35) - 1))), some (.int (-1)), some (.int (k + 1)), some (.int (bI u9.1)), none, none]) (stk' := [.int (-1), .int (-1)]) (fun _ _ _ => rfl) ?_
              refine zw_run 4 (pc' := 319) (loc' := [some (.ref 136), some (.int k), some (.int ((zf Z 35) - 1)), some (.int (zv Z 158 ((zf Z 35) - 1))), some (.int (-1)), some (.int (k + 1)), some (.int (bI u9.1)), none, none]) (stk' := [.int 93, .int 0, .ref 136]) (fun _ _ _ => rfl) ?_
              obtain ⟨u93, hu93, H⟩ := oq_bind H
              refine zw_callf (As := [.ref 136, .int 0, .int 93]) (rest := []) (c_127 hu 0 93 hu93 (d := d + 2)) rfl rfl rfl rfl ?_
              show zw fm sx (d + 4) 140 322 [some (.ref 136), some (.int k), some (.int ((zf Z 35) - 1)), some (.int (zv Z 158 ((zf Z 35) - 1))), some (.int (-1)), some (.int (k + 1)), some (.int (bI u9.1)), none, none] [.int u93.1] u93.2 Q
              obtain ⟨hS, H⟩ := oq_ob H
              refine zw_run 4 (pc' := 326) (loc' := [some (.ref 136), some (.int k), some (.int ((zf Z 35) - 1)), some (.int (zv Z 158 ((zf Z 35) - 1))), some (.int (-1)), some (.int (k + 1)), some (.int (bI u9.1)), none, none]) (stk' := [.int (k + 1)]) (fun _ _ _ => rfl) ?_
              refine zw_reti (i := .nop) rfl rfl ?_
              have H := oq_some H
              exact H
          · rw [if_neg c79] at H
            refine zw_run 2 (pc' := 240) (loc' := [some (.ref 136), some (.int k), some (.int ((zf Z 35) - 1)), some (.int (zv Z 158 ((zf Z 35) - 1))), some (.int (-1)), some (.int (k + 1)), some (.int (bI u9.1)), none, none]) (stk' := [.ref 136, .ref 136]) (fun _ _ _ => rfl) ?_
            refine zw_mget (v := .ref 159) rfl rfl ?_
            refine zw_run 1 (pc' := 244) (loc' := [some (.ref 136), some (.int k), some (.int ((zf Z 35) - 1)), some (.int (zv Z 158 ((zf Z 35) - 1))), some (.int (-1)), some (.int (k + 1)), some (.int (bI u9.1)), none, none]) (stk' := [.int ((zf Z 35) - 1), .ref 159, .ref 136]) (fun _ _ _ => rfl) ?_
            obtain ⟨b94, H⟩ := oq_ob H
            refine zw_iald (j := 159) rfl (by decide) (by decide) rfl b94 ?_
            refine zw_run 1 (pc' := 246) (loc' := [some (.ref 136), some (.int k), some (.int ((zf Z 35) - 1)), some (.int (zv Z 158 ((zf Z 35) - 1))), some (.int (-1)), some (.int (k + 1)), some (.int (bI u9.1)), none, none]) (stk' := [.int k, .int (zv u47.2 159 ((zf Z 35) - 1)), .ref 136]) (fun _ _ _ => rfl) ?_
            obtain ⟨u95, hu95, H⟩ := oq_bind H
            refine zw_callf (As := [.ref 136, .int (zv u47.2 159 ((zf Z 35) - 1)), .int k]) (rest := []) (c_115 hu (zv u47.2 159 ((zf Z 35) - 1)) k hu95 (d := d + 2)) rfl rfl rfl rfl ?_
            show zw fm sx (d + 4) 140 249 [some (.ref 136), some (.int k), some (.int ((zf Z 35) - 1)), some (.int (zv Z 158 ((zf Z 35) - 1))), some (.int (-1)), some (.int (k + 1)), some (.int (bI u9.1)), none, none] [.int (bI u95)] u47.2 Q
            refine zw_b0 (b := u95) (t1 := 252) (t2 := 304) (loc' := [some (.ref 136), some (.int k), some (.int ((zf Z 35) - 1)), some (.int (zv Z 158 ((zf Z 35) - 1))), some (.int (-1)), some (.int (k + 1)), some (.int (bI u9.1)), none, none]) (stk' := []) (fun _ _ _ => rfl) (fun c96 => ?_) (fun c96 => ?_)
            · rw [if_pos c96] at H
              refine zw_run 2 (pc' := 254) (loc' := [some (.ref 136), some (.int k), some (.int ((zf Z 35) - 1)), some (.int (zv Z 158 ((zf Z 35) - 1))), some (.int (-1)), some (.int (k + 1)), some (.int (bI u9.1)), none, none]) (stk' := [.ref 136, .ref 136]) (fun _ _ _ => rfl) ?_
              refine zw_mget (v := .ref 159) rfl rfl ?_
              refine zw_run 1 (pc' := 258) (loc' := [some (.ref 136), some (.int k), some (.int ((zf Z 35) - 1)), some (.int (zv Z 158 ((zf Z 35) - 1))), some (.int (-1)), some (.int (k + 1)), some (.int (bI u9.1)), none, none]) (stk' := [.int ((zf Z 35) - 1), .ref 159, .ref 136]) (fun _ _ _ => rfl) ?_
              obtain ⟨b97, H⟩ := oq_ob H
              refine zw_iald (j := 159) rfl (by decide) (by decide) rfl b97 ?_
              refine zw_run 1 (pc' := 260) (loc' := [some (.ref 136), some (.int k), some (.int ((zf Z 35) - 1)), some (.int (zv Z 158 ((zf Z 35) - 1))), some (.int (-1)), some (.int (k + 1)), some (.int (bI u9.1)), none, none]) (stk' := [.int k, .int (zv u47.2 159 ((zf Z 35) - 1)), .ref 136]) (fun _ _ _ => rfl) ?_
              obtain ⟨u98, hu98, H⟩ := oq_bind H
              refine zw_callf (As := [.ref 136, .int (zv u47.2 159 ((zf Z 35) - 1)), .int k]) (rest := []) (c_123 hu (zv u47.2 159 ((zf Z 35) - 1)) k hu98 (d := d + 2)) rfl rfl rfl rfl ?_
              show zw fm sx (d + 4) 140 263 [some (.ref 136), some (.int k), some (.int ((zf Z 35) - 1)), some (.int (zv Z 158 ((zf Z 35) - 1))), some (.int (-1)), some (.int (k + 1)), some (.int (bI u9.1)), none, none] [] u98 Q
              obtain ⟨hS, H⟩ := oq_ob H
              refine zw_run 1 (pc' := 264) (loc' := [some (.ref 136), some (.int k), some (.int ((zf Z 35) - 1)), some (.int (zv Z 158 ((zf Z 35) - 1))), some (.int (-1)), some (.int (k + 1)), some (.int (bI u9.1)), none, none]) (stk' := [.ref 136]) (fun _ _ _ => rfl) ?_
              obtain ⟨u99, hu99, H⟩ := oq_bind H
              refine zw_callf (As := [.ref 136]) (rest := []) (c_124 hu hu99 (d := d + 3)) rfl rfl rfl rfl ?_
              show zw fm sx (d + 4) 140 267 [some (.ref 136), some (.int k), some (.int ((zf Z 35) - 1)), some (.int (zv Z 158 ((zf Z 35) - 1))), some (.int (-1)), some (.int (k + 1)), some (.int (bI u9.1)), none, none] [.int u99] u98 Q
              refine zw_run 5 (pc' := 273) (loc' := [some (.ref 136), some (.int k), some (.int ((zf Z 35) - 1)), some (.int (zv Z 158 ((zf Z 35) - 1))), some (.int u99), some (.int (k + 1)), some (.int (bI u9.1)), none, none]) (stk' := [.int (k + 1), .ref 136]) (fun _ _ _ => rfl) ?_
              refine zw_callf (As := [.ref 136, .int (k + 1)]) (rest := []) (c_183 (Z := u98) hS (k + 1) (d := d + 3)) rfl rfl rfl rfl ?_
              show zw fm sx (d + 4) 140 276 [some (.ref 136), some (.int k), some (.int ((zf Z 35) - 1)), some (.int (zv Z 158 ((zf Z 35) - 1))), some (.int u99), some (.int (k + 1)), some (.int (bI u9.1)), none, none] [.int (ra u98 (k + 1))] u98 Q
              refine zw_run 1 (pc' := 278) (loc' := [some (.ref 136), some (.int k), some (.int ((zf Z 35) - 1)), some (.int (zv Z 158 ((zf Z 35) - 1))), some (.int u99), some (.int (k + 1)), some (.int (bI u9.1)), none, none]) (stk' := [.int 91, .int (ra u98 (k + 1))]) (fun _ _ _ => rfl) ?_
              have J103 : ∀ (v102 : Int32), v102 = (if ¬ (ra u98 (k + 1)) = 91 then (k + 1) else (if ¬ (ra u98 (k + 2)) = 93 then (k + 1) else (k + 3) : Int32) : Int32) → zw fm sx (d + 4) 140 302 [some (.ref 136), some (.int k), some (.int ((zf Z 35) - 1)), some (.int (zv Z 158 ((zf Z 35) - 1))), some (.int u99), some (.int (k + 1)), some (.int (bI u9.1)), none, none] [.int v102] u98 Q := by
                intro v102 ev102
                subst ev102
                refine zw_run 1 (pc' := 304) (loc' := [some (.ref 136), some (.int k), some (.int ((zf Z 35) - 1)), some (.int (zv Z 158 ((zf Z 35) - 1))), some (.int u99), some (.int (if ¬ (ra u98 (k + 1)) = 91 then (k + 1) else (if ¬ (ra u98 (k + 2)) = 93 then (k + 1) else (k + 3) : Int32) : Int32)), some (.int (bI u9.1)), none, none]) (stk' := []) (fun _ _ _ => rfl) ?_
                obtain ⟨x104, hx104⟩ : ∃ w : Int32, w = (if ¬ (ra u98 (k + 1)) = 91 then (k + 1) else (if ¬ (ra u98 (k + 2)) = 93 then (k + 1) else (k + 3) : Int32) : Int32) := ⟨_, rfl⟩
                rw [← hx104]
                have H := oq_let H x104 hx104
                refine zw_run 1 (pc' := 306) (loc' := [some (.ref 136), some (.int k), some (.int ((zf Z 35) - 1)), some (.int (zv Z 158 ((zf Z 35) - 1))), some (.int u99), some (.int x104), some (.int (bI u9.1)), none, none]) (stk' := [.int (bI u9.1)]) (fun _ _ _ => rfl) ?_
                refine zw_b1 (b := u9.1) (t1 := 327) (t2 := 309) (loc' := [some (.ref 136), some (.int k), some (.int ((zf Z 35) - 1)), some (.int (zv Z 158 ((zf Z 35) - 1))), some (.int u99), some (.int x104), some (.int (bI u9.1)), none, none]) (stk' := []) (fun _ _ _ => rfl) (fun c105 => ?_) (fun c105 => ?_)
                · rw [if_pos c105] at H
                  refine zw_run 1 (pc' := 328) (loc' := [some (.ref 136), some (.int k), some (.int ((zf Z 35) - 1)), some (.int (zv Z 158 ((zf Z 35) - 1))), some (.int u99), some (.int x104), some (.int (bI u9.1)), none, none]) (stk' := [.ref 136]) (fun _ _ _ => rfl) ?_
                  refine zw_mget (v := .ref 149) rfl rfl ?_
                  refine zw_run 2 (pc' := 334) (loc' := [some (.ref 136), some (.int k), some (.int ((zf Z 35) - 1)), some (.int (zv Z 158 ((zf Z 35) - 1))), some (.int u99), some (.int x104), some (.int (bI u9.1)), none, none]) (stk' := [.int u99, .int (zv Z 158 ((zf Z 35) - 1)), .ref 149]) (fun _ _ _ => rfl) ?_
                  obtain ⟨b106, H⟩ := oq_ob H
                  refine zw_iast (j := 149) rfl (by decide) (by decide) rfl b106 ?_
                  show zw fm sx (d + 4) 140 335 [some (.ref 136), some (.int k), some (.int ((zf Z 35) - 1)), some (.int (zv Z 158 ((zf Z 35) - 1))), some (.int u99), some (.int x104), some (.int (bI u9.1)), none, none] [] (zar u98 149 (zv Z 158 ((zf Z 35) - 1)) u99) Q
                  refine zw_run 1 (pc' := 336) (loc' := [some (.ref 136), some (.int k), some (.int ((zf Z 35) - 1)), some (.int (zv Z 158 ((zf Z 35) - 1))), some (.int u99), some (.int x104), some (.int (bI u9.1)), none, none]) (stk' := [.ref 136]) (fun _ _ _ => rfl) ?_
                  refine zw_mget (v := .ref 143) rfl rfl ?_
                  refine zw_run 2 (pc' := 341) (loc' := [some (.ref 136), some (.int k), some (.int ((zf Z 35) - 1)), some (.int (zv Z 158 ((zf Z 35) - 1))), some (.int u99), some (.int x104), some (.int (bI u9.1)), none, none]) (stk' := [.ref 136, .int (zv Z 158 ((zf Z 35) - 1)), .ref 143]) (fun _ _ _ => rfl) ?_
                  refine zw_mget (v := .ref 162) rfl rfl ?_
                  refine zw_run 1 (pc' := 345) (loc' := [some (.ref 136), some (.int k), some (.int ((zf Z 35) - 1)), some (.int (zv Z 158 ((zf Z 35) - 1))), some (.int u99), some (.int x104), some (.int (bI u9.1)), none, none]) (stk' := [.int ((zf Z 35) - 1), .ref 162, .int (zv Z 158 ((zf Z 35) - 1)), .ref 143]) (fun _ _ _ => rfl) ?_
                  obtain ⟨b107, H⟩ := oq_ob H
                  refine zw_bald (j := 162) rfl (by decide) (by decide) rfl b107 ?_
                  have J110 : ∀ (v109 : Int32), v109 = (if (zv u98 162 ((zf Z 35) - 1)) = 0 then 6 else 7 : Int32) → zw fm sx (d + 4) 140 356 [some (.ref 136), some (.int k), some (.int ((zf Z 35) - 1)), some (.int (zv Z 158 ((zf Z 35) - 1))), some (.int u99), some (.int x104), some (.int (bI u9.1)), none, none] [.int v109, .int (zv Z 158 ((zf Z 35) - 1)), .ref 143] (zar u98 149 (zv Z 158 ((zf Z 35) - 1)) u99) Q := by
                    intro v109 ev109
                    subst ev109
                    obtain ⟨b111, H⟩ := oq_ob H
                    refine zw_iast (j := 143) rfl (by decide) (by decide) rfl b111 ?_
                    show zw fm sx (d + 4) 140 357 [some (.ref 136), some (.int k), some (.int ((zf Z 35) - 1)), some (.int (zv Z 158 ((zf Z 35) - 1))), some (.int u99), some (.int x104), some (.int (bI u9.1)), none, none] [] (zar (zar u98 149 (zv Z 158 ((zf Z 35) - 1)) u99) 143 (zv Z 158 ((zf Z 35) - 1)) (if (zv u98 162 ((zf Z 35) - 1)) = 0 then 6 else 7 : Int32)) Q
                    refine zw_run 2 (pc' := 359) (loc' := [some (.ref 136), some (.int k), some (.int ((zf Z 35) - 1)), some (.int (zv Z 158 ((zf Z 35) - 1))), some (.int u99), some (.int x104), some (.int (bI u9.1)), none, none]) (stk' := [.ref 136, .ref 136]) (fun _ _ _ => rfl) ?_
                    refine zw_mget (v := .ref 160) rfl rfl ?_
                    refine zw_run 1 (pc' := 363) (loc' := [some (.ref 136), some (.int k), some (.int ((zf Z 35) - 1)), some (.int (zv Z 158 ((zf Z 35) - 1))), some (.int u99), some (.int x104), some (.int (bI u9.1)), none, none]) (stk' := [.int ((zf Z 35) - 1), .ref 160, .ref 136]) (fun _ _ _ => rfl) ?_
                    obtain ⟨b112, H⟩ := oq_ob H
                    refine zw_iald (j := 160) rfl (by decide) (by decide) rfl b112 ?_
                    obtain ⟨u113, hu113, H⟩ := oq_bind H
                    refine zw_callf (As := [.ref 136, .int (zv u98 160 ((zf Z 35) - 1))]) (rest := []) (c_134 hu (zv u98 160 ((zf Z 35) - 1)) hu113 (d := d + 0)) rfl rfl rfl rfl ?_
                    show zw fm sx (d + 4) 140 367 [some (.ref 136), some (.int k), some (.int ((zf Z 35) - 1)), some (.int (zv Z 158 ((zf Z 35) - 1))), some (.int u99), some (.int x104), some (.int (bI u9.1)), none, none] [] u113 Q
                    obtain ⟨hS, H⟩ := oq_ob H
                    refine zw_run 3 (pc' := 371) (loc' := [some (.ref 136), some (.int k), some (.int ((zf Z 35) - 1)), some (.int (zv Z 158 ((zf Z 35) - 1))), some (.int u99), some (.int x104), some (.int (bI u9.1)), none, none]) (stk' := [.int 0, .int 12, .ref 136]) (fun _ _ _ => rfl) ?_
                    obtain ⟨u114, hu114, H⟩ := oq_bind H
                    refine zw_callf (As := [.ref 136, .int 12, .int 0]) (rest := []) (c_127 hu 12 0 hu114 (d := d + 2)) rfl rfl rfl rfl ?_
                    show zw fm sx (d + 4) 140 374 [some (.ref 136), some (.int k), some (.int ((zf Z 35) - 1)), some (.int (zv Z 158 ((zf Z 35) - 1))), some (.int u99), some (.int x104), some (.int (bI u9.1)), none, none] [.int u114.1] u114.2 Q
                    obtain ⟨hS, H⟩ := oq_ob H
                    refine zw_run 2 (pc' := 376) (loc' := [some (.ref 136), some (.int k), some (.int ((zf Z 35) - 1)), some (.int (zv Z 158 ((zf Z 35) - 1))), some (.int u99), some (.int x104), some (.int (bI u9.1)), none, none]) (stk' := [.ref 136]) (fun _ _ _ => rfl) ?_
                    refine zw_mget (v := .ref 162) rfl rfl ?_
                    refine zw_run 1 (pc' := 380) (loc' := [some (.ref 136), some (.int k), some (.int ((zf Z 35) - 1)), some (.int (zv Z 158 ((zf Z 35) - 1))), some (.int u99), some (.int x104), some (.int (bI u9.1)), none, none]) (stk' := [.int ((zf Z 35) - 1), .ref 162]) (fun _ _ _ => rfl) ?_
                    obtain ⟨b115, H⟩ := oq_ob H
                    refine zw_bald (j := 162) rfl (by decide) (by decide) rfl b115 ?_
                    refine zw_br (c := ¬ (zv u114.2 162 ((zf Z 35) - 1)) = 0) (t1 := 388) (t2 := 384) (loc' := [some (.ref 136), some (.int k), some (.int ((zf Z 35) - 1)), some (.int (zv Z 158 ((zf Z 35) - 1))), some (.int u99), some (.int x104), some (.int (bI u9.1)), none, none]) (stk' := []) (fun _ _ _ => rfl) (fun c116 => ?_) (fun c116 => ?_)
                    · rw [if_pos c116] at H
                      refine zw_run 1 (pc' := 390) (loc' := [some (.ref 136), some (.int k), some (.int ((zf Z 35) - 1)), some (.int (zv Z 158 ((zf Z 35) - 1))), some (.int u99), some (.int x104), some (.int (bI u9.1)), none, none]) (stk' := [.int x104]) (fun _ _ _ => rfl) ?_
                      refine zw_reti (i := .nop) rfl rfl ?_
                      have H := oq_some H
                      exact H
                    · rw [if_neg c116] at H
                      refine zw_run 1 (pc' := 385) (loc' := [some (.ref 136), some (.int k), some (.int ((zf Z 35) - 1)), some (.int (zv Z 158 ((zf Z 35) - 1))), some (.int u99), some (.int x104), some (.int (bI u9.1)), none, none]) (stk' := [.ref 136]) (fun _ _ _ => rfl) ?_
                      obtain ⟨u117, hu117, H⟩ := oq_bind H
                      refine zw_callf (As := [.ref 136]) (rest := []) (c_138 hu hu117 (d := d + 3)) rfl rfl rfl rfl ?_
                      show zw fm sx (d + 4) 140 388 [some (.ref 136), some (.int k), some (.int ((zf Z 35) - 1)), some (.int (zv Z 158 ((zf Z 35) - 1))), some (.int u99), some (.int x104), some (.int (bI u9.1)), none, none] [] u117 Q
                      obtain ⟨hS, H⟩ := oq_ob H
                      refine zw_run 1 (pc' := 390) (loc' := [some (.ref 136), some (.int k), some (.int ((zf Z 35) - 1)), some (.int (zv Z 158 ((zf Z 35) - 1))), some (.int u99), some (.int x104), some (.int (bI u9.1)), none, none]) (stk' := [.int x104]) (fun _ _ _ => rfl) ?_
                      refine zw_reti (i := .nop) rfl rfl ?_
                      have H := oq_some H
                      exact H
                  refine zw_br (c := (zv u98 162 ((zf Z 35) - 1)) = 0) (t1 := 354) (t2 := 349) (loc' := [some (.ref 136), some (.int k), some (.int ((zf Z 35) - 1)), some (.int (zv Z 158 ((zf Z 35) - 1))), some (.int u99), some (.int x104), some (.int (bI u9.1)), none, none]) (stk' := [.int (zv Z 158 ((zf Z 35) - 1)), .ref 143]) (fun _ _ _ => rfl) (fun c108 => ?_) (fun c108 => ?_)
                  · skip
                    refine zw_run 1 (pc' := 356) (loc' := [some (.ref 136), some (.int k), some (.int ((zf Z 35) - 1)), some (.int (zv Z 158 ((zf Z 35) - 1))), some (.int u99), some (.int x104), some (.int (bI u9.1)), none, none]) (stk' := [.int 6, .int (zv Z 158 ((zf Z 35) - 1)), .ref 143]) (fun _ _ _ => rfl) ?_
                    exact J110 _ (by first | (rw [if_pos c108]; done) | (rw [if_pos c108]; rfl) | (clear H J110; simp_all [bI]; done))
                  · skip
                    refine zw_run 2 (pc' := 356) (loc' := [some (.ref 136), some (.int k), some (.int ((zf Z 35) - 1)), some (.int (zv Z 158 ((zf Z 35) - 1))), some (.int u99), some (.int x104), some (.int (bI u9.1)), none, none]) (stk' := [.int 7, .int (zv Z 158 ((zf Z 35) - 1)), .ref 143]) (fun _ _ _ => rfl) ?_
                    exact J110 _ (by first | (rw [if_neg c108]; done) | (rw [if_neg c108]; rfl) | (clear H J110; simp_all [bI]; done))
                · rw [if_neg c105] at H
                  refine zw_run 2 (pc' := 312) (loc' := [some (.ref 136), some (.int k), some (.int ((zf Z 35) - 1)), some (.int (zv Z 158 ((zf Z 35) - 1))), some (.int u99), some (.int x104), some (.int (bI u9.1)), none, none]) (stk' := [.int (-1), .int u99]) (fun _ _ _ => rfl) ?_
                  refine zw_br (c := ¬ u99 = (-1)) (t1 := 327) (t2 := 315) (loc' := [some (.ref 136), some (.int k), some (.int ((zf Z 35) - 1)), some (.int (zv Z 158 ((zf Z 35) - 1))), some (.int u99), some (.int x104), some (.int (bI u9.1)), none, none]) (stk' := []) (fun _ _ _ => rfl) (fun c118 => ?_) (fun c118 => ?_)
                  · rw [if_pos c118] at H
                    refine zw_run 1 (pc' := 328) (loc' := [some (.ref 136), some (.int k), some (.int ((zf Z 35) - 1)), some (.int (zv Z 158 ((zf Z 35) - 1))), some (.int u99), some (.int x104), some (.int (bI u9.1)), none, none]) (stk' := [.ref 136]) (fun _ _ _ => rfl) ?_
                    refine zw_mget (v := .ref 149) rfl rfl ?_
                    refine zw_run 2 (pc' := 334) (loc' := [some (.ref 136), some (.int k), some (.int ((zf Z 35) - 1)), some (.int (zv Z 158 ((zf Z 35) - 1))), some (.int u99), some (.int x104), some (.int (bI u9.1)), none, none]) (stk' := [.int u99, .int (zv Z 158 ((zf Z 35) - 1)), .ref 149]) (fun _ _ _ => rfl) ?_
                    obtain ⟨b119, H⟩ := oq_ob H
                    refine zw_iast (j := 149) rfl (by decide) (by decide) rfl b119 ?_
                    show zw fm sx (d + 4) 140 335 [some (.ref 136), some (.int k), some (.int ((zf Z 35) - 1)), some (.int (zv Z 158 ((zf Z 35) - 1))), some (.int u99), some (.int x104), some (.int (bI u9.1)), none, none] [] (zar u98 149 (zv Z 158 ((zf Z 35) - 1)) u99) Q
                    refine zw_run 1 (pc' := 336) (loc' := [some (.ref 136), some (.int k), some (.int ((zf Z 35) - 1)), some (.int (zv Z 158 ((zf Z 35) - 1))), some (.int u99), some (.int x104), some (.int (bI u9.1)), none, none]) (stk' := [.ref 136]) (fun _ _ _ => rfl) ?_
                    refine zw_mget (v := .ref 143) rfl rfl ?_
                    refine zw_run 2 (pc' := 341) (loc' := [some (.ref 136), some (.int k), some (.int ((zf Z 35) - 1)), some (.int (zv Z 158 ((zf Z 35) - 1))), some (.int u99), some (.int x104), some (.int (bI u9.1)), none, none]) (stk' := [.ref 136, .int (zv Z 158 ((zf Z 35) - 1)), .ref 143]) (fun _ _ _ => rfl) ?_
                    refine zw_mget (v := .ref 162) rfl rfl ?_
                    refine zw_run 1 (pc' := 345) (loc' := [some (.ref 136), some (.int k), some (.int ((zf Z 35) - 1)), some (.int (zv Z 158 ((zf Z 35) - 1))), some (.int u99), some (.int x104), some (.int (bI u9.1)), none, none]) (stk' := [.int ((zf Z 35) - 1), .ref 162, .int (zv Z 158 ((zf Z 35) - 1)), .ref 143]) (fun _ _ _ => rfl) ?_
                    obtain ⟨b120, H⟩ := oq_ob H
                    refine zw_bald (j := 162) rfl (by decide) (by decide) rfl b120 ?_
                    have J123 : ∀ (v122 : Int32), v122 = (if (zv u98 162 ((zf Z 35) - 1)) = 0 then 6 else 7 : Int32) → zw fm sx (d + 4) 140 356 [some (.ref 136), some (.int k), some (.int ((zf Z 35) - 1)), some (.int (zv Z 158 ((zf Z 35) - 1))), some (.int u99), some (.int x104), some (.int (bI u9.1)), none, none] [.int v122, .int (zv Z 158 ((zf Z 35) - 1)), .ref 143] (zar u98 149 (zv Z 158 ((zf Z 35) - 1)) u99) Q := by
                      intro v122 ev122
                      subst ev122
                      obtain ⟨b124, H⟩ := oq_ob H
                      refine zw_iast (j := 143) rfl (by decide) (by decide) rfl b124 ?_
                      show zw fm sx (d + 4) 140 357 [some (.ref 136), some (.int k), some (.int ((zf Z 35) - 1)), some (.int (zv Z 158 ((zf Z 35) - 1))), some (.int u99), some (.int x104), some (.int (bI u9.1)), none, none] [] (zar (zar u98 149 (zv Z 158 ((zf Z 35) - 1)) u99) 143 (zv Z 158 ((zf Z 35) - 1)) (if (zv u98 162 ((zf Z 35) - 1)) = 0 then 6 else 7 : Int32)) Q
                      refine zw_run 2 (pc' := 359) (loc' := [some (.ref 136), some (.int k), some (.int ((zf Z 35) - 1)), some (.int (zv Z 158 ((zf Z 35) - 1))), some (.int u99), some (.int x104), some (.int (bI u9.1)), none, none]) (stk' := [.ref 136, .ref 136]) (fun _ _ _ => rfl) ?_
                      refine zw_mget (v := .ref 160) rfl rfl ?_
                      refine zw_run 1 (pc' := 363) (loc' := [some (.ref 136), some (.int k), some (.int ((zf Z 35) - 1)), some (.int (zv Z 158 ((zf Z 35) - 1))), some (.int u99), some (.int x104), some (.int (bI u9.1)), none, none]) (stk' := [.int ((zf Z 35) - 1), .ref 160, .ref 136]) (fun _ _ _ => rfl) ?_
                      obtain ⟨b125, H⟩ := oq_ob H
                      refine zw_iald (j := 160) rfl (by decide) (by decide) rfl b125 ?_
                      obtain ⟨u126, hu126, H⟩ := oq_bind H
                      refine zw_callf (As := [.ref 136, .int (zv u98 160 ((zf Z 35) - 1))]) (rest := []) (c_134 hu (zv u98 160 ((zf Z 35) - 1)) hu126 (d := d + 0)) rfl rfl rfl rfl ?_
                      show zw fm sx (d + 4) 140 367 [some (.ref 136), some (.int k), some (.int ((zf Z 35) - 1)), some (.int (zv Z 158 ((zf Z 35) - 1))), some (.int u99), some (.int x104), some (.int (bI u9.1)), none, none] [] u126 Q
                      obtain ⟨hS, H⟩ := oq_ob H
                      refine zw_run 3 (pc' := 371) (loc' := [some (.ref 136), some (.int k), some (.int ((zf Z 35) - 1)), some (.int (zv Z 158 ((zf Z 35) - 1))), some (.int u99), some (.int x104), some (.int (bI u9.1)), none, none]) (stk' := [.int 0, .int 12, .ref 136]) (fun _ _ _ => rfl) ?_
                      obtain ⟨u127, hu127, H⟩ := oq_bind H
                      refine zw_callf (As := [.ref 136, .int 12, .int 0]) (rest := []) (c_127 hu 12 0 hu127 (d := d + 2)) rfl rfl rfl rfl ?_
                      show zw fm sx (d + 4) 140 374 [some (.ref 136), some (.int k), some (.int ((zf Z 35) - 1)), some (.int (zv Z 158 ((zf Z 35) - 1))), some (.int u99), some (.int x104), some (.int (bI u9.1)), none, none] [.int u127.1] u127.2 Q
                      obtain ⟨hS, H⟩ := oq_ob H
                      refine zw_run 2 (pc' := 376) (loc' := [some (.ref 136), some (.int k), some (.int ((zf Z 35) - 1)), some (.int (zv Z 158 ((zf Z 35) - 1))), some (.int u99), some (.int x104), some (.int (bI u9.1)), none, none]) (stk' := [.ref 136]) (fun _ _ _ => rfl) ?_
                      refine zw_mget (v := .ref 162) rfl rfl ?_
                      refine zw_run 1 (pc' := 380) (loc' := [some (.ref 136), some (.int k), some (.int ((zf Z 35) - 1)), some (.int (zv Z 158 ((zf Z 35) - 1))), some (.int u99), some (.int x104), some (.int (bI u9.1)), none, none]) (stk' := [.int ((zf Z 35) - 1), .ref 162]) (fun _ _ _ => rfl) ?_
                      obtain ⟨b128, H⟩ := oq_ob H
                      refine zw_bald (j := 162) rfl (by decide) (by decide) rfl b128 ?_
                      refine zw_br (c := ¬ (zv u127.2 162 ((zf Z 35) - 1)) = 0) (t1 := 388) (t2 := 384) (loc' := [some (.ref 136), some (.int k), some (.int ((zf Z 35) - 1)), some (.int (zv Z 158 ((zf Z 35) - 1))), some (.int u99), some (.int x104), some (.int (bI u9.1)), none, none]) (stk' := []) (fun _ _ _ => rfl) (fun c129 => ?_) (fun c129 => ?_)
                      · rw [if_pos c129] at H
                        refine zw_run 1 (pc' := 390) (loc' := [some (.ref 136), some (.int k), some (.int ((zf Z 35) - 1)), some (.int (zv Z 158 ((zf Z 35) - 1))), some (.int u99), some (.int x104), some (.int (bI u9.1)), none, none]) (stk' := [.int x104]) (fun _ _ _ => rfl) ?_
                        refine zw_reti (i := .nop) rfl rfl ?_
                        have H := oq_some H
                        exact H
                      · rw [if_neg c129] at H
                        refine zw_run 1 (pc' := 385) (loc' := [some (.ref 136), some (.int k), some (.int ((zf Z 35) - 1)), some (.int (zv Z 158 ((zf Z 35) - 1))), some (.int u99), some (.int x104), some (.int (bI u9.1)), none, none]) (stk' := [.ref 136]) (fun _ _ _ => rfl) ?_
                        obtain ⟨u130, hu130, H⟩ := oq_bind H
                        refine zw_callf (As := [.ref 136]) (rest := []) (c_138 hu hu130 (d := d + 3)) rfl rfl rfl rfl ?_
                        show zw fm sx (d + 4) 140 388 [some (.ref 136), some (.int k), some (.int ((zf Z 35) - 1)), some (.int (zv Z 158 ((zf Z 35) - 1))), some (.int u99), some (.int x104), some (.int (bI u9.1)), none, none] [] u130 Q
                        obtain ⟨hS, H⟩ := oq_ob H
                        refine zw_run 1 (pc' := 390) (loc' := [some (.ref 136), some (.int k), some (.int ((zf Z 35) - 1)), some (.int (zv Z 158 ((zf Z 35) - 1))), some (.int u99), some (.int x104), some (.int (bI u9.1)), none, none]) (stk' := [.int x104]) (fun _ _ _ => rfl) ?_
                        refine zw_reti (i := .nop) rfl rfl ?_
                        have H := oq_some H
                        exact H
                    refine zw_br (c := (zv u98 162 ((zf Z 35) - 1)) = 0) (t1 := 354) (t2 := 349) (loc' := [some (.ref 136), some (.int k), some (.int ((zf Z 35) - 1)), some (.int (zv Z 158 ((zf Z 35) - 1))), some (.int u99), some (.int x104), some (.int (bI u9.1)), none, none]) (stk' := [.int (zv Z 158 ((zf Z 35) - 1)), .ref 143]) (fun _ _ _ => rfl) (fun c121 => ?_) (fun c121 => ?_)
                    · skip
                      refine zw_run 1 (pc' := 356) (loc' := [some (.ref 136), some (.int k), some (.int ((zf Z 35) - 1)), some (.int (zv Z 158 ((zf Z 35) - 1))), some (.int u99), some (.int x104), some (.int (bI u9.1)), none, none]) (stk' := [.int 6, .int (zv Z 158 ((zf Z 35) - 1)), .ref 143]) (fun _ _ _ => rfl) ?_
                      exact J123 _ (by first | (rw [if_pos c121]; done) | (rw [if_pos c121]; rfl) | (clear H J123; simp_all [bI]; done))
                    · skip
                      refine zw_run 2 (pc' := 356) (loc' := [some (.ref 136), some (.int k), some (.int ((zf Z 35) - 1)), some (.int (zv Z 158 ((zf Z 35) - 1))), some (.int u99), some (.int x104), some (.int (bI u9.1)), none, none]) (stk' := [.int 7, .int (zv Z 158 ((zf Z 35) - 1)), .ref 143]) (fun _ _ _ => rfl) ?_
                      exact J123 _ (by first | (rw [if_neg c121]; done) | (rw [if_neg c121]; rfl) | (clear H J123; simp_all [bI]; done))
                  · rw [if_neg c118] at H
                    refine zw_run 3 (pc' := 319) (loc' := [some (.ref 136), some (.int k), some (.int ((zf Z 35) - 1)), some (.int (zv Z 158 ((zf Z 35) - 1))), some (.int u99), some (.int x104), some (.int (bI u9.1)), none, none]) (stk' := [.int 93, .int 0, .ref 136]) (fun _ _ _ => rfl) ?_
                    obtain ⟨u131, hu131, H⟩ := oq_bind H
                    refine zw_callf (As := [.ref 136, .int 0, .int 93]) (rest := []) (c_127 hu 0 93 hu131 (d := d + 2)) rfl rfl rfl rfl ?_
                    show zw fm sx (d + 4) 140 322 [some (.ref 136), some (.int k), some (.int ((zf Z 35) - 1)), some (.int (zv Z 158 ((zf Z 35) - 1))), some (.int u99), some (.int x104), some (.int (bI u9.1)), none, none] [.int u131.1] u131.2 Q
                    obtain ⟨hS, H⟩ := oq_ob H
                    refine zw_run 4 (pc' := 326) (loc' := [some (.ref 136), some (.int k), some (.int ((zf Z 35) - 1)), some (.int (zv Z 158 ((zf Z 35) - 1))), some (.int u99), some (.int x104), some (.int (bI u9.1)), none, none]) (stk' := [.int (k + 1)]) (fun _ _ _ => rfl) ?_
                    refine zw_reti (i := .nop) rfl rfl ?_
                    have H := oq_some H
                    exact H
              refine zw_br (c := ¬ (ra u98 (k + 1)) = 91) (t1 := 299) (t2 := 281) (loc' := [some (.ref 136), some (.int k), some (.int ((zf Z 35) - 1)), some (.int (zv Z 158 ((zf Z 35) - 1))), some (.int u99), some (.int (k + 1)), some (.int (bI u9.1)), none, none]) (stk' := []) (fun _ _ _ => rfl) (fun c100 => ?_) (fun c100 => ?_)
              · skip
                refine zw_run 3 (pc' := 302) (loc' := [some (.ref 136), some (.int k), some (.int ((zf Z 35) - 1)), some (.int (zv Z 158 ((zf Z 35) - 1))), some (.int u99), some (.int (k + 1)), some (.int (bI u9.1)), none, none]) (stk' := [.int (k + 1)]) (fun _ _ _ => rfl) ?_
                exact J103 _ (by first | (rw [if_pos c100]; done) | (rw [if_pos c100]; rfl) | (clear H J103; simp_all [bI]; done))
              · skip
                refine zw_run 4 (pc' := 285) (loc' := [some (.ref 136), some (.int k), some (.int ((zf Z 35) - 1)), some (.int (zv Z 158 ((zf Z 35) - 1))), some (.int u99), some (.int (k + 1)), some (.int (bI u9.1)), none, none]) (stk' := [.int (k + 2), .ref 136]) (fun _ _ _ => rfl) ?_
                refine zw_callf (As := [.ref 136, .int (k + 2)]) (rest := []) (c_183 (Z := u98) hS (k + 2) (d := d + 3)) rfl rfl rfl rfl ?_
                show zw fm sx (d + 4) 140 288 [some (.ref 136), some (.int k), some (.int ((zf Z 35) - 1)), some (.int (zv Z 158 ((zf Z 35) - 1))), some (.int u99), some (.int (k + 1)), some (.int (bI u9.1)), none, none] [.int (ra u98 (k + 2))] u98 Q
                refine zw_run 1 (pc' := 290) (loc' := [some (.ref 136), some (.int k), some (.int ((zf Z 35) - 1)), some (.int (zv Z 158 ((zf Z 35) - 1))), some (.int u99), some (.int (k + 1)), some (.int (bI u9.1)), none, none]) (stk' := [.int 93, .int (ra u98 (k + 2))]) (fun _ _ _ => rfl) ?_
                refine zw_br (c := ¬ (ra u98 (k + 2)) = 93) (t1 := 299) (t2 := 293) (loc' := [some (.ref 136), some (.int k), some (.int ((zf Z 35) - 1)), some (.int (zv Z 158 ((zf Z 35) - 1))), some (.int u99), some (.int (k + 1)), some (.int (bI u9.1)), none, none]) (stk' := []) (fun _ _ _ => rfl) (fun c101 => ?_) (fun c101 => ?_)
                · skip
                  refine zw_run 3 (pc' := 302) (loc' := [some (.ref 136), some (.int k), some (.int ((zf Z 35) - 1)), some (.int (zv Z 158 ((zf Z 35) - 1))), some (.int u99), some (.int (k + 1)), some (.int (bI u9.1)), none, none]) (stk' := [.int (k + 1)]) (fun _ _ _ => rfl) ?_
                  exact J103 _ (by first | (rw [if_neg c100, if_pos c101]; done) | (rw [if_neg c100, if_pos c101]; rfl) | (clear H J103; simp_all [bI]; done))
                · skip
                  refine zw_run 4 (pc' := 302) (loc' := [some (.ref 136), some (.int k), some (.int ((zf Z 35) - 1)), some (.int (zv Z 158 ((zf Z 35) - 1))), some (.int u99), some (.int (k + 1)), some (.int (bI u9.1)), none, none]) (stk' := [.int (k + 3)]) (fun _ _ _ => rfl) ?_
                  exact J103 _ (by first | (rw [if_neg c100, if_neg c101]; done) | (rw [if_neg c100, if_neg c101]; rfl) | (clear H J103; simp_all [bI]; done))
            · rw [if_neg c96] at H
              refine zw_run 1 (pc' := 306) (loc' := [some (.ref 136), some (.int k), some (.int ((zf Z 35) - 1)), some (.int (zv Z 158 ((zf Z 35) - 1))), some (.int (-1)), some (.int (k + 1)), some (.int (bI u9.1)), none, none]) (stk' := [.int (bI u9.1)]) (fun _ _ _ => rfl) ?_
              refine zw_b1 (b := u9.1) (t1 := 327) (t2 := 309) (loc' := [some (.ref 136), some (.int k), some (.int ((zf Z 35) - 1)), some (.int (zv Z 158 ((zf Z 35) - 1))), some (.int (-1)), some (.int (k + 1)), some (.int (bI u9.1)), none, none]) (stk' := []) (fun _ _ _ => rfl) (fun c132 => ?_) (fun c132 => ?_)
              · rw [if_pos c132] at H
                refine zw_run 1 (pc' := 328) (loc' := [some (.ref 136), some (.int k), some (.int ((zf Z 35) - 1)), some (.int (zv Z 158 ((zf Z 35) - 1))), some (.int (-1)), some (.int (k + 1)), some (.int (bI u9.1)), none, none]) (stk' := [.ref 136]) (fun _ _ _ => rfl) ?_
                refine zw_mget (v := .ref 149) rfl rfl ?_
                refine zw_run 2 (pc' := 334) (loc' := [some (.ref 136), some (.int k), some (.int ((zf Z 35) - 1)), some (.int (zv Z 158 ((zf Z 35) - 1))), some (.int (-1)), some (.int (k + 1)), some (.int (bI u9.1)), none, none]) (stk' := [.int (-1), .int (zv Z 158 ((zf Z 35) - 1)), .ref 149]) (fun _ _ _ => rfl) ?_
                obtain ⟨b133, H⟩ := oq_ob H
                refine zw_iast (j := 149) rfl (by decide) (by decide) rfl b133 ?_
                show zw fm sx (d + 4) 140 335 [some (.ref 136), some (.int k), some (.int ((zf Z 35) - 1)), some (.int (zv Z 158 ((zf Z 35) - 1))), some (.int (-1)), some (.int (k + 1)), some (.int (bI u9.1)), none, none] [] (zar u47.2 149 (zv Z 158 ((zf Z 35) - 1)) (-1)) Q
                refine zw_run 1 (pc' := 336) (loc' := [some (.ref 136), some (.int k), some (.int ((zf Z 35) - 1)), some (.int (zv Z 158 ((zf Z 35) - 1))), some (.int (-1)), some (.int (k + 1)), some (.int (bI u9.1)), none, none]) (stk' := [.ref 136]) (fun _ _ _ => rfl) ?_
                refine zw_mget (v := .ref 143) rfl rfl ?_
                refine zw_run 2 (pc' := 341) (loc' := [some (.ref 136), some (.int k), some (.int ((zf Z 35) - 1)), some (.int (zv Z 158 ((zf Z 35) - 1))), some (.int (-1)), some (.int (k + 1)), some (.int (bI u9.1)), none, none]) (stk' := [.ref 136, .int (zv Z 158 ((zf Z 35) - 1)), .ref 143]) (fun _ _ _ => rfl) ?_
                refine zw_mget (v := .ref 162) rfl rfl ?_
                refine zw_run 1 (pc' := 345) (loc' := [some (.ref 136), some (.int k), some (.int ((zf Z 35) - 1)), some (.int (zv Z 158 ((zf Z 35) - 1))), some (.int (-1)), some (.int (k + 1)), some (.int (bI u9.1)), none, none]) (stk' := [.int ((zf Z 35) - 1), .ref 162, .int (zv Z 158 ((zf Z 35) - 1)), .ref 143]) (fun _ _ _ => rfl) ?_
                obtain ⟨b134, H⟩ := oq_ob H
                refine zw_bald (j := 162) rfl (by decide) (by decide) rfl b134 ?_
                have J137 : ∀ (v136 : Int32), v136 = (if (zv u47.2 162 ((zf Z 35) - 1)) = 0 then 6 else 7 : Int32) → zw fm sx (d + 4) 140 356 [some (.ref 136), some (.int k), some (.int ((zf Z 35) - 1)), some (.int (zv Z 158 ((zf Z 35) - 1))), some (.int (-1)), some (.int (k + 1)), some (.int (bI u9.1)), none, none] [.int v136, .int (zv Z 158 ((zf Z 35) - 1)), .ref 143] (zar u47.2 149 (zv Z 158 ((zf Z 35) - 1)) (-1)) Q := by
                  intro v136 ev136
                  subst ev136
                  obtain ⟨b138, H⟩ := oq_ob H
                  refine zw_iast (j := 143) rfl (by decide) (by decide) rfl b138 ?_
                  show zw fm sx (d + 4) 140 357 [some (.ref 136), some (.int k), some (.int ((zf Z 35) - 1)), some (.int (zv Z 158 ((zf Z 35) - 1))), some (.int (-1)), some (.int (k + 1)), some (.int (bI u9.1)), none, none] [] (zar (zar u47.2 149 (zv Z 158 ((zf Z 35) - 1)) (-1)) 143 (zv Z 158 ((zf Z 35) - 1)) (if (zv u47.2 162 ((zf Z 35) - 1)) = 0 then 6 else 7 : Int32)) Q
                  refine zw_run 2 (pc' := 359) (loc' := [some (.ref 136), some (.int k), some (.int ((zf Z 35) - 1)), some (.int (zv Z 158 ((zf Z 35) - 1))), some (.int (-1)), some (.int (k + 1)), some (.int (bI u9.1)), none, none]) (stk' := [.ref 136, .ref 136]) (fun _ _ _ => rfl) ?_
                  refine zw_mget (v := .ref 160) rfl rfl ?_
                  refine zw_run 1 (pc' := 363) (loc' := [some (.ref 136), some (.int k), some (.int ((zf Z 35) - 1)), some (.int (zv Z 158 ((zf Z 35) - 1))), some (.int (-1)), some (.int (k + 1)), some (.int (bI u9.1)), none, none]) (stk' := [.int ((zf Z 35) - 1), .ref 160, .ref 136]) (fun _ _ _ => rfl) ?_
                  obtain ⟨b139, H⟩ := oq_ob H
                  refine zw_iald (j := 160) rfl (by decide) (by decide) rfl b139 ?_
                  obtain ⟨u140, hu140, H⟩ := oq_bind H
                  refine zw_callf (As := [.ref 136, .int (zv u47.2 160 ((zf Z 35) - 1))]) (rest := []) (c_134 hu (zv u47.2 160 ((zf Z 35) - 1)) hu140 (d := d + 0)) rfl rfl rfl rfl ?_
                  show zw fm sx (d + 4) 140 367 [some (.ref 136), some (.int k), some (.int ((zf Z 35) - 1)), some (.int (zv Z 158 ((zf Z 35) - 1))), some (.int (-1)), some (.int (k + 1)), some (.int (bI u9.1)), none, none] [] u140 Q
                  obtain ⟨hS, H⟩ := oq_ob H
                  refine zw_run 3 (pc' := 371) (loc' := [some (.ref 136), some (.int k), some (.int ((zf Z 35) - 1)), some (.int (zv Z 158 ((zf Z 35) - 1))), some (.int (-1)), some (.int (k + 1)), some (.int (bI u9.1)), none, none]) (stk' := [.int 0, .int 12, .ref 136]) (fun _ _ _ => rfl) ?_
                  obtain ⟨u141, hu141, H⟩ := oq_bind H
                  refine zw_callf (As := [.ref 136, .int 12, .int 0]) (rest := []) (c_127 hu 12 0 hu141 (d := d + 2)) rfl rfl rfl rfl ?_
                  show zw fm sx (d + 4) 140 374 [some (.ref 136), some (.int k), some (.int ((zf Z 35) - 1)), some (.int (zv Z 158 ((zf Z 35) - 1))), some (.int (-1)), some (.int (k + 1)), some (.int (bI u9.1)), none, none] [.int u141.1] u141.2 Q
                  obtain ⟨hS, H⟩ := oq_ob H
                  refine zw_run 2 (pc' := 376) (loc' := [some (.ref 136), some (.int k), some (.int ((zf Z 35) - 1)), some (.int (zv Z 158 ((zf Z 35) - 1))), some (.int (-1)), some (.int (k + 1)), some (.int (bI u9.1)), none, none]) (stk' := [.ref 136]) (fun _ _ _ => rfl) ?_
                  refine zw_mget (v := .ref 162) rfl rfl ?_
                  refine zw_run 1 (pc' := 380) (loc' := [some (.ref 136), some (.int k), some (.int ((zf Z 35) - 1)), some (.int (zv Z 158 ((zf Z 35) - 1))), some (.int (-1)), some (.int (k + 1)), some (.int (bI u9.1)), none, none]) (stk' := [.int ((zf Z 35) - 1), .ref 162]) (fun _ _ _ => rfl) ?_
                  obtain ⟨b142, H⟩ := oq_ob H
                  refine zw_bald (j := 162) rfl (by decide) (by decide) rfl b142 ?_
                  refine zw_br (c := ¬ (zv u141.2 162 ((zf Z 35) - 1)) = 0) (t1 := 388) (t2 := 384) (loc' := [some (.ref 136), some (.int k), some (.int ((zf Z 35) - 1)), some (.int (zv Z 158 ((zf Z 35) - 1))), some (.int (-1)), some (.int (k + 1)), some (.int (bI u9.1)), none, none]) (stk' := []) (fun _ _ _ => rfl) (fun c143 => ?_) (fun c143 => ?_)
                  · rw [if_pos c143] at H
                    refine zw_run 1 (pc' := 390) (loc' := [some (.ref 136), some (.int k), some (.int ((zf Z 35) - 1)), some (.int (zv Z 158 ((zf Z 35) - 1))), some (.int (-1)), some (.int (k + 1)), some (.int (bI u9.1)), none, none]) (stk' := [.int (k + 1)]) (fun _ _ _ => rfl) ?_
                    refine zw_reti (i := .nop) rfl rfl ?_
                    have H := oq_some H
                    exact H
                  · rw [if_neg c143] at H
                    refine zw_run 1 (pc' := 385) (loc' := [some (.ref 136), some (.int k), some (.int ((zf Z 35) - 1)), some (.int (zv Z 158 ((zf Z 35) - 1))), some (.int (-1)), some (.int (k + 1)), some (.int (bI u9.1)), none, none]) (stk' := [.ref 136]) (fun _ _ _ => rfl) ?_
                    obtain ⟨u144, hu144, H⟩ := oq_bind H
                    refine zw_callf (As := [.ref 136]) (rest := []) (c_138 hu hu144 (d := d + 3)) rfl rfl rfl rfl ?_
                    show zw fm sx (d + 4) 140 388 [some (.ref 136), some (.int k), some (.int ((zf Z 35) - 1)), some (.int (zv Z 158 ((zf Z 35) - 1))), some (.int (-1)), some (.int (k + 1)), some (.int (bI u9.1)), none, none] [] u144 Q
                    obtain ⟨hS, H⟩ := oq_ob H
                    refine zw_run 1 (pc' := 390) (loc' := [some (.ref 136), some (.int k), some (.int ((zf Z 35) - 1)), some (.int (zv Z 158 ((zf Z 35) - 1))), some (.int (-1)), some (.int (k + 1)), some (.int (bI u9.1)), none, none]) (stk' := [.int (k + 1)]) (fun _ _ _ => rfl) ?_
                    refine zw_reti (i := .nop) rfl rfl ?_
                    have H := oq_some H
                    exact H
                refine zw_br (c := (zv u47.2 162 ((zf Z 35) - 1)) = 0) (t1 := 354) (t2 := 349) (loc' := [some (.ref 136), some (.int k), some (.int ((zf Z 35) - 1)), some (.int (zv Z 158 ((zf Z 35) - 1))), some (.int (-1)), some (.int (k + 1)), some (.int (bI u9.1)), none, none]) (stk' := [.int (zv Z 158 ((zf Z 35) - 1)), .ref 143]) (fun _ _ _ => rfl) (fun c135 => ?_) (fun c135 => ?_)
                · skip
                  refine zw_run 1 (pc' := 356) (loc' := [some (.ref 136), some (.int k), some (.int ((zf Z 35) - 1)), some (.int (zv Z 158 ((zf Z 35) - 1))), some (.int (-1)), some (.int (k + 1)), some (.int (bI u9.1)), none, none]) (stk' := [.int 6, .int (zv Z 158 ((zf Z 35) - 1)), .ref 143]) (fun _ _ _ => rfl) ?_
                  exact J137 _ (by first | (rw [if_pos c135]; done) | (rw [if_pos c135]; rfl) | (clear H J137; simp_all [bI]; done))
                · skip
                  refine zw_run 2 (pc' := 356) (loc' := [some (.ref 136), some (.int k), some (.int ((zf Z 35) - 1)), some (.int (zv Z 158 ((zf Z 35) - 1))), some (.int (-1)), some (.int (k + 1)), some (.int (bI u9.1)), none, none]) (stk' := [.int 7, .int (zv Z 158 ((zf Z 35) - 1)), .ref 143]) (fun _ _ _ => rfl) ?_
                  exact J137 _ (by first | (rw [if_neg c135]; done) | (rw [if_neg c135]; rfl) | (clear H J137; simp_all [bI]; done))
              · rw [if_neg c132] at H
                refine zw_run 2 (pc' := 312) (loc' := [some (.ref 136), some (.int k), some (.int ((zf Z 35) - 1)), some (.int (zv Z 158 ((zf Z 35) - 1))), some (.int (-1)), some (.int (k + 1)), some (.int (bI u9.1)), none, none]) (stk' := [.int (-1), .int (-1)]) (fun _ _ _ => rfl) ?_
                refine zw_run 4 (pc' := 319) (loc' := [some (.ref 136), some (.int k), some (.int ((zf Z 35) - 1)), some (.int (zv Z 158 ((zf Z 35) - 1))), some (.int (-1)), some (.int (k + 1)), some (.int (bI u9.1)), none, none]) (stk' := [.int 93, .int 0, .ref 136]) (fun _ _ _ => rfl) ?_
                obtain ⟨u145, hu145, H⟩ := oq_bind H
                refine zw_callf (As := [.ref 136, .int 0, .int 93]) (rest := []) (c_127 hu 0 93 hu145 (d := d + 2)) rfl rfl rfl rfl ?_
                show zw fm sx (d + 4) 140 322 [some (.ref 136), some (.int k), some (.int ((zf Z 35) - 1)), some (.int (zv Z 158 ((zf Z 35) - 1))), some (.int (-1)), some (.int (k + 1)), some (.int (bI u9.1)), none, none] [.int u145.1] u145.2 Q
                obtain ⟨hS, H⟩ := oq_ob H
                refine zw_run 4 (pc' := 326) (loc' := [some (.ref 136), some (.int k), some (.int ((zf Z 35) - 1)), some (.int (zv Z 158 ((zf Z 35) - 1))), some (.int (-1)), some (.int (k + 1)), some (.int (bI u9.1)), none, none]) (stk' := [.int (k + 1)]) (fun _ _ _ => rfl) ?_
                refine zw_reti (i := .nop) rfl rfl ?_
                have H := oq_some H
                exact H
    · rw [if_neg c7] at H
      refine zw_run 2 (pc' := 23) (loc' := [some (.ref 136), some (.int k), none, none, none, none, none, none, none]) (stk' := [.ref 136, .ref 136]) (fun _ _ _ => rfl) ?_
      refine zw_mget (v := .int (zf Z 35)) rfl rfl ?_
      refine zw_run 1 (pc' := 27) (loc' := [some (.ref 136), some (.int k), none, none, none, none, none, none, none]) (stk' := [.ref 136, .int (zf Z 35), .ref 136]) (fun _ _ _ => rfl) ?_
      refine zw_mget (v := .int (zf Z 35)) rfl rfl ?_
      have J148 : ∀ (v147 : Int32), v147 = (bI (!(decide ((zf Z 35) = 0)))) → zw fm sx (d + 4) 140 38 [some (.ref 136), some (.int k), none, none, none, none, none, none, none] [.int v147, .int (zf Z 35), .ref 136] Z Q := by
        intro v147 ev147
        subst ev147
        refine zw_run 1 (pc' := 39) (loc' := [some (.ref 136), some (.int k), none, none, none, none, none, none, none]) (stk' := [.int ((zf Z 35) - (bI (!(decide ((zf Z 35) = 0))))), .ref 136]) (fun _ _ _ => rfl) ?_
        refine zw_mput rfl rfl rfl rfl ?_
        show zw fm sx (d + 4) 140 42 [some (.ref 136), some (.int k), none, none, none, none, none, none, none] [] (zmf Z 35 ((zf Z 35) - (bI (!(decide ((zf Z 35) = 0)))))) Q
        refine zw_run 3 (pc' := 46) (loc' := [some (.ref 136), some (.int k), none, none, none, none, none, none, none]) (stk' := [.int 93, .int 0, .ref 136]) (fun _ _ _ => rfl) ?_
        obtain ⟨u149, hu149, H⟩ := oq_bind H
        refine zw_callf (As := [.ref 136, .int 0, .int 93]) (rest := []) (c_127 hu 0 93 hu149 (d := d + 2)) rfl rfl rfl rfl ?_
        show zw fm sx (d + 4) 140 49 [some (.ref 136), some (.int k), none, none, none, none, none, none, none] [.int u149.1] u149.2 Q
        obtain ⟨hS, H⟩ := oq_ob H
        refine zw_run 4 (pc' := 53) (loc' := [some (.ref 136), some (.int k), none, none, none, none, none, none, none]) (stk' := [.int (k + 1)]) (fun _ _ _ => rfl) ?_
        refine zw_reti (i := .nop) rfl rfl ?_
        have H := oq_some H
        exact H
      refine zw_br (c := ¬ (zf Z 35) = 0) (t1 := 37) (t2 := 33) (loc' := [some (.ref 136), some (.int k), none, none, none, none, none, none, none]) (stk' := [.int (zf Z 35), .ref 136]) (fun _ _ _ => rfl) (fun c146 => ?_) (fun c146 => ?_)
      · skip
        refine zw_run 1 (pc' := 38) (loc' := [some (.ref 136), some (.int k), none, none, none, none, none, none, none]) (stk' := [.int 1, .int (zf Z 35), .ref 136]) (fun _ _ _ => rfl) ?_
        exact J148 _ (by clear H J148; first | (simp [bI, c146]; done) | (simp [bI, *]; done) | (simp_all [bI]; done) | (rw [decide_eq_true (Decidable.not_not.mp c146)]; rfl) | (exfalso; simp_all; done))
      · skip
        refine zw_run 2 (pc' := 38) (loc' := [some (.ref 136), some (.int k), none, none, none, none, none, none, none]) (stk' := [.int 0, .int (zf Z 35), .ref 136]) (fun _ _ _ => rfl) ?_
        exact J148 _ (by clear H J148; first | (simp [bI, c146]; done) | (simp [bI, *]; done) | (simp_all [bI]; done) | (rw [decide_eq_true (Decidable.not_not.mp c146)]; rfl) | (exfalso; simp_all; done))
theorem c_140 {fm : Value} {sx : Nat × (Nat → Int32)} {d : Nat} {Z : zr_Z} (hu : fm = .null ∨ ∃ q, fm = .ref q) (k : Int32) {x : Int32 × zr_Z} (hx : o_140 Z k = some x) : zl fm sx (d + 5) 140 [.ref 136, .int k] Z (fun r Z' => r = some (.int x.1) ∧ Z' = x.2) :=
  zl_of (nL := 9) (loc0 := [some (.ref 136), some (.int k), none, none, none, none, none, none, none]) rfl rfl rfl (t_140 hu k ⟨x, hx, rfl, rfl⟩)
/-- MarkInlinesModel.address, its loop at 210 -/
def g_142_210 : Nat → zr_Z → Int32 → Int32 → Int32 → Option (Int32 × zr_Z)
  | 0, _, _, _, _ => none
  | n + 1, Z, k, x2, x4 => (if sok Z then (if (k_141 (ra Z x2)) = true then g_142_210 n Z k (x2 + 1) x4 else (olet (((!(decide (x2 ≤ x4))) && (bif (k_154 (ra Z x4)) then (k_154 (ra Z (x2 - 1))) || (k_165 (ra Z (x2 - 1))) else (k_165 (ra Z x4)) && ((k_154 (ra Z (x2 - 1))) || (k_165 (ra Z (x2 - 1)))))) : Bool) fun y11 => some ((if y11 = true then (if ¬ (ra Z x2) = 62 then (-1) else x2 : Int32) else (-1) : Int32), zmf Z 51 1))) else none)
set_option maxRecDepth 100000 in
set_option maxHeartbeats 4000000 in
theorem l_142_210 {fm : Value} {sx : Nat × (Nat → Int32)} {d : Nat} {Q : Option Value → zr_Z → Prop} (hu : fm = .null ∨ ∃ q, fm = .ref q) (k : Int32) : ∀ (n : Nat) (Z : zr_Z) (x2 : Int32) (x4 : Int32), oq (g_142_210 n Z k x2 x4) (fun x => Q (some (.int x.1)) x.2) → zw fm sx (d + 2) 142 210 [some (.ref 136), none, some (.int x2), none, some (.int x4), none] [] Z Q := by
  intro n
  induction n with
  | zero => intro Z x2 x4 H; exact absurd H oq_none
  | succ n ih =>
    intro Z x2 x4 H
    unfold g_142_210 at H
    obtain ⟨hS, H⟩ := oq_ob H
    refine zw_run 2 (pc' := 212) (loc' := [some (.ref 136), none, some (.int x2), none, some (.int x4), none]) (stk' := [.int x2, .ref 136]) (fun _ _ _ => rfl) ?_
    refine zw_callf (As := [.ref 136, .int x2]) (rest := []) (c_183 (Z := Z) hS x2 (d := d + 1)) rfl rfl rfl rfl ?_
    show zw fm sx (d + 2) 142 215 [some (.ref 136), none, some (.int x2), none, some (.int x4), none] [.int (ra Z x2)] Z Q
    refine zw_callf (As := [.int (ra Z x2)]) (rest := []) (c_141 (ra Z x2) (d := d + 0)) rfl rfl rfl rfl ?_
    show zw fm sx (d + 2) 142 218 [some (.ref 136), none, some (.int x2), none, some (.int x4), none] [.int (bI (k_141 (ra Z x2)))] Z Q
    refine zw_b0 (b := (k_141 (ra Z x2))) (t1 := 221) (t2 := 227) (loc' := [some (.ref 136), none, some (.int x2), none, some (.int x4), none]) (stk' := []) (fun _ _ _ => rfl) (fun c1 => ?_) (fun c1 => ?_)
    · rw [if_pos c1] at H
      refine zw_run 2 (pc' := 210) (loc' := [some (.ref 136), none, some (.int (x2 + 1)), none, some (.int x4), none]) (stk' := []) (fun _ _ _ => rfl) ?_
      exact ih Z (x2 + 1) x4 H
    · rw [if_neg c1] at H
      refine zw_run 2 (pc' := 230) (loc' := [some (.ref 136), none, some (.int x2), none, some (.int x4), none]) (stk' := [.int x4, .int x2]) (fun _ _ _ => rfl) ?_
      have J10 : ∀ (v9 : Int32), v9 = (bI ((!(decide (x2 ≤ x4))) && (bif (k_154 (ra Z x4)) then (k_154 (ra Z (x2 - 1))) || (k_165 (ra Z (x2 - 1))) else (k_165 (ra Z x4)) && ((k_154 (ra Z (x2 - 1))) || (k_165 (ra Z (x2 - 1))))))) → zw fm sx (d + 2) 142 288 [some (.ref 136), none, some (.int x2), none, some (.int x4), none] [.int v9] Z Q := by
        intro v9 ev9
        subst ev9
        refine zw_run 1 (pc' := 290) (loc' := [some (.ref 136), none, some (.int x2), none, some (.int x4), some (.int (bI ((!(decide (x2 ≤ x4))) && (bif (k_154 (ra Z x4)) then (k_154 (ra Z (x2 - 1))) || (k_165 (ra Z (x2 - 1))) else (k_165 (ra Z x4)) && ((k_154 (ra Z (x2 - 1))) || (k_165 (ra Z (x2 - 1))))))))]) (stk' := []) (fun _ _ _ => rfl) ?_
        obtain ⟨y11, hy11⟩ : ∃ w : Bool, w = ((!(decide (x2 ≤ x4))) && (bif (k_154 (ra Z x4)) then (k_154 (ra Z (x2 - 1))) || (k_165 (ra Z (x2 - 1))) else (k_165 (ra Z x4)) && ((k_154 (ra Z (x2 - 1))) || (k_165 (ra Z (x2 - 1)))))) := ⟨_, rfl⟩
        rw [← hy11]
        have H := oq_let H y11 hy11
        refine zw_run 2 (pc' := 292) (loc' := [some (.ref 136), none, some (.int x2), none, some (.int x4), some (.int (bI y11))]) (stk' := [.int 1, .ref 136]) (fun _ _ _ => rfl) ?_
        refine zw_mput rfl rfl rfl rfl ?_
        show zw fm sx (d + 2) 142 295 [some (.ref 136), none, some (.int x2), none, some (.int x4), some (.int (bI y11))] [] (zmf Z 51 1) Q
        refine zw_run 1 (pc' := 297) (loc' := [some (.ref 136), none, some (.int x2), none, some (.int x4), some (.int (bI y11))]) (stk' := [.int (bI y11)]) (fun _ _ _ => rfl) ?_
        have J15 : ∀ (v14 : Int32), v14 = (if y11 = true then (if ¬ (ra Z x2) = 62 then (-1) else x2 : Int32) else (-1) : Int32) → zw fm sx (d + 2) 142 315 [some (.ref 136), none, some (.int x2), none, some (.int x4), some (.int (bI y11))] [.int v14] (zmf Z 51 1) Q := by
          intro v14 ev14
          subst ev14
          refine zw_reti (i := .nop) rfl rfl ?_
          have H := oq_some H
          exact H
        refine zw_b0 (b := y11) (t1 := 300) (t2 := 314) (loc' := [some (.ref 136), none, some (.int x2), none, some (.int x4), some (.int (bI y11))]) (stk' := []) (fun _ _ _ => rfl) (fun c12 => ?_) (fun c12 => ?_)
        · skip
          refine zw_run 2 (pc' := 302) (loc' := [some (.ref 136), none, some (.int x2), none, some (.int x4), some (.int (bI y11))]) (stk' := [.int x2, .ref 136]) (fun _ _ _ => rfl) ?_
          refine zw_callf (As := [.ref 136, .int x2]) (rest := []) (c_183 (Z := zmf Z 51 1) hS x2 (d := d + 1)) rfl rfl rfl rfl ?_
          show zw fm sx (d + 2) 142 305 [some (.ref 136), none, some (.int x2), none, some (.int x4), some (.int (bI y11))] [.int (ra Z x2)] (zmf Z 51 1) Q
          refine zw_run 1 (pc' := 307) (loc' := [some (.ref 136), none, some (.int x2), none, some (.int x4), some (.int (bI y11))]) (stk' := [.int 62, .int (ra Z x2)]) (fun _ _ _ => rfl) ?_
          refine zw_br (c := ¬ (ra Z x2) = 62) (t1 := 314) (t2 := 310) (loc' := [some (.ref 136), none, some (.int x2), none, some (.int x4), some (.int (bI y11))]) (stk' := []) (fun _ _ _ => rfl) (fun c13 => ?_) (fun c13 => ?_)
          · skip
            refine zw_run 1 (pc' := 315) (loc' := [some (.ref 136), none, some (.int x2), none, some (.int x4), some (.int (bI y11))]) (stk' := [.int (-1)]) (fun _ _ _ => rfl) ?_
            exact J15 _ (by first | (rw [if_pos c12, if_pos c13]; done) | (rw [if_pos c12, if_pos c13]; rfl) | (clear H J15; simp_all [bI]; done))
          · skip
            refine zw_run 2 (pc' := 315) (loc' := [some (.ref 136), none, some (.int x2), none, some (.int x4), some (.int (bI y11))]) (stk' := [.int x2]) (fun _ _ _ => rfl) ?_
            exact J15 _ (by first | (rw [if_pos c12, if_neg c13]; done) | (rw [if_pos c12, if_neg c13]; rfl) | (clear H J15; simp_all [bI]; done))
        · skip
          refine zw_run 1 (pc' := 315) (loc' := [some (.ref 136), none, some (.int x2), none, some (.int x4), some (.int (bI y11))]) (stk' := [.int (-1)]) (fun _ _ _ => rfl) ?_
          exact J15 _ (by first | (rw [if_neg c12]; done) | (rw [if_neg c12]; rfl) | (clear H J15; simp_all [bI]; done))
      refine zw_br (c := x2 ≤ x4) (t1 := 287) (t2 := 233) (loc' := [some (.ref 136), none, some (.int x2), none, some (.int x4), none]) (stk' := []) (fun _ _ _ => rfl) (fun c2 => ?_) (fun c2 => ?_)
      · skip
        refine zw_run 1 (pc' := 288) (loc' := [some (.ref 136), none, some (.int x2), none, some (.int x4), none]) (stk' := [.int 0]) (fun _ _ _ => rfl) ?_
        exact J10 _ (by clear H J10; first | (simp [bI, c2]; done) | (simp [bI, *]; done) | (simp_all [bI]; done) | (rw [decide_eq_true (Decidable.not_not.mp c2)]; rfl) | (exfalso; simp_all; done))
      · skip
        refine zw_run 2 (pc' := 236) (loc' := [some (.ref 136), none, some (.int x2), none, some (.int x4), none]) (stk' := [.int x4, .ref 136]) (fun _ _ _ => rfl) ?_
        refine zw_callf (As := [.ref 136, .int x4]) (rest := []) (c_183 (Z := Z) hS x4 (d := d + 1)) rfl rfl rfl rfl ?_
        show zw fm sx (d + 2) 142 239 [some (.ref 136), none, some (.int x2), none, some (.int x4), none] [.int (ra Z x4)] Z Q
        refine zw_callf (As := [.int (ra Z x4)]) (rest := []) (c_154 (ra Z x4) (d := d + 1)) rfl rfl rfl rfl ?_
        show zw fm sx (d + 2) 142 242 [some (.ref 136), none, some (.int x2), none, some (.int x4), none] [.int (bI (k_154 (ra Z x4)))] Z Q
        refine zw_b1 (b := (k_154 (ra Z x4))) (t1 := 257) (t2 := 245) (loc' := [some (.ref 136), none, some (.int x2), none, some (.int x4), none]) (stk' := []) (fun _ _ _ => rfl) (fun c3 => ?_) (fun c3 => ?_)
        · skip
          refine zw_run 4 (pc' := 261) (loc' := [some (.ref 136), none, some (.int x2), none, some (.int x4), none]) (stk' := [.int (x2 - 1), .ref 136]) (fun _ _ _ => rfl) ?_
          refine zw_callf (As := [.ref 136, .int (x2 - 1)]) (rest := []) (c_183 (Z := Z) hS (x2 - 1) (d := d + 1)) rfl rfl rfl rfl ?_
          show zw fm sx (d + 2) 142 264 [some (.ref 136), none, some (.int x2), none, some (.int x4), none] [.int (ra Z (x2 - 1))] Z Q
          refine zw_callf (As := [.int (ra Z (x2 - 1))]) (rest := []) (c_154 (ra Z (x2 - 1)) (d := d + 1)) rfl rfl rfl rfl ?_
          show zw fm sx (d + 2) 142 267 [some (.ref 136), none, some (.int x2), none, some (.int x4), none] [.int (bI (k_154 (ra Z (x2 - 1))))] Z Q
          refine zw_b1 (b := (k_154 (ra Z (x2 - 1)))) (t1 := 283) (t2 := 270) (loc' := [some (.ref 136), none, some (.int x2), none, some (.int x4), none]) (stk' := []) (fun _ _ _ => rfl) (fun c4 => ?_) (fun c4 => ?_)
          · skip
            refine zw_run 2 (pc' := 288) (loc' := [some (.ref 136), none, some (.int x2), none, some (.int x4), none]) (stk' := [.int 1]) (fun _ _ _ => rfl) ?_
            exact J10 _ (by clear H J10; first | (simp [bI, c2, c3, c4]; done) | (simp [bI, *]; done) | (simp_all [bI]; done) | (rw [decide_eq_true (Decidable.not_not.mp c2)]; rfl) | (rw [decide_eq_true (Decidable.not_not.mp c3)]; rfl) | (rw [decide_eq_true (Decidable.not_not.mp c4)]; rfl) | (exfalso; simp_all; done))
          · skip
            refine zw_run 4 (pc' := 274) (loc' := [some (.ref 136), none, some (.int x2), none, some (.int x4), none]) (stk' := [.int (x2 - 1), .ref 136]) (fun _ _ _ => rfl) ?_
            refine zw_callf (As := [.ref 136, .int (x2 - 1)]) (rest := []) (c_183 (Z := Z) hS (x2 - 1) (d := d + 1)) rfl rfl rfl rfl ?_
            show zw fm sx (d + 2) 142 277 [some (.ref 136), none, some (.int x2), none, some (.int x4), none] [.int (ra Z (x2 - 1))] Z Q
            refine zw_callf (As := [.int (ra Z (x2 - 1))]) (rest := []) (c_165 (ra Z (x2 - 1)) (d := d + 1)) rfl rfl rfl rfl ?_
            show zw fm sx (d + 2) 142 280 [some (.ref 136), none, some (.int x2), none, some (.int x4), none] [.int (bI (k_165 (ra Z (x2 - 1))))] Z Q
            refine zw_b0 (b := (k_165 (ra Z (x2 - 1)))) (t1 := 283) (t2 := 287) (loc' := [some (.ref 136), none, some (.int x2), none, some (.int x4), none]) (stk' := []) (fun _ _ _ => rfl) (fun c5 => ?_) (fun c5 => ?_)
            · skip
              refine zw_run 2 (pc' := 288) (loc' := [some (.ref 136), none, some (.int x2), none, some (.int x4), none]) (stk' := [.int 1]) (fun _ _ _ => rfl) ?_
              exact J10 _ (by clear H J10; first | (simp [bI, c2, c3, c4, c5]; done) | (simp [bI, *]; done) | (simp_all [bI]; done) | (rw [decide_eq_true (Decidable.not_not.mp c2)]; rfl) | (rw [decide_eq_true (Decidable.not_not.mp c3)]; rfl) | (rw [decide_eq_true (Decidable.not_not.mp c4)]; rfl) | (rw [decide_eq_true (Decidable.not_not.mp c5)]; rfl) | (exfalso; simp_all; done))
            · skip
              refine zw_run 1 (pc' := 288) (loc' := [some (.ref 136), none, some (.int x2), none, some (.int x4), none]) (stk' := [.int 0]) (fun _ _ _ => rfl) ?_
              exact J10 _ (by clear H J10; first | (simp [bI, c2, c3, c4, c5]; done) | (simp [bI, *]; done) | (simp_all [bI]; done) | (rw [decide_eq_true (Decidable.not_not.mp c2)]; rfl) | (rw [decide_eq_true (Decidable.not_not.mp c3)]; rfl) | (rw [decide_eq_true (Decidable.not_not.mp c4)]; rfl) | (rw [decide_eq_true (Decidable.not_not.mp c5)]; rfl) | (exfalso; simp_all; done))
        · skip
          refine zw_run 2 (pc' := 248) (loc' := [some (.ref 136), none, some (.int x2), none, some (.int x4), none]) (stk' := [.int x4, .ref 136]) (fun _ _ _ => rfl) ?_
          refine zw_callf (As := [.ref 136, .int x4]) (rest := []) (c_183 (Z := Z) hS x4 (d := d + 1)) rfl rfl rfl rfl ?_
          show zw fm sx (d + 2) 142 251 [some (.ref 136), none, some (.int x2), none, some (.int x4), none] [.int (ra Z x4)] Z Q
          refine zw_callf (As := [.int (ra Z x4)]) (rest := []) (c_165 (ra Z x4) (d := d + 1)) rfl rfl rfl rfl ?_
          show zw fm sx (d + 2) 142 254 [some (.ref 136), none, some (.int x2), none, some (.int x4), none] [.int (bI (k_165 (ra Z x4)))] Z Q
          refine zw_b0 (b := (k_165 (ra Z x4))) (t1 := 257) (t2 := 287) (loc' := [some (.ref 136), none, some (.int x2), none, some (.int x4), none]) (stk' := []) (fun _ _ _ => rfl) (fun c6 => ?_) (fun c6 => ?_)
          · skip
            refine zw_run 4 (pc' := 261) (loc' := [some (.ref 136), none, some (.int x2), none, some (.int x4), none]) (stk' := [.int (x2 - 1), .ref 136]) (fun _ _ _ => rfl) ?_
            refine zw_callf (As := [.ref 136, .int (x2 - 1)]) (rest := []) (c_183 (Z := Z) hS (x2 - 1) (d := d + 1)) rfl rfl rfl rfl ?_
            show zw fm sx (d + 2) 142 264 [some (.ref 136), none, some (.int x2), none, some (.int x4), none] [.int (ra Z (x2 - 1))] Z Q
            refine zw_callf (As := [.int (ra Z (x2 - 1))]) (rest := []) (c_154 (ra Z (x2 - 1)) (d := d + 1)) rfl rfl rfl rfl ?_
            show zw fm sx (d + 2) 142 267 [some (.ref 136), none, some (.int x2), none, some (.int x4), none] [.int (bI (k_154 (ra Z (x2 - 1))))] Z Q
            refine zw_b1 (b := (k_154 (ra Z (x2 - 1)))) (t1 := 283) (t2 := 270) (loc' := [some (.ref 136), none, some (.int x2), none, some (.int x4), none]) (stk' := []) (fun _ _ _ => rfl) (fun c7 => ?_) (fun c7 => ?_)
            · skip
              refine zw_run 2 (pc' := 288) (loc' := [some (.ref 136), none, some (.int x2), none, some (.int x4), none]) (stk' := [.int 1]) (fun _ _ _ => rfl) ?_
              exact J10 _ (by clear H J10; first | (simp [bI, c2, c3, c6, c7]; done) | (simp [bI, *]; done) | (simp_all [bI]; done) | (rw [decide_eq_true (Decidable.not_not.mp c2)]; rfl) | (rw [decide_eq_true (Decidable.not_not.mp c3)]; rfl) | (rw [decide_eq_true (Decidable.not_not.mp c6)]; rfl) | (rw [decide_eq_true (Decidable.not_not.mp c7)]; rfl) | (exfalso; simp_all; done))
            · skip
              refine zw_run 4 (pc' := 274) (loc' := [some (.ref 136), none, some (.int x2), none, some (.int x4), none]) (stk' := [.int (x2 - 1), .ref 136]) (fun _ _ _ => rfl) ?_
              refine zw_callf (As := [.ref 136, .int (x2 - 1)]) (rest := []) (c_183 (Z := Z) hS (x2 - 1) (d := d + 1)) rfl rfl rfl rfl ?_
              show zw fm sx (d + 2) 142 277 [some (.ref 136), none, some (.int x2), none, some (.int x4), none] [.int (ra Z (x2 - 1))] Z Q
              refine zw_callf (As := [.int (ra Z (x2 - 1))]) (rest := []) (c_165 (ra Z (x2 - 1)) (d := d + 1)) rfl rfl rfl rfl ?_
              show zw fm sx (d + 2) 142 280 [some (.ref 136), none, some (.int x2), none, some (.int x4), none] [.int (bI (k_165 (ra Z (x2 - 1))))] Z Q
              refine zw_b0 (b := (k_165 (ra Z (x2 - 1)))) (t1 := 283) (t2 := 287) (loc' := [some (.ref 136), none, some (.int x2), none, some (.int x4), none]) (stk' := []) (fun _ _ _ => rfl) (fun c8 => ?_) (fun c8 => ?_)
              · skip
                refine zw_run 2 (pc' := 288) (loc' := [some (.ref 136), none, some (.int x2), none, some (.int x4), none]) (stk' := [.int 1]) (fun _ _ _ => rfl) ?_
                exact J10 _ (by clear H J10; first | (simp [bI, c2, c3, c6, c7, c8]; done) | (simp [bI, *]; done) | (simp_all [bI]; done) | (rw [decide_eq_true (Decidable.not_not.mp c2)]; rfl) | (rw [decide_eq_true (Decidable.not_not.mp c3)]; rfl) | (rw [decide_eq_true (Decidable.not_not.mp c6)]; rfl) | (rw [decide_eq_true (Decidable.not_not.mp c7)]; rfl) | (rw [decide_eq_true (Decidable.not_not.mp c8)]; rfl) | (exfalso; simp_all; done))
              · skip
                refine zw_run 1 (pc' := 288) (loc' := [some (.ref 136), none, some (.int x2), none, some (.int x4), none]) (stk' := [.int 0]) (fun _ _ _ => rfl) ?_
                exact J10 _ (by clear H J10; first | (simp [bI, c2, c3, c6, c7, c8]; done) | (simp [bI, *]; done) | (simp_all [bI]; done) | (rw [decide_eq_true (Decidable.not_not.mp c2)]; rfl) | (rw [decide_eq_true (Decidable.not_not.mp c3)]; rfl) | (rw [decide_eq_true (Decidable.not_not.mp c6)]; rfl) | (rw [decide_eq_true (Decidable.not_not.mp c7)]; rfl) | (rw [decide_eq_true (Decidable.not_not.mp c8)]; rfl) | (exfalso; simp_all; done))
          · skip
            refine zw_run 1 (pc' := 288) (loc' := [some (.ref 136), none, some (.int x2), none, some (.int x4), none]) (stk' := [.int 0]) (fun _ _ _ => rfl) ?_
            exact J10 _ (by clear H J10; first | (simp [bI, c2, c3, c6]; done) | (simp [bI, *]; done) | (simp_all [bI]; done) | (rw [decide_eq_true (Decidable.not_not.mp c2)]; rfl) | (rw [decide_eq_true (Decidable.not_not.mp c3)]; rfl) | (rw [decide_eq_true (Decidable.not_not.mp c6)]; rfl) | (exfalso; simp_all; done))
/-- MarkInlinesModel.address, its loop at 166 -/
def g_142_166 : Nat → zr_Z → Int32 → Int32 → Option (Int32 × zr_Z)
  | 0, _, _, _ => none
  | n + 1, Z, k, x2 => (if sok Z then (if (k_141 (ra Z x2)) = true then g_142_166 n Z k (x2 + 1) else (if x2 = (k + 1) then some ((-1), Z) else (if (ra Z x2) = 64 then g_142_210 oF Z k (x2 + 1) (x2 + 1) else some ((-1), Z)))) else none)
set_option maxRecDepth 100000 in
set_option maxHeartbeats 4000000 in
theorem l_142_166 {fm : Value} {sx : Nat × (Nat → Int32)} {d : Nat} {Q : Option Value → zr_Z → Prop} (hu : fm = .null ∨ ∃ q, fm = .ref q) (k : Int32) : ∀ (n : Nat) (Z : zr_Z) (x2 : Int32), oq (g_142_166 n Z k x2) (fun x => Q (some (.int x.1)) x.2) → zw fm sx (d + 2) 142 166 [some (.ref 136), some (.int k), some (.int x2), none, none, none] [] Z Q := by
  intro n
  induction n with
  | zero => intro Z x2 H; exact absurd H oq_none
  | succ n ih =>
    intro Z x2 H
    unfold g_142_166 at H
    obtain ⟨hS, H⟩ := oq_ob H
    refine zw_run 2 (pc' := 168) (loc' := [some (.ref 136), some (.int k), some (.int x2), none, none, none]) (stk' := [.int x2, .ref 136]) (fun _ _ _ => rfl) ?_
    refine zw_callf (As := [.ref 136, .int x2]) (rest := []) (c_183 (Z := Z) hS x2 (d := d + 1)) rfl rfl rfl rfl ?_
    show zw fm sx (d + 2) 142 171 [some (.ref 136), some (.int k), some (.int x2), none, none, none] [.int (ra Z x2)] Z Q
    refine zw_callf (As := [.int (ra Z x2)]) (rest := []) (c_141 (ra Z x2) (d := d + 0)) rfl rfl rfl rfl ?_
    show zw fm sx (d + 2) 142 174 [some (.ref 136), some (.int k), some (.int x2), none, none, none] [.int (bI (k_141 (ra Z x2)))] Z Q
    refine zw_b0 (b := (k_141 (ra Z x2))) (t1 := 177) (t2 := 183) (loc' := [some (.ref 136), some (.int k), some (.int x2), none, none, none]) (stk' := []) (fun _ _ _ => rfl) (fun c1 => ?_) (fun c1 => ?_)
    · rw [if_pos c1] at H
      refine zw_run 2 (pc' := 166) (loc' := [some (.ref 136), some (.int k), some (.int (x2 + 1)), none, none, none]) (stk' := []) (fun _ _ _ => rfl) ?_
      exact ih Z (x2 + 1) H
    · rw [if_neg c1] at H
      refine zw_run 4 (pc' := 187) (loc' := [some (.ref 136), some (.int k), some (.int x2), none, none, none]) (stk' := [.int (k + 1), .int x2]) (fun _ _ _ => rfl) ?_
      refine zw_br (c := x2 = (k + 1)) (t1 := 200) (t2 := 190) (loc' := [some (.ref 136), some (.int k), some (.int x2), none, none, none]) (stk' := []) (fun _ _ _ => rfl) (fun c2 => ?_) (fun c2 => ?_)
      · rw [if_pos c2] at H
        refine zw_run 1 (pc' := 201) (loc' := [some (.ref 136), some (.int k), some (.int x2), none, none, none]) (stk' := [.int (-1)]) (fun _ _ _ => rfl) ?_
        refine zw_reti (i := .nop) rfl rfl ?_
        have H := oq_some H
        exact H
      · rw [if_neg c2] at H
        refine zw_run 2 (pc' := 192) (loc' := [some (.ref 136), some (.int k), some (.int x2), none, none, none]) (stk' := [.int x2, .ref 136]) (fun _ _ _ => rfl) ?_
        refine zw_callf (As := [.ref 136, .int x2]) (rest := []) (c_183 (Z := Z) hS x2 (d := d + 1)) rfl rfl rfl rfl ?_
        show zw fm sx (d + 2) 142 195 [some (.ref 136), some (.int k), some (.int x2), none, none, none] [.int (ra Z x2)] Z Q
        refine zw_run 1 (pc' := 197) (loc' := [some (.ref 136), some (.int k), some (.int x2), none, none, none]) (stk' := [.int 64, .int (ra Z x2)]) (fun _ _ _ => rfl) ?_
        refine zw_br (c := (ra Z x2) = 64) (t1 := 202) (t2 := 200) (loc' := [some (.ref 136), some (.int k), some (.int x2), none, none, none]) (stk' := []) (fun _ _ _ => rfl) (fun c3 => ?_) (fun c3 => ?_)
        · rw [if_pos c3] at H
          refine zw_run 5 (pc' := 210) (loc' := [some (.ref 136), some (.int k), some (.int (x2 + 1)), none, some (.int (x2 + 1)), none]) (stk' := []) (fun _ _ _ => rfl) ?_
          refine zw_fgt [true, false, true, false, true, false] rfl ?_
          exact l_142_210 hu k _ Z (x2 + 1) (x2 + 1) H
        · rw [if_neg c3] at H
          refine zw_run 1 (pc' := 201) (loc' := [some (.ref 136), some (.int k), some (.int x2), none, none, none]) (stk' := [.int (-1)]) (fun _ _ _ => rfl) ?_
          refine zw_reti (i := .nop) rfl rfl ?_
          have H := oq_some H
          exact H
/-- MarkInlinesModel.address, its loop at 99 -/
def g_142_99 : Nat → zr_Z → Int32 → Int32 → Option (Int32 × zr_Z)
  | 0, _, _, _ => none
  | n + 1, Z, k, x2 => (if sok Z then (if (ra Z x2) ≤ 32 then (if ¬ (ra Z x2) = 62 then g_142_166 oF Z k (k + 1) else some (x2, zmf Z 51 0)) else (if (ra Z x2) = 60 then (if ¬ (ra Z x2) = 62 then g_142_166 oF Z k (k + 1) else some (x2, zmf Z 51 0)) else (if (ra Z x2) = 62 then (if ¬ (ra Z x2) = 62 then g_142_166 oF Z k (k + 1) else some (x2, zmf Z 51 0)) else (if (ra Z x2) = 127 then (if ¬ (ra Z x2) = 62 then g_142_166 oF Z k (k + 1) else some (x2, zmf Z 51 0)) else g_142_99 n Z k (x2 + 1))))) else none)
set_option maxRecDepth 100000 in
set_option maxHeartbeats 4000000 in
theorem l_142_99 {fm : Value} {sx : Nat × (Nat → Int32)} {d : Nat} {Q : Option Value → zr_Z → Prop} (hu : fm = .null ∨ ∃ q, fm = .ref q) (k : Int32) : ∀ (n : Nat) (Z : zr_Z) (x2 : Int32), oq (g_142_99 n Z k x2) (fun x => Q (some (.int x.1)) x.2) → zw fm sx (d + 2) 142 99 [some (.ref 136), some (.int k), some (.int x2), none, none, none] [] Z Q := by
  intro n
  induction n with
  | zero => intro Z x2 H; exact absurd H oq_none
  | succ n ih =>
    intro Z x2 H
    unfold g_142_99 at H
    obtain ⟨hS, H⟩ := oq_ob H
    refine zw_run 2 (pc' := 101) (loc' := [some (.ref 136), some (.int k), some (.int x2), none, none, none]) (stk' := [.int x2, .ref 136]) (fun _ _ _ => rfl) ?_
    refine zw_callf (As := [.ref 136, .int x2]) (rest := []) (c_183 (Z := Z) hS x2 (d := d + 1)) rfl rfl rfl rfl ?_
    show zw fm sx (d + 2) 142 104 [some (.ref 136), some (.int k), some (.int x2), none, none, none] [.int (ra Z x2)] Z Q
    refine zw_run 1 (pc' := 106) (loc' := [some (.ref 136), some (.int k), some (.int x2), none, none, none]) (stk' := [.int 32, .int (ra Z x2)]) (fun _ _ _ => rfl) ?_
    refine zw_br (c := (ra Z x2) ≤ 32) (t1 := 145) (t2 := 109) (loc' := [some (.ref 136), some (.int k), some (.int x2), none, none, none]) (stk' := []) (fun _ _ _ => rfl) (fun c1 => ?_) (fun c1 => ?_)
    · rw [if_pos c1] at H
      refine zw_run 2 (pc' := 147) (loc' := [some (.ref 136), some (.int k), some (.int x2), none, none, none]) (stk' := [.int x2, .ref 136]) (fun _ _ _ => rfl) ?_
      refine zw_callf (As := [.ref 136, .int x2]) (rest := []) (c_183 (Z := Z) hS x2 (d := d + 1)) rfl rfl rfl rfl ?_
      show zw fm sx (d + 2) 142 150 [some (.ref 136), some (.int k), some (.int x2), none, none, none] [.int (ra Z x2)] Z Q
      refine zw_run 1 (pc' := 152) (loc' := [some (.ref 136), some (.int k), some (.int x2), none, none, none]) (stk' := [.int 62, .int (ra Z x2)]) (fun _ _ _ => rfl) ?_
      refine zw_br (c := ¬ (ra Z x2) = 62) (t1 := 162) (t2 := 155) (loc' := [some (.ref 136), some (.int k), some (.int x2), none, none, none]) (stk' := []) (fun _ _ _ => rfl) (fun c2 => ?_) (fun c2 => ?_)
      · rw [if_pos c2] at H
        refine zw_run 4 (pc' := 166) (loc' := [some (.ref 136), some (.int k), some (.int (k + 1)), none, none, none]) (stk' := []) (fun _ _ _ => rfl) ?_
        exact l_142_166 hu k _ Z (k + 1) H
      · rw [if_neg c2] at H
        refine zw_run 2 (pc' := 157) (loc' := [some (.ref 136), some (.int k), some (.int x2), none, none, none]) (stk' := [.int 0, .ref 136]) (fun _ _ _ => rfl) ?_
        refine zw_mput rfl rfl rfl rfl ?_
        show zw fm sx (d + 2) 142 160 [some (.ref 136), some (.int k), some (.int x2), none, none, none] [] (zmf Z 51 0) Q
        refine zw_run 1 (pc' := 161) (loc' := [some (.ref 136), some (.int k), some (.int x2), none, none, none]) (stk' := [.int x2]) (fun _ _ _ => rfl) ?_
        refine zw_reti (i := .nop) rfl rfl ?_
        have H := oq_some H
        exact H
    · rw [if_neg c1] at H
      refine zw_run 2 (pc' := 111) (loc' := [some (.ref 136), some (.int k), some (.int x2), none, none, none]) (stk' := [.int x2, .ref 136]) (fun _ _ _ => rfl) ?_
      refine zw_callf (As := [.ref 136, .int x2]) (rest := []) (c_183 (Z := Z) hS x2 (d := d + 1)) rfl rfl rfl rfl ?_
      show zw fm sx (d + 2) 142 114 [some (.ref 136), some (.int k), some (.int x2), none, none, none] [.int (ra Z x2)] Z Q
      refine zw_run 1 (pc' := 116) (loc' := [some (.ref 136), some (.int k), some (.int x2), none, none, none]) (stk' := [.int 60, .int (ra Z x2)]) (fun _ _ _ => rfl) ?_
      refine zw_br (c := (ra Z x2) = 60) (t1 := 145) (t2 := 119) (loc' := [some (.ref 136), some (.int k), some (.int x2), none, none, none]) (stk' := []) (fun _ _ _ => rfl) (fun c3 => ?_) (fun c3 => ?_)
      · rw [if_pos c3] at H
        refine zw_run 2 (pc' := 147) (loc' := [some (.ref 136), some (.int k), some (.int x2), none, none, none]) (stk' := [.int x2, .ref 136]) (fun _ _ _ => rfl) ?_
        refine zw_callf (As := [.ref 136, .int x2]) (rest := []) (c_183 (Z := Z) hS x2 (d := d + 1)) rfl rfl rfl rfl ?_
        show zw fm sx (d + 2) 142 150 [some (.ref 136), some (.int k), some (.int x2), none, none, none] [.int (ra Z x2)] Z Q
        refine zw_run 1 (pc' := 152) (loc' := [some (.ref 136), some (.int k), some (.int x2), none, none, none]) (stk' := [.int 62, .int (ra Z x2)]) (fun _ _ _ => rfl) ?_
        refine zw_br (c := ¬ (ra Z x2) = 62) (t1 := 162) (t2 := 155) (loc' := [some (.ref 136), some (.int k), some (.int x2), none, none, none]) (stk' := []) (fun _ _ _ => rfl) (fun c4 => ?_) (fun c4 => ?_)
        · rw [if_pos c4] at H
          refine zw_run 4 (pc' := 166) (loc' := [some (.ref 136), some (.int k), some (.int (k + 1)), none, none, none]) (stk' := []) (fun _ _ _ => rfl) ?_
          exact l_142_166 hu k _ Z (k + 1) H
        · rw [if_neg c4] at H
          refine zw_run 2 (pc' := 157) (loc' := [some (.ref 136), some (.int k), some (.int x2), none, none, none]) (stk' := [.int 0, .ref 136]) (fun _ _ _ => rfl) ?_
          refine zw_mput rfl rfl rfl rfl ?_
          show zw fm sx (d + 2) 142 160 [some (.ref 136), some (.int k), some (.int x2), none, none, none] [] (zmf Z 51 0) Q
          refine zw_run 1 (pc' := 161) (loc' := [some (.ref 136), some (.int k), some (.int x2), none, none, none]) (stk' := [.int x2]) (fun _ _ _ => rfl) ?_
          refine zw_reti (i := .nop) rfl rfl ?_
          have H := oq_some H
          exact H
      · rw [if_neg c3] at H
        refine zw_run 2 (pc' := 121) (loc' := [some (.ref 136), some (.int k), some (.int x2), none, none, none]) (stk' := [.int x2, .ref 136]) (fun _ _ _ => rfl) ?_
        refine zw_callf (As := [.ref 136, .int x2]) (rest := []) (c_183 (Z := Z) hS x2 (d := d + 1)) rfl rfl rfl rfl ?_
        show zw fm sx (d + 2) 142 124 [some (.ref 136), some (.int k), some (.int x2), none, none, none] [.int (ra Z x2)] Z Q
        refine zw_run 1 (pc' := 126) (loc' := [some (.ref 136), some (.int k), some (.int x2), none, none, none]) (stk' := [.int 62, .int (ra Z x2)]) (fun _ _ _ => rfl) ?_
        refine zw_br (c := (ra Z x2) = 62) (t1 := 145) (t2 := 129) (loc' := [some (.ref 136), some (.int k), some (.int x2), none, none, none]) (stk' := []) (fun _ _ _ => rfl) (fun c5 => ?_) (fun c5 => ?_)
        · rw [if_pos c5] at H
          refine zw_run 2 (pc' := 147) (loc' := [some (.ref 136), some (.int k), some (.int x2), none, none, none]) (stk' := [.int x2, .ref 136]) (fun _ _ _ => rfl) ?_
          refine zw_callf (As := [.ref 136, .int x2]) (rest := []) (c_183 (Z := Z) hS x2 (d := d + 1)) rfl rfl rfl rfl ?_
          show zw fm sx (d + 2) 142 150 [some (.ref 136), some (.int k), some (.int x2), none, none, none] [.int (ra Z x2)] Z Q
          refine zw_run 1 (pc' := 152) (loc' := [some (.ref 136), some (.int k), some (.int x2), none, none, none]) (stk' := [.int 62, .int (ra Z x2)]) (fun _ _ _ => rfl) ?_
          refine zw_br (c := ¬ (ra Z x2) = 62) (t1 := 162) (t2 := 155) (loc' := [some (.ref 136), some (.int k), some (.int x2), none, none, none]) (stk' := []) (fun _ _ _ => rfl) (fun c6 => ?_) (fun c6 => ?_)
          · rw [if_pos c6] at H
            refine zw_run 4 (pc' := 166) (loc' := [some (.ref 136), some (.int k), some (.int (k + 1)), none, none, none]) (stk' := []) (fun _ _ _ => rfl) ?_
            exact l_142_166 hu k _ Z (k + 1) H
          · rw [if_neg c6] at H
            refine zw_run 2 (pc' := 157) (loc' := [some (.ref 136), some (.int k), some (.int x2), none, none, none]) (stk' := [.int 0, .ref 136]) (fun _ _ _ => rfl) ?_
            refine zw_mput rfl rfl rfl rfl ?_
            show zw fm sx (d + 2) 142 160 [some (.ref 136), some (.int k), some (.int x2), none, none, none] [] (zmf Z 51 0) Q
            refine zw_run 1 (pc' := 161) (loc' := [some (.ref 136), some (.int k), some (.int x2), none, none, none]) (stk' := [.int x2]) (fun _ _ _ => rfl) ?_
            refine zw_reti (i := .nop) rfl rfl ?_
            have H := oq_some H
            exact H
        · rw [if_neg c5] at H
          refine zw_run 2 (pc' := 131) (loc' := [some (.ref 136), some (.int k), some (.int x2), none, none, none]) (stk' := [.int x2, .ref 136]) (fun _ _ _ => rfl) ?_
          refine zw_callf (As := [.ref 136, .int x2]) (rest := []) (c_183 (Z := Z) hS x2 (d := d + 1)) rfl rfl rfl rfl ?_
          show zw fm sx (d + 2) 142 134 [some (.ref 136), some (.int k), some (.int x2), none, none, none] [.int (ra Z x2)] Z Q
          refine zw_run 1 (pc' := 136) (loc' := [some (.ref 136), some (.int k), some (.int x2), none, none, none]) (stk' := [.int 127, .int (ra Z x2)]) (fun _ _ _ => rfl) ?_
          refine zw_br (c := (ra Z x2) = 127) (t1 := 145) (t2 := 139) (loc' := [some (.ref 136), some (.int k), some (.int x2), none, none, none]) (stk' := []) (fun _ _ _ => rfl) (fun c7 => ?_) (fun c7 => ?_)
          · rw [if_pos c7] at H
            refine zw_run 2 (pc' := 147) (loc' := [some (.ref 136), some (.int k), some (.int x2), none, none, none]) (stk' := [.int x2, .ref 136]) (fun _ _ _ => rfl) ?_
            refine zw_callf (As := [.ref 136, .int x2]) (rest := []) (c_183 (Z := Z) hS x2 (d := d + 1)) rfl rfl rfl rfl ?_
            show zw fm sx (d + 2) 142 150 [some (.ref 136), some (.int k), some (.int x2), none, none, none] [.int (ra Z x2)] Z Q
            refine zw_run 1 (pc' := 152) (loc' := [some (.ref 136), some (.int k), some (.int x2), none, none, none]) (stk' := [.int 62, .int (ra Z x2)]) (fun _ _ _ => rfl) ?_
            refine zw_br (c := ¬ (ra Z x2) = 62) (t1 := 162) (t2 := 155) (loc' := [some (.ref 136), some (.int k), some (.int x2), none, none, none]) (stk' := []) (fun _ _ _ => rfl) (fun c8 => ?_) (fun c8 => ?_)
            · rw [if_pos c8] at H
              refine zw_run 4 (pc' := 166) (loc' := [some (.ref 136), some (.int k), some (.int (k + 1)), none, none, none]) (stk' := []) (fun _ _ _ => rfl) ?_
              exact l_142_166 hu k _ Z (k + 1) H
            · rw [if_neg c8] at H
              refine zw_run 2 (pc' := 157) (loc' := [some (.ref 136), some (.int k), some (.int x2), none, none, none]) (stk' := [.int 0, .ref 136]) (fun _ _ _ => rfl) ?_
              refine zw_mput rfl rfl rfl rfl ?_
              show zw fm sx (d + 2) 142 160 [some (.ref 136), some (.int k), some (.int x2), none, none, none] [] (zmf Z 51 0) Q
              refine zw_run 1 (pc' := 161) (loc' := [some (.ref 136), some (.int k), some (.int x2), none, none, none]) (stk' := [.int x2]) (fun _ _ _ => rfl) ?_
              refine zw_reti (i := .nop) rfl rfl ?_
              have H := oq_some H
              exact H
          · rw [if_neg c7] at H
            refine zw_run 2 (pc' := 99) (loc' := [some (.ref 136), some (.int k), some (.int (x2 + 1)), none, none, none]) (stk' := []) (fun _ _ _ => rfl) ?_
            exact ih Z (x2 + 1) H
/-- MarkInlinesModel.address, its loop at 4 -/
def g_142_4 : Nat → zr_Z → Int32 → Int32 → Option (Int32 × zr_Z)
  | 0, _, _, _ => none
  | n + 1, Z, k, x2 => (if sok Z then (if (k_154 (ra Z x2)) = true then g_142_4 n Z k (x2 + 1) else (if x2 ≤ (k + 1) then (if ((x2 - k) - 1) ≤ 1 then g_142_166 oF Z k (k + 1) else (if 33 ≤ ((x2 - k) - 1) then g_142_166 oF Z k (k + 1) else (if ¬ (ra Z x2) = 58 then g_142_166 oF Z k (k + 1) else g_142_99 oF Z k (x2 + 1)))) else (if (k_165 (ra Z x2)) = true then g_142_4 n Z k (x2 + 1) else (if (ra Z x2) = 43 then g_142_4 n Z k (x2 + 1) else (if (ra Z x2) = 45 then g_142_4 n Z k (x2 + 1) else (if ¬ (ra Z x2) = 46 then (if ((x2 - k) - 1) ≤ 1 then g_142_166 oF Z k (k + 1) else (if 33 ≤ ((x2 - k) - 1) then g_142_166 oF Z k (k + 1) else (if ¬ (ra Z x2) = 58 then g_142_166 oF Z k (k + 1) else g_142_99 oF Z k (x2 + 1)))) else g_142_4 n Z k (x2 + 1))))))) else none)
set_option maxRecDepth 100000 in
set_option maxHeartbeats 4000000 in
theorem l_142_4 {fm : Value} {sx : Nat × (Nat → Int32)} {d : Nat} {Q : Option Value → zr_Z → Prop} (hu : fm = .null ∨ ∃ q, fm = .ref q) (k : Int32) : ∀ (n : Nat) (Z : zr_Z) (x2 : Int32), oq (g_142_4 n Z k x2) (fun x => Q (some (.int x.1)) x.2) → zw fm sx (d + 2) 142 4 [some (.ref 136), some (.int k), some (.int x2), none, none, none] [] Z Q := by
  intro n
  induction n with
  | zero => intro Z x2 H; exact absurd H oq_none
  | succ n ih =>
    intro Z x2 H
    unfold g_142_4 at H
    obtain ⟨hS, H⟩ := oq_ob H
    refine zw_run 2 (pc' := 6) (loc' := [some (.ref 136), some (.int k), some (.int x2), none, none, none]) (stk' := [.int x2, .ref 136]) (fun _ _ _ => rfl) ?_
    refine zw_callf (As := [.ref 136, .int x2]) (rest := []) (c_183 (Z := Z) hS x2 (d := d + 1)) rfl rfl rfl rfl ?_
    show zw fm sx (d + 2) 142 9 [some (.ref 136), some (.int k), some (.int x2), none, none, none] [.int (ra Z x2)] Z Q
    refine zw_callf (As := [.int (ra Z x2)]) (rest := []) (c_154 (ra Z x2) (d := d + 1)) rfl rfl rfl rfl ?_
    show zw fm sx (d + 2) 142 12 [some (.ref 136), some (.int k), some (.int x2), none, none, none] [.int (bI (k_154 (ra Z x2)))] Z Q
    refine zw_b1 (b := (k_154 (ra Z x2))) (t1 := 63) (t2 := 15) (loc' := [some (.ref 136), some (.int k), some (.int x2), none, none, none]) (stk' := []) (fun _ _ _ => rfl) (fun c1 => ?_) (fun c1 => ?_)
    · rw [if_pos c1] at H
      refine zw_run 2 (pc' := 4) (loc' := [some (.ref 136), some (.int k), some (.int (x2 + 1)), none, none, none]) (stk' := []) (fun _ _ _ => rfl) ?_
      exact ih Z (x2 + 1) H
    · rw [if_neg c1] at H
      refine zw_run 4 (pc' := 19) (loc' := [some (.ref 136), some (.int k), some (.int x2), none, none, none]) (stk' := [.int (k + 1), .int x2]) (fun _ _ _ => rfl) ?_
      refine zw_br (c := x2 ≤ (k + 1)) (t1 := 69) (t2 := 22) (loc' := [some (.ref 136), some (.int k), some (.int x2), none, none, none]) (stk' := []) (fun _ _ _ => rfl) (fun c2 => ?_) (fun c2 => ?_)
      · rw [if_pos c2] at H
        refine zw_run 8 (pc' := 77) (loc' := [some (.ref 136), some (.int k), some (.int x2), some (.int ((x2 - k) - 1)), none, none]) (stk' := [.int 1, .int ((x2 - k) - 1)]) (fun _ _ _ => rfl) ?_
        refine zw_br (c := ((x2 - k) - 1) ≤ 1) (t1 := 162) (t2 := 80) (loc' := [some (.ref 136), some (.int k), some (.int x2), some (.int ((x2 - k) - 1)), none, none]) (stk' := []) (fun _ _ _ => rfl) (fun c3 => ?_) (fun c3 => ?_)
        · rw [if_pos c3] at H
          refine zw_run 4 (pc' := 166) (loc' := [some (.ref 136), some (.int k), some (.int (k + 1)), some (.int ((x2 - k) - 1)), none, none]) (stk' := []) (fun _ _ _ => rfl) ?_
          refine zw_fgt [true, true, true, false, false, false] rfl ?_
          exact l_142_166 hu k _ Z (k + 1) H
        · rw [if_neg c3] at H
          refine zw_run 2 (pc' := 83) (loc' := [some (.ref 136), some (.int k), some (.int x2), some (.int ((x2 - k) - 1)), none, none]) (stk' := [.int 33, .int ((x2 - k) - 1)]) (fun _ _ _ => rfl) ?_
          refine zw_br (c := 33 ≤ ((x2 - k) - 1)) (t1 := 162) (t2 := 86) (loc' := [some (.ref 136), some (.int k), some (.int x2), some (.int ((x2 - k) - 1)), none, none]) (stk' := []) (fun _ _ _ => rfl) (fun c4 => ?_) (fun c4 => ?_)
          · rw [if_pos c4] at H
            refine zw_run 4 (pc' := 166) (loc' := [some (.ref 136), some (.int k), some (.int (k + 1)), some (.int ((x2 - k) - 1)), none, none]) (stk' := []) (fun _ _ _ => rfl) ?_
            refine zw_fgt [true, true, true, false, false, false] rfl ?_
            exact l_142_166 hu k _ Z (k + 1) H
          · rw [if_neg c4] at H
            refine zw_run 2 (pc' := 88) (loc' := [some (.ref 136), some (.int k), some (.int x2), some (.int ((x2 - k) - 1)), none, none]) (stk' := [.int x2, .ref 136]) (fun _ _ _ => rfl) ?_
            refine zw_callf (As := [.ref 136, .int x2]) (rest := []) (c_183 (Z := Z) hS x2 (d := d + 1)) rfl rfl rfl rfl ?_
            show zw fm sx (d + 2) 142 91 [some (.ref 136), some (.int k), some (.int x2), some (.int ((x2 - k) - 1)), none, none] [.int (ra Z x2)] Z Q
            refine zw_run 1 (pc' := 93) (loc' := [some (.ref 136), some (.int k), some (.int x2), some (.int ((x2 - k) - 1)), none, none]) (stk' := [.int 58, .int (ra Z x2)]) (fun _ _ _ => rfl) ?_
            refine zw_br (c := ¬ (ra Z x2) = 58) (t1 := 162) (t2 := 96) (loc' := [some (.ref 136), some (.int k), some (.int x2), some (.int ((x2 - k) - 1)), none, none]) (stk' := []) (fun _ _ _ => rfl) (fun c5 => ?_) (fun c5 => ?_)
            · rw [if_pos c5] at H
              refine zw_run 4 (pc' := 166) (loc' := [some (.ref 136), some (.int k), some (.int (k + 1)), some (.int ((x2 - k) - 1)), none, none]) (stk' := []) (fun _ _ _ => rfl) ?_
              refine zw_fgt [true, true, true, false, false, false] rfl ?_
              exact l_142_166 hu k _ Z (k + 1) H
            · rw [if_neg c5] at H
              refine zw_run 1 (pc' := 99) (loc' := [some (.ref 136), some (.int k), some (.int (x2 + 1)), some (.int ((x2 - k) - 1)), none, none]) (stk' := []) (fun _ _ _ => rfl) ?_
              refine zw_fgt [true, true, true, false, false, false] rfl ?_
              exact l_142_99 hu k _ Z (x2 + 1) H
      · rw [if_neg c2] at H
        refine zw_run 2 (pc' := 24) (loc' := [some (.ref 136), some (.int k), some (.int x2), none, none, none]) (stk' := [.int x2, .ref 136]) (fun _ _ _ => rfl) ?_
        refine zw_callf (As := [.ref 136, .int x2]) (rest := []) (c_183 (Z := Z) hS x2 (d := d + 1)) rfl rfl rfl rfl ?_
        show zw fm sx (d + 2) 142 27 [some (.ref 136), some (.int k), some (.int x2), none, none, none] [.int (ra Z x2)] Z Q
        refine zw_callf (As := [.int (ra Z x2)]) (rest := []) (c_165 (ra Z x2) (d := d + 1)) rfl rfl rfl rfl ?_
        show zw fm sx (d + 2) 142 30 [some (.ref 136), some (.int k), some (.int x2), none, none, none] [.int (bI (k_165 (ra Z x2)))] Z Q
        refine zw_b1 (b := (k_165 (ra Z x2))) (t1 := 63) (t2 := 33) (loc' := [some (.ref 136), some (.int k), some (.int x2), none, none, none]) (stk' := []) (fun _ _ _ => rfl) (fun c6 => ?_) (fun c6 => ?_)
        · rw [if_pos c6] at H
          refine zw_run 2 (pc' := 4) (loc' := [some (.ref 136), some (.int k), some (.int (x2 + 1)), none, none, none]) (stk' := []) (fun _ _ _ => rfl) ?_
          exact ih Z (x2 + 1) H
        · rw [if_neg c6] at H
          refine zw_run 2 (pc' := 35) (loc' := [some (.ref 136), some (.int k), some (.int x2), none, none, none]) (stk' := [.int x2, .ref 136]) (fun _ _ _ => rfl) ?_
          refine zw_callf (As := [.ref 136, .int x2]) (rest := []) (c_183 (Z := Z) hS x2 (d := d + 1)) rfl rfl rfl rfl ?_
          show zw fm sx (d + 2) 142 38 [some (.ref 136), some (.int k), some (.int x2), none, none, none] [.int (ra Z x2)] Z Q
          refine zw_run 1 (pc' := 40) (loc' := [some (.ref 136), some (.int k), some (.int x2), none, none, none]) (stk' := [.int 43, .int (ra Z x2)]) (fun _ _ _ => rfl) ?_
          refine zw_br (c := (ra Z x2) = 43) (t1 := 63) (t2 := 43) (loc' := [some (.ref 136), some (.int k), some (.int x2), none, none, none]) (stk' := []) (fun _ _ _ => rfl) (fun c7 => ?_) (fun c7 => ?_)
          · rw [if_pos c7] at H
            refine zw_run 2 (pc' := 4) (loc' := [some (.ref 136), some (.int k), some (.int (x2 + 1)), none, none, none]) (stk' := []) (fun _ _ _ => rfl) ?_
            exact ih Z (x2 + 1) H
          · rw [if_neg c7] at H
            refine zw_run 2 (pc' := 45) (loc' := [some (.ref 136), some (.int k), some (.int x2), none, none, none]) (stk' := [.int x2, .ref 136]) (fun _ _ _ => rfl) ?_
            refine zw_callf (As := [.ref 136, .int x2]) (rest := []) (c_183 (Z := Z) hS x2 (d := d + 1)) rfl rfl rfl rfl ?_
            show zw fm sx (d + 2) 142 48 [some (.ref 136), some (.int k), some (.int x2), none, none, none] [.int (ra Z x2)] Z Q
            refine zw_run 1 (pc' := 50) (loc' := [some (.ref 136), some (.int k), some (.int x2), none, none, none]) (stk' := [.int 45, .int (ra Z x2)]) (fun _ _ _ => rfl) ?_
            refine zw_br (c := (ra Z x2) = 45) (t1 := 63) (t2 := 53) (loc' := [some (.ref 136), some (.int k), some (.int x2), none, none, none]) (stk' := []) (fun _ _ _ => rfl) (fun c8 => ?_) (fun c8 => ?_)
            · rw [if_pos c8] at H
              refine zw_run 2 (pc' := 4) (loc' := [some (.ref 136), some (.int k), some (.int (x2 + 1)), none, none, none]) (stk' := []) (fun _ _ _ => rfl) ?_
              exact ih Z (x2 + 1) H
            · rw [if_neg c8] at H
              refine zw_run 2 (pc' := 55) (loc' := [some (.ref 136), some (.int k), some (.int x2), none, none, none]) (stk' := [.int x2, .ref 136]) (fun _ _ _ => rfl) ?_
              refine zw_callf (As := [.ref 136, .int x2]) (rest := []) (c_183 (Z := Z) hS x2 (d := d + 1)) rfl rfl rfl rfl ?_
              show zw fm sx (d + 2) 142 58 [some (.ref 136), some (.int k), some (.int x2), none, none, none] [.int (ra Z x2)] Z Q
              refine zw_run 1 (pc' := 60) (loc' := [some (.ref 136), some (.int k), some (.int x2), none, none, none]) (stk' := [.int 46, .int (ra Z x2)]) (fun _ _ _ => rfl) ?_
              refine zw_br (c := ¬ (ra Z x2) = 46) (t1 := 69) (t2 := 63) (loc' := [some (.ref 136), some (.int k), some (.int x2), none, none, none]) (stk' := []) (fun _ _ _ => rfl) (fun c9 => ?_) (fun c9 => ?_)
              · rw [if_pos c9] at H
                refine zw_run 8 (pc' := 77) (loc' := [some (.ref 136), some (.int k), some (.int x2), some (.int ((x2 - k) - 1)), none, none]) (stk' := [.int 1, .int ((x2 - k) - 1)]) (fun _ _ _ => rfl) ?_
                refine zw_br (c := ((x2 - k) - 1) ≤ 1) (t1 := 162) (t2 := 80) (loc' := [some (.ref 136), some (.int k), some (.int x2), some (.int ((x2 - k) - 1)), none, none]) (stk' := []) (fun _ _ _ => rfl) (fun c10 => ?_) (fun c10 => ?_)
                · rw [if_pos c10] at H
                  refine zw_run 4 (pc' := 166) (loc' := [some (.ref 136), some (.int k), some (.int (k + 1)), some (.int ((x2 - k) - 1)), none, none]) (stk' := []) (fun _ _ _ => rfl) ?_
                  refine zw_fgt [true, true, true, false, false, false] rfl ?_
                  exact l_142_166 hu k _ Z (k + 1) H
                · rw [if_neg c10] at H
                  refine zw_run 2 (pc' := 83) (loc' := [some (.ref 136), some (.int k), some (.int x2), some (.int ((x2 - k) - 1)), none, none]) (stk' := [.int 33, .int ((x2 - k) - 1)]) (fun _ _ _ => rfl) ?_
                  refine zw_br (c := 33 ≤ ((x2 - k) - 1)) (t1 := 162) (t2 := 86) (loc' := [some (.ref 136), some (.int k), some (.int x2), some (.int ((x2 - k) - 1)), none, none]) (stk' := []) (fun _ _ _ => rfl) (fun c11 => ?_) (fun c11 => ?_)
                  · rw [if_pos c11] at H
                    refine zw_run 4 (pc' := 166) (loc' := [some (.ref 136), some (.int k), some (.int (k + 1)), some (.int ((x2 - k) - 1)), none, none]) (stk' := []) (fun _ _ _ => rfl) ?_
                    refine zw_fgt [true, true, true, false, false, false] rfl ?_
                    exact l_142_166 hu k _ Z (k + 1) H
                  · rw [if_neg c11] at H
                    refine zw_run 2 (pc' := 88) (loc' := [some (.ref 136), some (.int k), some (.int x2), some (.int ((x2 - k) - 1)), none, none]) (stk' := [.int x2, .ref 136]) (fun _ _ _ => rfl) ?_
                    refine zw_callf (As := [.ref 136, .int x2]) (rest := []) (c_183 (Z := Z) hS x2 (d := d + 1)) rfl rfl rfl rfl ?_
                    show zw fm sx (d + 2) 142 91 [some (.ref 136), some (.int k), some (.int x2), some (.int ((x2 - k) - 1)), none, none] [.int (ra Z x2)] Z Q
                    refine zw_run 1 (pc' := 93) (loc' := [some (.ref 136), some (.int k), some (.int x2), some (.int ((x2 - k) - 1)), none, none]) (stk' := [.int 58, .int (ra Z x2)]) (fun _ _ _ => rfl) ?_
                    refine zw_br (c := ¬ (ra Z x2) = 58) (t1 := 162) (t2 := 96) (loc' := [some (.ref 136), some (.int k), some (.int x2), some (.int ((x2 - k) - 1)), none, none]) (stk' := []) (fun _ _ _ => rfl) (fun c12 => ?_) (fun c12 => ?_)
                    · rw [if_pos c12] at H
                      refine zw_run 4 (pc' := 166) (loc' := [some (.ref 136), some (.int k), some (.int (k + 1)), some (.int ((x2 - k) - 1)), none, none]) (stk' := []) (fun _ _ _ => rfl) ?_
                      refine zw_fgt [true, true, true, false, false, false] rfl ?_
                      exact l_142_166 hu k _ Z (k + 1) H
                    · rw [if_neg c12] at H
                      refine zw_run 1 (pc' := 99) (loc' := [some (.ref 136), some (.int k), some (.int (x2 + 1)), some (.int ((x2 - k) - 1)), none, none]) (stk' := []) (fun _ _ _ => rfl) ?_
                      refine zw_fgt [true, true, true, false, false, false] rfl ?_
                      exact l_142_99 hu k _ Z (x2 + 1) H
              · rw [if_neg c9] at H
                refine zw_run 2 (pc' := 4) (loc' := [some (.ref 136), some (.int k), some (.int (x2 + 1)), none, none, none]) (stk' := []) (fun _ _ _ => rfl) ?_
                exact ih Z (x2 + 1) H
/-- MarkInlinesModel.address -/
def o_142 (Z : zr_Z) (k : Int32) : Option (Int32 × zr_Z) := (if sok Z then g_142_4 oF Z k (k + 1) else none)
set_option maxRecDepth 100000 in
set_option maxHeartbeats 4000000 in
theorem t_142 {fm : Value} {sx : Nat × (Nat → Int32)} {d : Nat} {Z : zr_Z} {Q : Option Value → zr_Z → Prop} (hu : fm = .null ∨ ∃ q, fm = .ref q) (k : Int32) (H : oq (o_142 Z k) (fun x => Q (some (.int x.1)) x.2)) : zw fm sx (d + 2) 142 0 [some (.ref 136), some (.int k), none, none, none, none] [] Z Q := by
  unfold o_142 at H
  obtain ⟨hS, H⟩ := oq_ob H
  refine zw_run 4 (pc' := 4) (loc' := [some (.ref 136), some (.int k), some (.int (k + 1)), none, none, none]) (stk' := []) (fun _ _ _ => rfl) ?_
  exact l_142_4 hu k _ Z (k + 1) H
theorem c_142 {fm : Value} {sx : Nat × (Nat → Int32)} {d : Nat} {Z : zr_Z} (hu : fm = .null ∨ ∃ q, fm = .ref q) (k : Int32) {x : Int32 × zr_Z} (hx : o_142 Z k = some x) : zl fm sx (d + 3) 142 [.ref 136, .int k] Z (fun r Z' => r = some (.int x.1) ∧ Z' = x.2) :=
  zl_of (nL := 6) (loc0 := [some (.ref 136), some (.int k), none, none, none, none]) rfl rfl rfl (t_142 hu k ⟨x, hx, rfl, rfl⟩)
/-- MarkInlinesModel.isRaw, its loop at 52 -/
def g_144_52 : Nat → zr_Z → Int32 → Int32 → Option Bool
  | 0, _, _, _ => none
  | n + 1, Z, k, x3 => (if sok Z then (if (zf Z 3) ≤ x3 then some (!(decide ((zf Z 3) ≤ x3))) else (if (ra Z x3) = 62 then some (!(decide ((zf Z 3) ≤ x3))) else g_144_52 n Z k (x3 + 1))) else none)
set_option maxRecDepth 100000 in
set_option maxHeartbeats 4000000 in
theorem l_144_52 {fm : Value} {sx : Nat × (Nat → Int32)} {d : Nat} {Q : Option Value → zr_Z → Prop} (hu : fm = .null ∨ ∃ q, fm = .ref q) (k : Int32) : ∀ (n : Nat) (Z : zr_Z) (x3 : Int32), oq (g_144_52 n Z k x3) (fun x => Q (some (.int (bI x))) Z) → zw fm sx (d + 1) 144 52 [some (.ref 136), none, none, some (.int x3)] [] Z Q := by
  intro n
  induction n with
  | zero => intro Z x3 H; exact absurd H oq_none
  | succ n ih =>
    intro Z x3 H
    unfold g_144_52 at H
    obtain ⟨hS, H⟩ := oq_ob H
    refine zw_run 2 (pc' := 54) (loc' := [some (.ref 136), none, none, some (.int x3)]) (stk' := [.ref 136, .int x3]) (fun _ _ _ => rfl) ?_
    refine zw_mget (v := .int (zf Z 3)) rfl rfl ?_
    refine zw_br (c := (zf Z 3) ≤ x3) (t1 := 76) (t2 := 60) (loc' := [some (.ref 136), none, none, some (.int x3)]) (stk' := []) (fun _ _ _ => rfl) (fun c1 => ?_) (fun c1 => ?_)
    · rw [if_pos c1] at H
      refine zw_run 2 (pc' := 78) (loc' := [some (.ref 136), none, none, some (.int x3)]) (stk' := [.ref 136, .int x3]) (fun _ _ _ => rfl) ?_
      refine zw_mget (v := .int (zf Z 3)) rfl rfl ?_
      have J4 : ∀ (v3 : Int32), v3 = (bI (!(decide ((zf Z 3) ≤ x3)))) → zw fm sx (d + 1) 144 89 [some (.ref 136), none, none, some (.int x3)] [.int v3] Z Q := by
        intro v3 ev3
        subst ev3
        refine zw_retz rfl rfl (bI_01 _) ?_
        have H := oq_some H
        exact H
      refine zw_br (c := (zf Z 3) ≤ x3) (t1 := 88) (t2 := 84) (loc' := [some (.ref 136), none, none, some (.int x3)]) (stk' := []) (fun _ _ _ => rfl) (fun c2 => ?_) (fun c2 => ?_)
      · skip
        refine zw_run 1 (pc' := 89) (loc' := [some (.ref 136), none, none, some (.int x3)]) (stk' := [.int 0]) (fun _ _ _ => rfl) ?_
        exact J4 _ (by clear H J4; first | (simp [bI, c2]; done) | (simp [bI, *]; done) | (simp_all [bI]; done) | (rw [decide_eq_true (Decidable.not_not.mp c2)]; rfl) | (exfalso; simp_all; done))
      · skip
        refine zw_run 2 (pc' := 89) (loc' := [some (.ref 136), none, none, some (.int x3)]) (stk' := [.int 1]) (fun _ _ _ => rfl) ?_
        exact J4 _ (by clear H J4; first | (simp [bI, c2]; done) | (simp [bI, *]; done) | (simp_all [bI]; done) | (rw [decide_eq_true (Decidable.not_not.mp c2)]; rfl) | (exfalso; simp_all; done))
    · rw [if_neg c1] at H
      refine zw_run 2 (pc' := 62) (loc' := [some (.ref 136), none, none, some (.int x3)]) (stk' := [.int x3, .ref 136]) (fun _ _ _ => rfl) ?_
      refine zw_callf (As := [.ref 136, .int x3]) (rest := []) (c_183 (Z := Z) hS x3 (d := d + 0)) rfl rfl rfl rfl ?_
      show zw fm sx (d + 1) 144 65 [some (.ref 136), none, none, some (.int x3)] [.int (ra Z x3)] Z Q
      refine zw_run 1 (pc' := 67) (loc' := [some (.ref 136), none, none, some (.int x3)]) (stk' := [.int 62, .int (ra Z x3)]) (fun _ _ _ => rfl) ?_
      refine zw_br (c := (ra Z x3) = 62) (t1 := 76) (t2 := 70) (loc' := [some (.ref 136), none, none, some (.int x3)]) (stk' := []) (fun _ _ _ => rfl) (fun c5 => ?_) (fun c5 => ?_)
      · rw [if_pos c5] at H
        refine zw_run 2 (pc' := 78) (loc' := [some (.ref 136), none, none, some (.int x3)]) (stk' := [.ref 136, .int x3]) (fun _ _ _ => rfl) ?_
        refine zw_mget (v := .int (zf Z 3)) rfl rfl ?_
        have J8 : ∀ (v7 : Int32), v7 = (bI (!(decide ((zf Z 3) ≤ x3)))) → zw fm sx (d + 1) 144 89 [some (.ref 136), none, none, some (.int x3)] [.int v7] Z Q := by
          intro v7 ev7
          subst ev7
          refine zw_retz rfl rfl (bI_01 _) ?_
          have H := oq_some H
          exact H
        refine zw_br (c := (zf Z 3) ≤ x3) (t1 := 88) (t2 := 84) (loc' := [some (.ref 136), none, none, some (.int x3)]) (stk' := []) (fun _ _ _ => rfl) (fun c6 => ?_) (fun c6 => ?_)
        · skip
          refine zw_run 1 (pc' := 89) (loc' := [some (.ref 136), none, none, some (.int x3)]) (stk' := [.int 0]) (fun _ _ _ => rfl) ?_
          exact J8 _ (by clear H J8; first | (simp [bI, c6]; done) | (simp [bI, *]; done) | (simp_all [bI]; done) | (rw [decide_eq_true (Decidable.not_not.mp c6)]; rfl) | (exfalso; simp_all; done))
        · skip
          refine zw_run 2 (pc' := 89) (loc' := [some (.ref 136), none, none, some (.int x3)]) (stk' := [.int 1]) (fun _ _ _ => rfl) ?_
          exact J8 _ (by clear H J8; first | (simp [bI, c6]; done) | (simp [bI, *]; done) | (simp_all [bI]; done) | (rw [decide_eq_true (Decidable.not_not.mp c6)]; rfl) | (exfalso; simp_all; done))
      · rw [if_neg c5] at H
        refine zw_run 2 (pc' := 52) (loc' := [some (.ref 136), none, none, some (.int (x3 + 1))]) (stk' := []) (fun _ _ _ => rfl) ?_
        exact ih Z (x3 + 1) H
/-- MarkInlinesModel.isRaw -/
def o_144 (Z : zr_Z) (k : Int32) : Option Bool := (if sok Z then (if (k_154 (ra Z (k + 1))) = true then g_144_52 oF Z k (k + 1) else (if ¬ (ra Z (k + 1)) = 47 then (if (ra Z (k + 1)) = 33 then g_144_52 oF Z k (k + 1) else (if (ra Z (k + 1)) = 63 then g_144_52 oF Z k (k + 1) else some false)) else (if (k_154 (ra Z (k + 2))) = true then g_144_52 oF Z k (k + 1) else (if (ra Z (k + 1)) = 33 then g_144_52 oF Z k (k + 1) else (if (ra Z (k + 1)) = 63 then g_144_52 oF Z k (k + 1) else some false))))) else none)
set_option maxRecDepth 100000 in
set_option maxHeartbeats 4000000 in
theorem t_144 {fm : Value} {sx : Nat × (Nat → Int32)} {d : Nat} {Z : zr_Z} {Q : Option Value → zr_Z → Prop} (hu : fm = .null ∨ ∃ q, fm = .ref q) (k : Int32) (H : oq (o_144 Z k) (fun x => Q (some (.int (bI x))) Z)) : zw fm sx (d + 1) 144 0 [some (.ref 136), some (.int k), none, none] [] Z Q := by
  unfold o_144 at H
  obtain ⟨hS, H⟩ := oq_ob H
  refine zw_run 4 (pc' := 4) (loc' := [some (.ref 136), some (.int k), none, none]) (stk' := [.int (k + 1), .ref 136]) (fun _ _ _ => rfl) ?_
  refine zw_callf (As := [.ref 136, .int (k + 1)]) (rest := []) (c_183 (Z := Z) hS (k + 1) (d := d + 0)) rfl rfl rfl rfl ?_
  show zw fm sx (d + 1) 144 7 [some (.ref 136), some (.int k), none, none] [.int (ra Z (k + 1))] Z Q
  refine zw_run 2 (pc' := 9) (loc' := [some (.ref 136), some (.int k), some (.int (ra Z (k + 1))), none]) (stk' := [.int (ra Z (k + 1))]) (fun _ _ _ => rfl) ?_
  refine zw_callf (As := [.int (ra Z (k + 1))]) (rest := []) (c_154 (ra Z (k + 1)) (d := d + 0)) rfl rfl rfl rfl ?_
  show zw fm sx (d + 1) 144 12 [some (.ref 136), some (.int k), some (.int (ra Z (k + 1))), none] [.int (bI (k_154 (ra Z (k + 1))))] Z Q
  refine zw_b1 (b := (k_154 (ra Z (k + 1)))) (t1 := 48) (t2 := 15) (loc' := [some (.ref 136), some (.int k), some (.int (ra Z (k + 1))), none]) (stk' := []) (fun _ _ _ => rfl) (fun c1 => ?_) (fun c1 => ?_)
  · rw [if_pos c1] at H
    refine zw_run 4 (pc' := 52) (loc' := [some (.ref 136), some (.int k), some (.int (ra Z (k + 1))), some (.int (k + 1))]) (stk' := []) (fun _ _ _ => rfl) ?_
    refine zw_fgt [true, false, false, true] rfl ?_
    exact l_144_52 hu k _ Z (k + 1) H
  · rw [if_neg c1] at H
    refine zw_run 2 (pc' := 18) (loc' := [some (.ref 136), some (.int k), some (.int (ra Z (k + 1))), none]) (stk' := [.int 47, .int (ra Z (k + 1))]) (fun _ _ _ => rfl) ?_
    refine zw_br (c := ¬ (ra Z (k + 1)) = 47) (t1 := 34) (t2 := 21) (loc' := [some (.ref 136), some (.int k), some (.int (ra Z (k + 1))), none]) (stk' := []) (fun _ _ _ => rfl) (fun c2 => ?_) (fun c2 => ?_)
    · rw [if_pos c2] at H
      refine zw_run 2 (pc' := 37) (loc' := [some (.ref 136), some (.int k), some (.int (ra Z (k + 1))), none]) (stk' := [.int 33, .int (ra Z (k + 1))]) (fun _ _ _ => rfl) ?_
      refine zw_br (c := (ra Z (k + 1)) = 33) (t1 := 48) (t2 := 40) (loc' := [some (.ref 136), some (.int k), some (.int (ra Z (k + 1))), none]) (stk' := []) (fun _ _ _ => rfl) (fun c3 => ?_) (fun c3 => ?_)
      · rw [if_pos c3] at H
        refine zw_run 4 (pc' := 52) (loc' := [some (.ref 136), some (.int k), some (.int (ra Z (k + 1))), some (.int (k + 1))]) (stk' := []) (fun _ _ _ => rfl) ?_
        refine zw_fgt [true, false, false, true] rfl ?_
        exact l_144_52 hu k _ Z (k + 1) H
      · rw [if_neg c3] at H
        refine zw_run 2 (pc' := 43) (loc' := [some (.ref 136), some (.int k), some (.int (ra Z (k + 1))), none]) (stk' := [.int 63, .int (ra Z (k + 1))]) (fun _ _ _ => rfl) ?_
        refine zw_br (c := (ra Z (k + 1)) = 63) (t1 := 48) (t2 := 46) (loc' := [some (.ref 136), some (.int k), some (.int (ra Z (k + 1))), none]) (stk' := []) (fun _ _ _ => rfl) (fun c4 => ?_) (fun c4 => ?_)
        · rw [if_pos c4] at H
          refine zw_run 4 (pc' := 52) (loc' := [some (.ref 136), some (.int k), some (.int (ra Z (k + 1))), some (.int (k + 1))]) (stk' := []) (fun _ _ _ => rfl) ?_
          refine zw_fgt [true, false, false, true] rfl ?_
          exact l_144_52 hu k _ Z (k + 1) H
        · rw [if_neg c4] at H
          refine zw_run 1 (pc' := 47) (loc' := [some (.ref 136), some (.int k), some (.int (ra Z (k + 1))), none]) (stk' := [.int 0]) (fun _ _ _ => rfl) ?_
          refine zw_retz rfl rfl (Or.inl rfl) ?_
          have H := oq_some H
          exact H
    · rw [if_neg c2] at H
      refine zw_run 4 (pc' := 25) (loc' := [some (.ref 136), some (.int k), some (.int (ra Z (k + 1))), none]) (stk' := [.int (k + 2), .ref 136]) (fun _ _ _ => rfl) ?_
      refine zw_callf (As := [.ref 136, .int (k + 2)]) (rest := []) (c_183 (Z := Z) hS (k + 2) (d := d + 0)) rfl rfl rfl rfl ?_
      show zw fm sx (d + 1) 144 28 [some (.ref 136), some (.int k), some (.int (ra Z (k + 1))), none] [.int (ra Z (k + 2))] Z Q
      refine zw_callf (As := [.int (ra Z (k + 2))]) (rest := []) (c_154 (ra Z (k + 2)) (d := d + 0)) rfl rfl rfl rfl ?_
      show zw fm sx (d + 1) 144 31 [some (.ref 136), some (.int k), some (.int (ra Z (k + 1))), none] [.int (bI (k_154 (ra Z (k + 2))))] Z Q
      refine zw_b1 (b := (k_154 (ra Z (k + 2)))) (t1 := 48) (t2 := 34) (loc' := [some (.ref 136), some (.int k), some (.int (ra Z (k + 1))), none]) (stk' := []) (fun _ _ _ => rfl) (fun c5 => ?_) (fun c5 => ?_)
      · rw [if_pos c5] at H
        refine zw_run 4 (pc' := 52) (loc' := [some (.ref 136), some (.int k), some (.int (ra Z (k + 1))), some (.int (k + 1))]) (stk' := []) (fun _ _ _ => rfl) ?_
        refine zw_fgt [true, false, false, true] rfl ?_
        exact l_144_52 hu k _ Z (k + 1) H
      · rw [if_neg c5] at H
        refine zw_run 2 (pc' := 37) (loc' := [some (.ref 136), some (.int k), some (.int (ra Z (k + 1))), none]) (stk' := [.int 33, .int (ra Z (k + 1))]) (fun _ _ _ => rfl) ?_
        refine zw_br (c := (ra Z (k + 1)) = 33) (t1 := 48) (t2 := 40) (loc' := [some (.ref 136), some (.int k), some (.int (ra Z (k + 1))), none]) (stk' := []) (fun _ _ _ => rfl) (fun c6 => ?_) (fun c6 => ?_)
        · rw [if_pos c6] at H
          refine zw_run 4 (pc' := 52) (loc' := [some (.ref 136), some (.int k), some (.int (ra Z (k + 1))), some (.int (k + 1))]) (stk' := []) (fun _ _ _ => rfl) ?_
          refine zw_fgt [true, false, false, true] rfl ?_
          exact l_144_52 hu k _ Z (k + 1) H
        · rw [if_neg c6] at H
          refine zw_run 2 (pc' := 43) (loc' := [some (.ref 136), some (.int k), some (.int (ra Z (k + 1))), none]) (stk' := [.int 63, .int (ra Z (k + 1))]) (fun _ _ _ => rfl) ?_
          refine zw_br (c := (ra Z (k + 1)) = 63) (t1 := 48) (t2 := 46) (loc' := [some (.ref 136), some (.int k), some (.int (ra Z (k + 1))), none]) (stk' := []) (fun _ _ _ => rfl) (fun c7 => ?_) (fun c7 => ?_)
          · rw [if_pos c7] at H
            refine zw_run 4 (pc' := 52) (loc' := [some (.ref 136), some (.int k), some (.int (ra Z (k + 1))), some (.int (k + 1))]) (stk' := []) (fun _ _ _ => rfl) ?_
            refine zw_fgt [true, false, false, true] rfl ?_
            exact l_144_52 hu k _ Z (k + 1) H
          · rw [if_neg c7] at H
            refine zw_run 1 (pc' := 47) (loc' := [some (.ref 136), some (.int k), some (.int (ra Z (k + 1))), none]) (stk' := [.int 0]) (fun _ _ _ => rfl) ?_
            refine zw_retz rfl rfl (Or.inl rfl) ?_
            have H := oq_some H
            exact H
theorem c_144 {fm : Value} {sx : Nat × (Nat → Int32)} {d : Nat} {Z : zr_Z} (hu : fm = .null ∨ ∃ q, fm = .ref q) (k : Int32) {x : Bool} (hx : o_144 Z k = some x) : zl fm sx (d + 2) 144 [.ref 136, .int k] Z (fun r Z' => r = some (.int (bI x)) ∧ Z' = Z) :=
  zl_of (nL := 4) (loc0 := [some (.ref 136), some (.int k), none, none]) rfl rfl rfl (t_144 hu k ⟨x, hx, rfl, rfl⟩)
/-- MarkInlinesModel.fail -/
def o_148 (Z : zr_Z) (nu : Int32) (pl : Int32) : Option zr_Z := some (zmf (zmf Z 46 nu) 47 pl)
set_option maxRecDepth 100000 in
set_option maxHeartbeats 4000000 in
theorem t_148 {fm : Value} {sx : Nat × (Nat → Int32)} {d : Nat} {Z : zr_Z} {Q : Option Value → zr_Z → Prop} (hu : fm = .null ∨ ∃ q, fm = .ref q) (nu : Int32) (pl : Int32) (H : oq (o_148 Z nu pl) (fun x => Q none x)) : zw fm sx (d + 0) 148 0 [some (.ref 136), some (.int nu), some (.int pl)] [] Z Q := by
  unfold o_148 at H
  refine zw_run 2 (pc' := 2) (loc' := [some (.ref 136), some (.int nu), some (.int pl)]) (stk' := [.int nu, .ref 136]) (fun _ _ _ => rfl) ?_
  refine zw_mput rfl rfl rfl rfl ?_
  show zw fm sx (d + 0) 148 5 [some (.ref 136), some (.int nu), some (.int pl)] [] (zmf Z 46 nu) Q
  refine zw_run 2 (pc' := 7) (loc' := [some (.ref 136), some (.int nu), some (.int pl)]) (stk' := [.int pl, .ref 136]) (fun _ _ _ => rfl) ?_
  refine zw_mput rfl rfl rfl rfl ?_
  show zw fm sx (d + 0) 148 10 [some (.ref 136), some (.int nu), some (.int pl)] [] (zmf (zmf Z 46 nu) 47 pl) Q
  refine zw_retv rfl rfl ?_
  have H := oq_some H
  exact H
theorem c_148 {fm : Value} {sx : Nat × (Nat → Int32)} {d : Nat} {Z : zr_Z} (hu : fm = .null ∨ ∃ q, fm = .ref q) (nu : Int32) (pl : Int32) {x : zr_Z} (hx : o_148 Z nu pl = some x) : zl fm sx (d + 1) 148 [.ref 136, .int nu, .int pl] Z (fun r Z' => r = none ∧ Z' = x) :=
  zl_of (nL := 3) (loc0 := [some (.ref 136), some (.int nu), some (.int pl)]) rfl rfl rfl (t_148 hu nu pl ⟨x, hx, rfl, rfl⟩)
/-- MarkInlinesModel.angle, its loop at 110 -/
def g_145_110 : Nat → zr_Z → Int32 → Int32 → Int32 → Int32 → Option (Int32 × zr_Z)
  | 0, _, _, _, _, _ => none
  | n + 1, Z, k, x2, x3, x4 => (if sok Z then (if x2 ≤ x4 then (if inq 145 x3 then (if inq 146 x3 then (Option.bind (o_128 (zar Z 146 x3 ((zf Z 10) - (zv Z 145 x3))) (k + 1) ((x2 - k) - 1)) fun u4 => (if sok u4 then (Option.bind (o_127 u4 12 0) fun u5 => (if sok u5.2 then (Option.bind (o_138 u5.2) fun u6 => (if sok u6 then some (x2 + 1, u6) else none)) else none)) else none)) else none) else none) else (Option.bind (o_122 Z (ra Z x4)) fun u7 => (if sok u7 then g_145_110 n u7 k x2 x3 (x4 + 1) else none))) else none)
set_option maxRecDepth 100000 in
set_option maxHeartbeats 4000000 in
theorem l_145_110 {fm : Value} {sx : Nat × (Nat → Int32)} {d : Nat} {Q : Option Value → zr_Z → Prop} (hu : fm = .null ∨ ∃ q, fm = .ref q) (k : Int32) : ∀ (n : Nat) (Z : zr_Z) (x2 : Int32) (x3 : Int32) (x4 : Int32), oq (g_145_110 n Z k x2 x3 x4) (fun x => Q (some (.int x.1)) x.2) → zw fm sx (d + 3) 145 110 [some (.ref 136), some (.int k), some (.int x2), some (.int x3), some (.int x4)] [] Z Q := by
  intro n
  induction n with
  | zero => intro Z x2 x3 x4 H; exact absurd H oq_none
  | succ n ih =>
    intro Z x2 x3 x4 H
    unfold g_145_110 at H
    obtain ⟨hS, H⟩ := oq_ob H
    refine zw_run 2 (pc' := 113) (loc' := [some (.ref 136), some (.int k), some (.int x2), some (.int x3), some (.int x4)]) (stk' := [.int x2, .int x4]) (fun _ _ _ => rfl) ?_
    refine zw_br (c := x2 ≤ x4) (t1 := 132) (t2 := 116) (loc' := [some (.ref 136), some (.int k), some (.int x2), some (.int x3), some (.int x4)]) (stk' := []) (fun _ _ _ => rfl) (fun c1 => ?_) (fun c1 => ?_)
    · rw [if_pos c1] at H
      refine zw_run 1 (pc' := 133) (loc' := [some (.ref 136), some (.int k), some (.int x2), some (.int x3), some (.int x4)]) (stk' := [.ref 136]) (fun _ _ _ => rfl) ?_
      refine zw_mget (v := .ref 146) rfl rfl ?_
      refine zw_run 2 (pc' := 138) (loc' := [some (.ref 136), some (.int k), some (.int x2), some (.int x3), some (.int x4)]) (stk' := [.ref 136, .int x3, .ref 146]) (fun _ _ _ => rfl) ?_
      refine zw_mget (v := .int (zf Z 10)) rfl rfl ?_
      refine zw_run 1 (pc' := 142) (loc' := [some (.ref 136), some (.int k), some (.int x2), some (.int x3), some (.int x4)]) (stk' := [.ref 136, .int (zf Z 10), .int x3, .ref 146]) (fun _ _ _ => rfl) ?_
      refine zw_mget (v := .ref 145) rfl rfl ?_
      refine zw_run 1 (pc' := 146) (loc' := [some (.ref 136), some (.int k), some (.int x2), some (.int x3), some (.int x4)]) (stk' := [.int x3, .ref 145, .int (zf Z 10), .int x3, .ref 146]) (fun _ _ _ => rfl) ?_
      obtain ⟨b2, H⟩ := oq_ob H
      refine zw_iald (j := 145) rfl (by decide) (by decide) rfl b2 ?_
      refine zw_run 1 (pc' := 148) (loc' := [some (.ref 136), some (.int k), some (.int x2), some (.int x3), some (.int x4)]) (stk' := [.int ((zf Z 10) - (zv Z 145 x3)), .int x3, .ref 146]) (fun _ _ _ => rfl) ?_
      obtain ⟨b3, H⟩ := oq_ob H
      refine zw_iast (j := 146) rfl (by decide) (by decide) rfl b3 ?_
      show zw fm sx (d + 3) 145 149 [some (.ref 136), some (.int k), some (.int x2), some (.int x3), some (.int x4)] [] (zar Z 146 x3 ((zf Z 10) - (zv Z 145 x3))) Q
      refine zw_run 9 (pc' := 158) (loc' := [some (.ref 136), some (.int k), some (.int x2), some (.int x3), some (.int x4)]) (stk' := [.int ((x2 - k) - 1), .int (k + 1), .ref 136]) (fun _ _ _ => rfl) ?_
      obtain ⟨u4, hu4, H⟩ := oq_bind H
      refine zw_callf (As := [.ref 136, .int (k + 1), .int ((x2 - k) - 1)]) (rest := []) (c_128 hu (k + 1) ((x2 - k) - 1) hu4 (d := d + 0)) rfl rfl rfl rfl ?_
      show zw fm sx (d + 3) 145 161 [some (.ref 136), some (.int k), some (.int x2), some (.int x3), some (.int x4)] [] u4 Q
      obtain ⟨hS, H⟩ := oq_ob H
      refine zw_run 3 (pc' := 165) (loc' := [some (.ref 136), some (.int k), some (.int x2), some (.int x3), some (.int x4)]) (stk' := [.int 0, .int 12, .ref 136]) (fun _ _ _ => rfl) ?_
      obtain ⟨u5, hu5, H⟩ := oq_bind H
      refine zw_callf (As := [.ref 136, .int 12, .int 0]) (rest := []) (c_127 hu 12 0 hu5 (d := d + 1)) rfl rfl rfl rfl ?_
      show zw fm sx (d + 3) 145 168 [some (.ref 136), some (.int k), some (.int x2), some (.int x3), some (.int x4)] [.int u5.1] u5.2 Q
      obtain ⟨hS, H⟩ := oq_ob H
      refine zw_run 2 (pc' := 170) (loc' := [some (.ref 136), some (.int k), some (.int x2), some (.int x3), some (.int x4)]) (stk' := [.ref 136]) (fun _ _ _ => rfl) ?_
      obtain ⟨u6, hu6, H⟩ := oq_bind H
      refine zw_callf (As := [.ref 136]) (rest := []) (c_138 hu hu6 (d := d + 2)) rfl rfl rfl rfl ?_
      show zw fm sx (d + 3) 145 173 [some (.ref 136), some (.int k), some (.int x2), some (.int x3), some (.int x4)] [] u6 Q
      obtain ⟨hS, H⟩ := oq_ob H
      refine zw_run 3 (pc' := 176) (loc' := [some (.ref 136), some (.int k), some (.int x2), some (.int x3), some (.int x4)]) (stk' := [.int (x2 + 1)]) (fun _ _ _ => rfl) ?_
      refine zw_reti (i := .nop) rfl rfl ?_
      have H := oq_some H
      exact H
    · rw [if_neg c1] at H
      refine zw_run 3 (pc' := 120) (loc' := [some (.ref 136), some (.int k), some (.int x2), some (.int x3), some (.int x4)]) (stk' := [.int x4, .ref 136, .ref 136]) (fun _ _ _ => rfl) ?_
      refine zw_callf (As := [.ref 136, .int x4]) (rest := [.ref 136]) (c_183 (Z := Z) hS x4 (d := d + 2)) rfl rfl rfl rfl ?_
      show zw fm sx (d + 3) 145 123 [some (.ref 136), some (.int k), some (.int x2), some (.int x3), some (.int x4)] [.int (ra Z x4), .ref 136] Z Q
      obtain ⟨u7, hu7, H⟩ := oq_bind H
      refine zw_callf (As := [.ref 136, .int (ra Z x4)]) (rest := []) (c_122 hu (ra Z x4) hu7 (d := d + 2)) rfl rfl rfl rfl ?_
      show zw fm sx (d + 3) 145 126 [some (.ref 136), some (.int k), some (.int x2), some (.int x3), some (.int x4)] [] u7 Q
      obtain ⟨hS, H⟩ := oq_ob H
      refine zw_run 2 (pc' := 110) (loc' := [some (.ref 136), some (.int k), some (.int x2), some (.int x3), some (.int (x4 + 1))]) (stk' := []) (fun _ _ _ => rfl) ?_
      exact ih u7 x2 x3 (x4 + 1) H
/-- MarkInlinesModel.angle -/
def o_145 (Z : zr_Z) (k : Int32) : Option (Int32 × zr_Z) := (if sok Z then (Option.bind (o_142 Z k) fun u1 => (if sok u1.2 then (if ¬ u1.1 = (-1) then (Option.bind (o_127 u1.2 6 0) fun u3 => (if sok u3.2 then (if inq 145 u3.1 then (if ¬ (zf u3.2 51) = 1 then g_145_110 oF (zar u3.2 145 u3.1 (zf u3.2 10)) k u1.1 u3.1 (k + 1) else (Option.bind (o_122 (zar u3.2 145 u3.1 (zf u3.2 10)) 109) fun u6 => (if sok u6 then (Option.bind (o_122 u6 97) fun u7 => (if sok u7 then (Option.bind (o_122 u7 105) fun u8 => (if sok u8 then (Option.bind (o_122 u8 108) fun u9 => (if sok u9 then (Option.bind (o_122 u9 116) fun u10 => (if sok u10 then (Option.bind (o_122 u10 111) fun u11 => (if sok u11 then (Option.bind (o_122 u11 58) fun u12 => (if sok u12 then g_145_110 oF u12 k u1.1 u3.1 (k + 1) else none)) else none)) else none)) else none)) else none)) else none)) else none))) else none) else none)) else (Option.bind (o_144 u1.2 k) fun u13 => (if u13 = true then (Option.bind (o_148 u1.2 2 k) fun u15 => (if sok u15 then (Option.bind (o_127 u15 0 60) fun u16 => (if sok u16.2 then some (k + 1, u16.2) else none)) else none)) else (Option.bind (o_127 u1.2 0 60) fun u17 => (if sok u17.2 then some (k + 1, u17.2) else none))))) else none)) else none)
set_option maxRecDepth 100000 in
set_option maxHeartbeats 4000000 in
theorem t_145 {fm : Value} {sx : Nat × (Nat → Int32)} {d : Nat} {Z : zr_Z} {Q : Option Value → zr_Z → Prop} (hu : fm = .null ∨ ∃ q, fm = .ref q) (k : Int32) (H : oq (o_145 Z k) (fun x => Q (some (.int x.1)) x.2)) : zw fm sx (d + 3) 145 0 [some (.ref 136), some (.int k), none, none, none] [] Z Q := by
  unfold o_145 at H
  obtain ⟨hS, H⟩ := oq_ob H
  refine zw_run 2 (pc' := 2) (loc' := [some (.ref 136), some (.int k), none, none, none]) (stk' := [.int k, .ref 136]) (fun _ _ _ => rfl) ?_
  obtain ⟨u1, hu1, H⟩ := oq_bind H
  refine zw_callf (As := [.ref 136, .int k]) (rest := []) (c_142 hu k hu1 (d := d + 0)) rfl rfl rfl rfl ?_
  show zw fm sx (d + 3) 145 5 [some (.ref 136), some (.int k), none, none, none] [.int u1.1] u1.2 Q
  obtain ⟨hS, H⟩ := oq_ob H
  refine zw_run 3 (pc' := 8) (loc' := [some (.ref 136), some (.int k), some (.int u1.1), none, none]) (stk' := [.int (-1), .int u1.1]) (fun _ _ _ => rfl) ?_
  refine zw_br (c := ¬ u1.1 = (-1)) (t1 := 37) (t2 := 11) (loc' := [some (.ref 136), some (.int k), some (.int u1.1), none, none]) (stk' := []) (fun _ _ _ => rfl) (fun c2 => ?_) (fun c2 => ?_)
  · rw [if_pos c2] at H
    refine zw_run 3 (pc' := 41) (loc' := [some (.ref 136), some (.int k), some (.int u1.1), none, none]) (stk' := [.int 0, .int 6, .ref 136]) (fun _ _ _ => rfl) ?_
    obtain ⟨u3, hu3, H⟩ := oq_bind H
    refine zw_callf (As := [.ref 136, .int 6, .int 0]) (rest := []) (c_127 hu 6 0 hu3 (d := d + 1)) rfl rfl rfl rfl ?_
    show zw fm sx (d + 3) 145 44 [some (.ref 136), some (.int k), some (.int u1.1), none, none] [.int u3.1] u3.2 Q
    obtain ⟨hS, H⟩ := oq_ob H
    refine zw_run 2 (pc' := 46) (loc' := [some (.ref 136), some (.int k), some (.int u1.1), some (.int u3.1), none]) (stk' := [.ref 136]) (fun _ _ _ => rfl) ?_
    refine zw_mget (v := .ref 145) rfl rfl ?_
    refine zw_run 2 (pc' := 51) (loc' := [some (.ref 136), some (.int k), some (.int u1.1), some (.int u3.1), none]) (stk' := [.ref 136, .int u3.1, .ref 145]) (fun _ _ _ => rfl) ?_
    refine zw_mget (v := .int (zf u3.2 10)) rfl rfl ?_
    obtain ⟨b4, H⟩ := oq_ob H
    refine zw_iast (j := 145) rfl (by decide) (by decide) rfl b4 ?_
    show zw fm sx (d + 3) 145 55 [some (.ref 136), some (.int k), some (.int u1.1), some (.int u3.1), none] [] (zar u3.2 145 u3.1 (zf u3.2 10)) Q
    refine zw_run 1 (pc' := 56) (loc' := [some (.ref 136), some (.int k), some (.int u1.1), some (.int u3.1), none]) (stk' := [.ref 136]) (fun _ _ _ => rfl) ?_
    refine zw_mget (v := .int (zf u3.2 51)) rfl rfl ?_
    refine zw_run 1 (pc' := 60) (loc' := [some (.ref 136), some (.int k), some (.int u1.1), some (.int u3.1), none]) (stk' := [.int 1, .int (zf u3.2 51)]) (fun _ _ _ => rfl) ?_
    refine zw_br (c := ¬ (zf u3.2 51) = 1) (t1 := 105) (t2 := 63) (loc' := [some (.ref 136), some (.int k), some (.int u1.1), some (.int u3.1), none]) (stk' := []) (fun _ _ _ => rfl) (fun c5 => ?_) (fun c5 => ?_)
    · rw [if_pos c5] at H
      refine zw_run 4 (pc' := 110) (loc' := [some (.ref 136), some (.int k), some (.int u1.1), some (.int u3.1), some (.int (k + 1))]) (stk' := []) (fun _ _ _ => rfl) ?_
      exact l_145_110 hu k _ (zar u3.2 145 u3.1 (zf u3.2 10)) u1.1 u3.1 (k + 1) H
    · rw [if_neg c5] at H
      refine zw_run 2 (pc' := 66) (loc' := [some (.ref 136), some (.int k), some (.int u1.1), some (.int u3.1), none]) (stk' := [.int 109, .ref 136]) (fun _ _ _ => rfl) ?_
      obtain ⟨u6, hu6, H⟩ := oq_bind H
      refine zw_callf (As := [.ref 136, .int 109]) (rest := []) (c_122 hu 109 hu6 (d := d + 2)) rfl rfl rfl rfl ?_
      show zw fm sx (d + 3) 145 69 [some (.ref 136), some (.int k), some (.int u1.1), some (.int u3.1), none] [] u6 Q
      obtain ⟨hS, H⟩ := oq_ob H
      refine zw_run 2 (pc' := 72) (loc' := [some (.ref 136), some (.int k), some (.int u1.1), some (.int u3.1), none]) (stk' := [.int 97, .ref 136]) (fun _ _ _ => rfl) ?_
      obtain ⟨u7, hu7, H⟩ := oq_bind H
      refine zw_callf (As := [.ref 136, .int 97]) (rest := []) (c_122 hu 97 hu7 (d := d + 2)) rfl rfl rfl rfl ?_
      show zw fm sx (d + 3) 145 75 [some (.ref 136), some (.int k), some (.int u1.1), some (.int u3.1), none] [] u7 Q
      obtain ⟨hS, H⟩ := oq_ob H
      refine zw_run 2 (pc' := 78) (loc' := [some (.ref 136), some (.int k), some (.int u1.1), some (.int u3.1), none]) (stk' := [.int 105, .ref 136]) (fun _ _ _ => rfl) ?_
      obtain ⟨u8, hu8, H⟩ := oq_bind H
      refine zw_callf (As := [.ref 136, .int 105]) (rest := []) (c_122 hu 105 hu8 (d := d + 2)) rfl rfl rfl rfl ?_
      show zw fm sx (d + 3) 145 81 [some (.ref 136), some (.int k), some (.int u1.1), some (.int u3.1), none] [] u8 Q
      obtain ⟨hS, H⟩ := oq_ob H
      refine zw_run 2 (pc' := 84) (loc' := [some (.ref 136), some (.int k), some (.int u1.1), some (.int u3.1), none]) (stk' := [.int 108, .ref 136]) (fun _ _ _ => rfl) ?_
      obtain ⟨u9, hu9, H⟩ := oq_bind H
      refine zw_callf (As := [.ref 136, .int 108]) (rest := []) (c_122 hu 108 hu9 (d := d + 2)) rfl rfl rfl rfl ?_
      show zw fm sx (d + 3) 145 87 [some (.ref 136), some (.int k), some (.int u1.1), some (.int u3.1), none] [] u9 Q
      obtain ⟨hS, H⟩ := oq_ob H
      refine zw_run 2 (pc' := 90) (loc' := [some (.ref 136), some (.int k), some (.int u1.1), some (.int u3.1), none]) (stk' := [.int 116, .ref 136]) (fun _ _ _ => rfl) ?_
      obtain ⟨u10, hu10, H⟩ := oq_bind H
      refine zw_callf (As := [.ref 136, .int 116]) (rest := []) (c_122 hu 116 hu10 (d := d + 2)) rfl rfl rfl rfl ?_
      show zw fm sx (d + 3) 145 93 [some (.ref 136), some (.int k), some (.int u1.1), some (.int u3.1), none] [] u10 Q
      obtain ⟨hS, H⟩ := oq_ob H
      refine zw_run 2 (pc' := 96) (loc' := [some (.ref 136), some (.int k), some (.int u1.1), some (.int u3.1), none]) (stk' := [.int 111, .ref 136]) (fun _ _ _ => rfl) ?_
      obtain ⟨u11, hu11, H⟩ := oq_bind H
      refine zw_callf (As := [.ref 136, .int 111]) (rest := []) (c_122 hu 111 hu11 (d := d + 2)) rfl rfl rfl rfl ?_
      show zw fm sx (d + 3) 145 99 [some (.ref 136), some (.int k), some (.int u1.1), some (.int u3.1), none] [] u11 Q
      obtain ⟨hS, H⟩ := oq_ob H
      refine zw_run 2 (pc' := 102) (loc' := [some (.ref 136), some (.int k), some (.int u1.1), some (.int u3.1), none]) (stk' := [.int 58, .ref 136]) (fun _ _ _ => rfl) ?_
      obtain ⟨u12, hu12, H⟩ := oq_bind H
      refine zw_callf (As := [.ref 136, .int 58]) (rest := []) (c_122 hu 58 hu12 (d := d + 2)) rfl rfl rfl rfl ?_
      show zw fm sx (d + 3) 145 105 [some (.ref 136), some (.int k), some (.int u1.1), some (.int u3.1), none] [] u12 Q
      obtain ⟨hS, H⟩ := oq_ob H
      refine zw_run 4 (pc' := 110) (loc' := [some (.ref 136), some (.int k), some (.int u1.1), some (.int u3.1), some (.int (k + 1))]) (stk' := []) (fun _ _ _ => rfl) ?_
      exact l_145_110 hu k _ u12 u1.1 u3.1 (k + 1) H
  · rw [if_neg c2] at H
    refine zw_run 2 (pc' := 13) (loc' := [some (.ref 136), some (.int k), some (.int u1.1), none, none]) (stk' := [.int k, .ref 136]) (fun _ _ _ => rfl) ?_
    obtain ⟨u13, hu13, H⟩ := oq_bind H
    refine zw_callf (As := [.ref 136, .int k]) (rest := []) (c_144 hu k hu13 (d := d + 1)) rfl rfl rfl rfl ?_
    show zw fm sx (d + 3) 145 16 [some (.ref 136), some (.int k), some (.int u1.1), none, none] [.int (bI u13)] u1.2 Q
    refine zw_b0 (b := u13) (t1 := 19) (t2 := 25) (loc' := [some (.ref 136), some (.int k), some (.int u1.1), none, none]) (stk' := []) (fun _ _ _ => rfl) (fun c14 => ?_) (fun c14 => ?_)
    · rw [if_pos c14] at H
      refine zw_run 3 (pc' := 22) (loc' := [some (.ref 136), some (.int k), some (.int u1.1), none, none]) (stk' := [.int k, .int 2, .ref 136]) (fun _ _ _ => rfl) ?_
      obtain ⟨u15, hu15, H⟩ := oq_bind H
      refine zw_callf (As := [.ref 136, .int 2, .int k]) (rest := []) (c_148 hu 2 k hu15 (d := d + 2)) rfl rfl rfl rfl ?_
      show zw fm sx (d + 3) 145 25 [some (.ref 136), some (.int k), some (.int u1.1), none, none] [] u15 Q
      obtain ⟨hS, H⟩ := oq_ob H
      refine zw_run 3 (pc' := 29) (loc' := [some (.ref 136), some (.int k), some (.int u1.1), none, none]) (stk' := [.int 60, .int 0, .ref 136]) (fun _ _ _ => rfl) ?_
      obtain ⟨u16, hu16, H⟩ := oq_bind H
      refine zw_callf (As := [.ref 136, .int 0, .int 60]) (rest := []) (c_127 hu 0 60 hu16 (d := d + 1)) rfl rfl rfl rfl ?_
      show zw fm sx (d + 3) 145 32 [some (.ref 136), some (.int k), some (.int u1.1), none, none] [.int u16.1] u16.2 Q
      obtain ⟨hS, H⟩ := oq_ob H
      refine zw_run 4 (pc' := 36) (loc' := [some (.ref 136), some (.int k), some (.int u1.1), none, none]) (stk' := [.int (k + 1)]) (fun _ _ _ => rfl) ?_
      refine zw_reti (i := .nop) rfl rfl ?_
      have H := oq_some H
      exact H
    · rw [if_neg c14] at H
      refine zw_run 3 (pc' := 29) (loc' := [some (.ref 136), some (.int k), some (.int u1.1), none, none]) (stk' := [.int 60, .int 0, .ref 136]) (fun _ _ _ => rfl) ?_
      obtain ⟨u17, hu17, H⟩ := oq_bind H
      refine zw_callf (As := [.ref 136, .int 0, .int 60]) (rest := []) (c_127 hu 0 60 hu17 (d := d + 1)) rfl rfl rfl rfl ?_
      show zw fm sx (d + 3) 145 32 [some (.ref 136), some (.int k), some (.int u1.1), none, none] [.int u17.1] u17.2 Q
      obtain ⟨hS, H⟩ := oq_ob H
      refine zw_run 4 (pc' := 36) (loc' := [some (.ref 136), some (.int k), some (.int u1.1), none, none]) (stk' := [.int (k + 1)]) (fun _ _ _ => rfl) ?_
      refine zw_reti (i := .nop) rfl rfl ?_
      have H := oq_some H
      exact H
theorem c_145 {fm : Value} {sx : Nat × (Nat → Int32)} {d : Nat} {Z : zr_Z} (hu : fm = .null ∨ ∃ q, fm = .ref q) (k : Int32) {x : Int32 × zr_Z} (hx : o_145 Z k = some x) : zl fm sx (d + 4) 145 [.ref 136, .int k] Z (fun r Z' => r = some (.int x.1) ∧ Z' = x.2) :=
  zl_of (nL := 5) (loc0 := [some (.ref 136), some (.int k), none, none, none]) rfl rfl rfl (t_145 hu k ⟨x, hx, rfl, rfl⟩)
/-- MarkInlinesModel.code, its loop at 252 -/
def g_146_252 : Nat → zr_Z → Int32 → Int32 → Int32 → Int32 → Int32 → Int32 → Option (Int32 × zr_Z)
  | 0, _, _, _, _, _, _, _ => none
  | n + 1, Z, k, x2, x3, x6, x8, x9 => (if sok Z then (if x6 ≤ x9 then (if inq 145 x8 then (if inq 146 x8 then some (x3 + x2, zar Z 146 x8 ((zf Z 10) - (zv Z 145 x8))) else none) else none) else (Option.bind (o_122 Z (if ¬ (ra Z x9) = 10 then (ra Z x9) else 32 : Int32)) fun u7 => (if sok u7 then g_146_252 n u7 k x2 x3 x6 x8 (x9 + 1) else none))) else none)
set_option maxRecDepth 100000 in
set_option maxHeartbeats 4000000 in
theorem l_146_252 {fm : Value} {sx : Nat × (Nat → Int32)} {d : Nat} {Q : Option Value → zr_Z → Prop} (hu : fm = .null ∨ ∃ q, fm = .ref q) (k : Int32) : ∀ (n : Nat) (Z : zr_Z) (x2 : Int32) (x3 : Int32) (x6 : Int32) (x8 : Int32) (x9 : Int32), oq (g_146_252 n Z k x2 x3 x6 x8 x9) (fun x => Q (some (.int x.1)) x.2) → zw fm sx (d + 3) 146 252 [some (.ref 136), none, some (.int x2), some (.int x3), none, none, some (.int x6), none, some (.int x8), some (.int x9)] [] Z Q := by
  intro n
  induction n with
  | zero => intro Z x2 x3 x6 x8 x9 H; exact absurd H oq_none
  | succ n ih =>
    intro Z x2 x3 x6 x8 x9 H
    unfold g_146_252 at H
    obtain ⟨hS, H⟩ := oq_ob H
    refine zw_run 2 (pc' := 256) (loc' := [some (.ref 136), none, some (.int x2), some (.int x3), none, none, some (.int x6), none, some (.int x8), some (.int x9)]) (stk' := [.int x6, .int x9]) (fun _ _ _ => rfl) ?_
    refine zw_br (c := x6 ≤ x9) (t1 := 291) (t2 := 259) (loc' := [some (.ref 136), none, some (.int x2), some (.int x3), none, none, some (.int x6), none, some (.int x8), some (.int x9)]) (stk' := []) (fun _ _ _ => rfl) (fun c1 => ?_) (fun c1 => ?_)
    · rw [if_pos c1] at H
      refine zw_run 1 (pc' := 292) (loc' := [some (.ref 136), none, some (.int x2), some (.int x3), none, none, some (.int x6), none, some (.int x8), some (.int x9)]) (stk' := [.ref 136]) (fun _ _ _ => rfl) ?_
      refine zw_mget (v := .ref 146) rfl rfl ?_
      refine zw_run 2 (pc' := 298) (loc' := [some (.ref 136), none, some (.int x2), some (.int x3), none, none, some (.int x6), none, some (.int x8), some (.int x9)]) (stk' := [.ref 136, .int x8, .ref 146]) (fun _ _ _ => rfl) ?_
      refine zw_mget (v := .int (zf Z 10)) rfl rfl ?_
      refine zw_run 1 (pc' := 302) (loc' := [some (.ref 136), none, some (.int x2), some (.int x3), none, none, some (.int x6), none, some (.int x8), some (.int x9)]) (stk' := [.ref 136, .int (zf Z 10), .int x8, .ref 146]) (fun _ _ _ => rfl) ?_
      refine zw_mget (v := .ref 145) rfl rfl ?_
      refine zw_run 1 (pc' := 307) (loc' := [some (.ref 136), none, some (.int x2), some (.int x3), none, none, some (.int x6), none, some (.int x8), some (.int x9)]) (stk' := [.int x8, .ref 145, .int (zf Z 10), .int x8, .ref 146]) (fun _ _ _ => rfl) ?_
      obtain ⟨b2, H⟩ := oq_ob H
      refine zw_iald (j := 145) rfl (by decide) (by decide) rfl b2 ?_
      refine zw_run 1 (pc' := 309) (loc' := [some (.ref 136), none, some (.int x2), some (.int x3), none, none, some (.int x6), none, some (.int x8), some (.int x9)]) (stk' := [.int ((zf Z 10) - (zv Z 145 x8)), .int x8, .ref 146]) (fun _ _ _ => rfl) ?_
      obtain ⟨b3, H⟩ := oq_ob H
      refine zw_iast (j := 146) rfl (by decide) (by decide) rfl b3 ?_
      show zw fm sx (d + 3) 146 310 [some (.ref 136), none, some (.int x2), some (.int x3), none, none, some (.int x6), none, some (.int x8), some (.int x9)] [] (zar Z 146 x8 ((zf Z 10) - (zv Z 145 x8))) Q
      refine zw_run 3 (pc' := 313) (loc' := [some (.ref 136), none, some (.int x2), some (.int x3), none, none, some (.int x6), none, some (.int x8), some (.int x9)]) (stk' := [.int (x3 + x2)]) (fun _ _ _ => rfl) ?_
      refine zw_reti (i := .nop) rfl rfl ?_
      have H := oq_some H
      exact H
    · rw [if_neg c1] at H
      refine zw_run 3 (pc' := 263) (loc' := [some (.ref 136), none, some (.int x2), some (.int x3), none, none, some (.int x6), none, some (.int x8), some (.int x9)]) (stk' := [.int x9, .ref 136, .ref 136]) (fun _ _ _ => rfl) ?_
      refine zw_callf (As := [.ref 136, .int x9]) (rest := [.ref 136]) (c_183 (Z := Z) hS x9 (d := d + 2)) rfl rfl rfl rfl ?_
      show zw fm sx (d + 3) 146 266 [some (.ref 136), none, some (.int x2), some (.int x3), none, none, some (.int x6), none, some (.int x8), some (.int x9)] [.int (ra Z x9), .ref 136] Z Q
      refine zw_run 1 (pc' := 268) (loc' := [some (.ref 136), none, some (.int x2), some (.int x3), none, none, some (.int x6), none, some (.int x8), some (.int x9)]) (stk' := [.int 10, .int (ra Z x9), .ref 136]) (fun _ _ _ => rfl) ?_
      have J6 : ∀ (v5 : Int32), v5 = (if ¬ (ra Z x9) = 10 then (ra Z x9) else 32 : Int32) → zw fm sx (d + 3) 146 282 [some (.ref 136), none, some (.int x2), some (.int x3), none, none, some (.int x6), none, some (.int x8), some (.int x9)] [.int v5, .ref 136] Z Q := by
        intro v5 ev5
        subst ev5
        obtain ⟨u7, hu7, H⟩ := oq_bind H
        refine zw_callf (As := [.ref 136, .int (if ¬ (ra Z x9) = 10 then (ra Z x9) else 32 : Int32)]) (rest := []) (c_122 hu (if ¬ (ra Z x9) = 10 then (ra Z x9) else 32 : Int32) hu7 (d := d + 2)) rfl rfl rfl rfl ?_
        show zw fm sx (d + 3) 146 285 [some (.ref 136), none, some (.int x2), some (.int x3), none, none, some (.int x6), none, some (.int x8), some (.int x9)] [] u7 Q
        obtain ⟨hS, H⟩ := oq_ob H
        refine zw_run 2 (pc' := 252) (loc' := [some (.ref 136), none, some (.int x2), some (.int x3), none, none, some (.int x6), none, some (.int x8), some (.int (x9 + 1))]) (stk' := []) (fun _ _ _ => rfl) ?_
        exact ih u7 x2 x3 x6 x8 (x9 + 1) H
      refine zw_br (c := ¬ (ra Z x9) = 10) (t1 := 276) (t2 := 271) (loc' := [some (.ref 136), none, some (.int x2), some (.int x3), none, none, some (.int x6), none, some (.int x8), some (.int x9)]) (stk' := [.ref 136]) (fun _ _ _ => rfl) (fun c4 => ?_) (fun c4 => ?_)
      · skip
        refine zw_run 2 (pc' := 279) (loc' := [some (.ref 136), none, some (.int x2), some (.int x3), none, none, some (.int x6), none, some (.int x8), some (.int x9)]) (stk' := [.int x9, .ref 136, .ref 136]) (fun _ _ _ => rfl) ?_
        refine zw_callf (As := [.ref 136, .int x9]) (rest := [.ref 136]) (c_183 (Z := Z) hS x9 (d := d + 2)) rfl rfl rfl rfl ?_
        show zw fm sx (d + 3) 146 282 [some (.ref 136), none, some (.int x2), some (.int x3), none, none, some (.int x6), none, some (.int x8), some (.int x9)] [.int (ra Z x9), .ref 136] Z Q
        exact J6 _ (by first | (rw [if_pos c4]; done) | (rw [if_pos c4]; rfl) | (clear H J6; simp_all [bI]; done))
      · skip
        refine zw_run 2 (pc' := 282) (loc' := [some (.ref 136), none, some (.int x2), some (.int x3), none, none, some (.int x6), none, some (.int x8), some (.int x9)]) (stk' := [.int 32, .ref 136]) (fun _ _ _ => rfl) ?_
        exact J6 _ (by first | (rw [if_neg c4]; done) | (rw [if_neg c4]; rfl) | (clear H J6; simp_all [bI]; done))
/-- MarkInlinesModel.code, its loop at 123 -/
def g_146_123 : Nat → zr_Z → Int32 → Int32 → Int32 → Int32 → Int32 → Bool → Int32 → Option (Int32 × zr_Z)
  | 0, _, _, _, _, _, _, _, _ => none
  | n + 1, Z, k, x2, x3, x5, x6, y7, x8 => (if sok Z then (if x6 ≤ x8 then (Option.bind (o_127 Z 3 0) fun u12 => (if sok u12.2 then (if inq 145 u12.1 then (olet ((if y7 = true then x5 else (if (ra Z x5) = 32 then (if (ra Z (x6 - 1)) = 32 then (x5 + 1) else (if ¬ (ra Z (x6 - 1)) = 10 then x5 else (x5 + 1) : Int32) : Int32) else (if ¬ (ra Z x5) = 10 then x5 else (if (ra Z (x6 - 1)) = 32 then (x5 + 1) else (if ¬ (ra Z (x6 - 1)) = 10 then x5 else (x5 + 1) : Int32) : Int32) : Int32) : Int32) : Int32) : Int32) fun x14 => g_146_252 oF (zar u12.2 145 u12.1 (zf u12.2 10)) k x2 x3 (if y7 = true then x6 else (if (ra Z x5) = 32 then (if (ra Z (x6 - 1)) = 32 then (x6 + (-1)) else (if ¬ (ra Z (x6 - 1)) = 10 then x6 else (x6 + (-1)) : Int32) : Int32) else (if ¬ (ra Z x5) = 10 then x6 else (if (ra Z (x6 - 1)) = 32 then (x6 + (-1)) else (if ¬ (ra Z (x6 - 1)) = 10 then x6 else (x6 + (-1)) : Int32) : Int32) : Int32) : Int32) : Int32) u12.1 x14) else none) else none)) else (olet ((y7 && ((decide ((ra Z x8) = 32)) || (decide ((ra Z x8) = 10)))) : Bool) fun y20 => g_146_123 n Z k x2 x3 x5 x6 y20 (x8 + 1))) else none)
set_option maxRecDepth 100000 in
set_option maxHeartbeats 4000000 in
theorem l_146_123 {fm : Value} {sx : Nat × (Nat → Int32)} {d : Nat} {Q : Option Value → zr_Z → Prop} (hu : fm = .null ∨ ∃ q, fm = .ref q) (k : Int32) : ∀ (n : Nat) (Z : zr_Z) (x2 : Int32) (x3 : Int32) (x5 : Int32) (x6 : Int32) (y7 : Bool) (x8 : Int32), oq (g_146_123 n Z k x2 x3 x5 x6 y7 x8) (fun x => Q (some (.int x.1)) x.2) → zw fm sx (d + 3) 146 123 [some (.ref 136), none, some (.int x2), some (.int x3), none, some (.int x5), some (.int x6), some (.int (bI y7)), some (.int x8), none] [] Z Q := by
  intro n
  induction n with
  | zero => intro Z x2 x3 x5 x6 y7 x8 H; exact absurd H oq_none
  | succ n ih =>
    intro Z x2 x3 x5 x6 y7 x8 H
    unfold g_146_123 at H
    obtain ⟨hS, H⟩ := oq_ob H
    refine zw_run 2 (pc' := 127) (loc' := [some (.ref 136), none, some (.int x2), some (.int x3), none, some (.int x5), some (.int x6), some (.int (bI y7)), some (.int x8), none]) (stk' := [.int x6, .int x8]) (fun _ _ _ => rfl) ?_
    refine zw_br (c := x6 ≤ x8) (t1 := 170) (t2 := 130) (loc' := [some (.ref 136), none, some (.int x2), some (.int x3), none, some (.int x5), some (.int x6), some (.int (bI y7)), some (.int x8), none]) (stk' := []) (fun _ _ _ => rfl) (fun c1 => ?_) (fun c1 => ?_)
    · rw [if_pos c1] at H
      refine zw_run 1 (pc' := 172) (loc' := [some (.ref 136), none, some (.int x2), some (.int x3), none, some (.int x5), some (.int x6), some (.int (bI y7)), some (.int x8), none]) (stk' := [.int (bI y7)]) (fun _ _ _ => rfl) ?_
      have J11 : ∀ (v9 : Int32) (v10 : Int32), v9 = (if y7 = true then x5 else (if (ra Z x5) = 32 then (if (ra Z (x6 - 1)) = 32 then (x5 + 1) else (if ¬ (ra Z (x6 - 1)) = 10 then x5 else (x5 + 1) : Int32) : Int32) else (if ¬ (ra Z x5) = 10 then x5 else (if (ra Z (x6 - 1)) = 32 then (x5 + 1) else (if ¬ (ra Z (x6 - 1)) = 10 then x5 else (x5 + 1) : Int32) : Int32) : Int32) : Int32) : Int32) → v10 = (if y7 = true then x6 else (if (ra Z x5) = 32 then (if (ra Z (x6 - 1)) = 32 then (x6 + (-1)) else (if ¬ (ra Z (x6 - 1)) = 10 then x6 else (x6 + (-1)) : Int32) : Int32) else (if ¬ (ra Z x5) = 10 then x6 else (if (ra Z (x6 - 1)) = 32 then (x6 + (-1)) else (if ¬ (ra Z (x6 - 1)) = 10 then x6 else (x6 + (-1)) : Int32) : Int32) : Int32) : Int32) : Int32) → zw fm sx (d + 3) 146 229 [some (.ref 136), none, some (.int x2), some (.int x3), none, some (.int v9), some (.int v10), some (.int (bI y7)), some (.int x8), none] [] Z Q := by
        intro v9 v10 ev9 ev10
        subst ev9 ev10
        refine zw_run 3 (pc' := 232) (loc' := [some (.ref 136), none, some (.int x2), some (.int x3), none, some (.int (if y7 = true then x5 else (if (ra Z x5) = 32 then (if (ra Z (x6 - 1)) = 32 then (x5 + 1) else (if ¬ (ra Z (x6 - 1)) = 10 then x5 else (x5 + 1) : Int32) : Int32) else (if ¬ (ra Z x5) = 10 then x5 else (if (ra Z (x6 - 1)) = 32 then (x5 + 1) else (if ¬ (ra Z (x6 - 1)) = 10 then x5 else (x5 + 1) : Int32) : Int32) : Int32) : Int32) : Int32)), some (.int (if y7 = true then x6 else (if (ra Z x5) = 32 then (if (ra Z (x6 - 1)) = 32 then (x6 + (-1)) else (if ¬ (ra Z (x6 - 1)) = 10 then x6 else (x6 + (-1)) : Int32) : Int32) else (if ¬ (ra Z x5) = 10 then x6 else (if (ra Z (x6 - 1)) = 32 then (x6 + (-1)) else (if ¬ (ra Z (x6 - 1)) = 10 then x6 else (x6 + (-1)) : Int32) : Int32) : Int32) : Int32) : Int32)), some (.int (bI y7)), some (.int x8), none]) (stk' := [.int 0, .int 3, .ref 136]) (fun _ _ _ => rfl) ?_
        obtain ⟨u12, hu12, H⟩ := oq_bind H
        refine zw_callf (As := [.ref 136, .int 3, .int 0]) (rest := []) (c_127 hu 3 0 hu12 (d := d + 1)) rfl rfl rfl rfl ?_
        show zw fm sx (d + 3) 146 235 [some (.ref 136), none, some (.int x2), some (.int x3), none, some (.int (if y7 = true then x5 else (if (ra Z x5) = 32 then (if (ra Z (x6 - 1)) = 32 then (x5 + 1) else (if ¬ (ra Z (x6 - 1)) = 10 then x5 else (x5 + 1) : Int32) : Int32) else (if ¬ (ra Z x5) = 10 then x5 else (if (ra Z (x6 - 1)) = 32 then (x5 + 1) else (if ¬ (ra Z (x6 - 1)) = 10 then x5 else (x5 + 1) : Int32) : Int32) : Int32) : Int32) : Int32)), some (.int (if y7 = true then x6 else (if (ra Z x5) = 32 then (if (ra Z (x6 - 1)) = 32 then (x6 + (-1)) else (if ¬ (ra Z (x6 - 1)) = 10 then x6 else (x6 + (-1)) : Int32) : Int32) else (if ¬ (ra Z x5) = 10 then x6 else (if (ra Z (x6 - 1)) = 32 then (x6 + (-1)) else (if ¬ (ra Z (x6 - 1)) = 10 then x6 else (x6 + (-1)) : Int32) : Int32) : Int32) : Int32) : Int32)), some (.int (bI y7)), some (.int x8), none] [.int u12.1] u12.2 Q
        obtain ⟨hS, H⟩ := oq_ob H
        refine zw_run 2 (pc' := 238) (loc' := [some (.ref 136), none, some (.int x2), some (.int x3), none, some (.int (if y7 = true then x5 else (if (ra Z x5) = 32 then (if (ra Z (x6 - 1)) = 32 then (x5 + 1) else (if ¬ (ra Z (x6 - 1)) = 10 then x5 else (x5 + 1) : Int32) : Int32) else (if ¬ (ra Z x5) = 10 then x5 else (if (ra Z (x6 - 1)) = 32 then (x5 + 1) else (if ¬ (ra Z (x6 - 1)) = 10 then x5 else (x5 + 1) : Int32) : Int32) : Int32) : Int32) : Int32)), some (.int (if y7 = true then x6 else (if (ra Z x5) = 32 then (if (ra Z (x6 - 1)) = 32 then (x6 + (-1)) else (if ¬ (ra Z (x6 - 1)) = 10 then x6 else (x6 + (-1)) : Int32) : Int32) else (if ¬ (ra Z x5) = 10 then x6 else (if (ra Z (x6 - 1)) = 32 then (x6 + (-1)) else (if ¬ (ra Z (x6 - 1)) = 10 then x6 else (x6 + (-1)) : Int32) : Int32) : Int32) : Int32) : Int32)), some (.int (bI y7)), some (.int u12.1), none]) (stk' := [.ref 136]) (fun _ _ _ => rfl) ?_
        refine zw_mget (v := .ref 145) rfl rfl ?_
        refine zw_run 2 (pc' := 244) (loc' := [some (.ref 136), none, some (.int x2), some (.int x3), none, some (.int (if y7 = true then x5 else (if (ra Z x5) = 32 then (if (ra Z (x6 - 1)) = 32 then (x5 + 1) else (if ¬ (ra Z (x6 - 1)) = 10 then x5 else (x5 + 1) : Int32) : Int32) else (if ¬ (ra Z x5) = 10 then x5 else (if (ra Z (x6 - 1)) = 32 then (x5 + 1) else (if ¬ (ra Z (x6 - 1)) = 10 then x5 else (x5 + 1) : Int32) : Int32) : Int32) : Int32) : Int32)), some (.int (if y7 = true then x6 else (if (ra Z x5) = 32 then (if (ra Z (x6 - 1)) = 32 then (x6 + (-1)) else (if ¬ (ra Z (x6 - 1)) = 10 then x6 else (x6 + (-1)) : Int32) : Int32) else (if ¬ (ra Z x5) = 10 then x6 else (if (ra Z (x6 - 1)) = 32 then (x6 + (-1)) else (if ¬ (ra Z (x6 - 1)) = 10 then x6 else (x6 + (-1)) : Int32) : Int32) : Int32) : Int32) : Int32)), some (.int (bI y7)), some (.int u12.1), none]) (stk' := [.ref 136, .int u12.1, .ref 145]) (fun _ _ _ => rfl) ?_
        refine zw_mget (v := .int (zf u12.2 10)) rfl rfl ?_
        obtain ⟨b13, H⟩ := oq_ob H
        refine zw_iast (j := 145) rfl (by decide) (by decide) rfl b13 ?_
        show zw fm sx (d + 3) 146 248 [some (.ref 136), none, some (.int x2), some (.int x3), none, some (.int (if y7 = true then x5 else (if (ra Z x5) = 32 then (if (ra Z (x6 - 1)) = 32 then (x5 + 1) else (if ¬ (ra Z (x6 - 1)) = 10 then x5 else (x5 + 1) : Int32) : Int32) else (if ¬ (ra Z x5) = 10 then x5 else (if (ra Z (x6 - 1)) = 32 then (x5 + 1) else (if ¬ (ra Z (x6 - 1)) = 10 then x5 else (x5 + 1) : Int32) : Int32) : Int32) : Int32) : Int32)), some (.int (if y7 = true then x6 else (if (ra Z x5) = 32 then (if (ra Z (x6 - 1)) = 32 then (x6 + (-1)) else (if ¬ (ra Z (x6 - 1)) = 10 then x6 else (x6 + (-1)) : Int32) : Int32) else (if ¬ (ra Z x5) = 10 then x6 else (if (ra Z (x6 - 1)) = 32 then (x6 + (-1)) else (if ¬ (ra Z (x6 - 1)) = 10 then x6 else (x6 + (-1)) : Int32) : Int32) : Int32) : Int32) : Int32)), some (.int (bI y7)), some (.int u12.1), none] [] (zar u12.2 145 u12.1 (zf u12.2 10)) Q
        refine zw_run 2 (pc' := 252) (loc' := [some (.ref 136), none, some (.int x2), some (.int x3), none, some (.int (if y7 = true then x5 else (if (ra Z x5) = 32 then (if (ra Z (x6 - 1)) = 32 then (x5 + 1) else (if ¬ (ra Z (x6 - 1)) = 10 then x5 else (x5 + 1) : Int32) : Int32) else (if ¬ (ra Z x5) = 10 then x5 else (if (ra Z (x6 - 1)) = 32 then (x5 + 1) else (if ¬ (ra Z (x6 - 1)) = 10 then x5 else (x5 + 1) : Int32) : Int32) : Int32) : Int32) : Int32)), some (.int (if y7 = true then x6 else (if (ra Z x5) = 32 then (if (ra Z (x6 - 1)) = 32 then (x6 + (-1)) else (if ¬ (ra Z (x6 - 1)) = 10 then x6 else (x6 + (-1)) : Int32) : Int32) else (if ¬ (ra Z x5) = 10 then x6 else (if (ra Z (x6 - 1)) = 32 then (x6 + (-1)) else (if ¬ (ra Z (x6 - 1)) = 10 then x6 else (x6 + (-1)) : Int32) : Int32) : Int32) : Int32) : Int32)), some (.int (bI y7)), some (.int u12.1), some (.int (if y7 = true then x5 else (if (ra Z x5) = 32 then (if (ra Z (x6 - 1)) = 32 then (x5 + 1) else (if ¬ (ra Z (x6 - 1)) = 10 then x5 else (x5 + 1) : Int32) : Int32) else (if ¬ (ra Z x5) = 10 then x5 else (if (ra Z (x6 - 1)) = 32 then (x5 + 1) else (if ¬ (ra Z (x6 - 1)) = 10 then x5 else (x5 + 1) : Int32) : Int32) : Int32) : Int32) : Int32))]) (stk' := []) (fun _ _ _ => rfl) ?_
        obtain ⟨x14, hx14⟩ : ∃ w : Int32, w = (if y7 = true then x5 else (if (ra Z x5) = 32 then (if (ra Z (x6 - 1)) = 32 then (x5 + 1) else (if ¬ (ra Z (x6 - 1)) = 10 then x5 else (x5 + 1) : Int32) : Int32) else (if ¬ (ra Z x5) = 10 then x5 else (if (ra Z (x6 - 1)) = 32 then (x5 + 1) else (if ¬ (ra Z (x6 - 1)) = 10 then x5 else (x5 + 1) : Int32) : Int32) : Int32) : Int32) : Int32) := ⟨_, rfl⟩
        rw [← hx14]
        have H := oq_let H x14 hx14
        refine zw_fgt [true, false, true, true, false, false, true, false, true, true] rfl ?_
        exact l_146_252 hu k _ (zar u12.2 145 u12.1 (zf u12.2 10)) x2 x3 (if y7 = true then x6 else (if (ra Z x5) = 32 then (if (ra Z (x6 - 1)) = 32 then (x6 + (-1)) else (if ¬ (ra Z (x6 - 1)) = 10 then x6 else (x6 + (-1)) : Int32) : Int32) else (if ¬ (ra Z x5) = 10 then x6 else (if (ra Z (x6 - 1)) = 32 then (x6 + (-1)) else (if ¬ (ra Z (x6 - 1)) = 10 then x6 else (x6 + (-1)) : Int32) : Int32) : Int32) : Int32) : Int32) u12.1 x14 H
      refine zw_b1 (b := y7) (t1 := 229) (t2 := 175) (loc' := [some (.ref 136), none, some (.int x2), some (.int x3), none, some (.int x5), some (.int x6), some (.int (bI y7)), some (.int x8), none]) (stk' := []) (fun _ _ _ => rfl) (fun c2 => ?_) (fun c2 => ?_)
      · skip
        exact J11 _ _ (by first | (rw [if_pos c2]; done) | (rw [if_pos c2]; rfl) | (clear H J11; simp_all [bI]; done)) (by first | (rw [if_pos c2]; done) | (rw [if_pos c2]; rfl) | (clear H J11; simp_all [bI]; done))
      · skip
        refine zw_run 2 (pc' := 178) (loc' := [some (.ref 136), none, some (.int x2), some (.int x3), none, some (.int x5), some (.int x6), some (.int (bI y7)), some (.int x8), none]) (stk' := [.int x5, .ref 136]) (fun _ _ _ => rfl) ?_
        refine zw_callf (As := [.ref 136, .int x5]) (rest := []) (c_183 (Z := Z) hS x5 (d := d + 2)) rfl rfl rfl rfl ?_
        show zw fm sx (d + 3) 146 181 [some (.ref 136), none, some (.int x2), some (.int x3), none, some (.int x5), some (.int x6), some (.int (bI y7)), some (.int x8), none] [.int (ra Z x5)] Z Q
        refine zw_run 1 (pc' := 183) (loc' := [some (.ref 136), none, some (.int x2), some (.int x3), none, some (.int x5), some (.int x6), some (.int (bI y7)), some (.int x8), none]) (stk' := [.int 32, .int (ra Z x5)]) (fun _ _ _ => rfl) ?_
        refine zw_br (c := (ra Z x5) = 32) (t1 := 197) (t2 := 186) (loc' := [some (.ref 136), none, some (.int x2), some (.int x3), none, some (.int x5), some (.int x6), some (.int (bI y7)), some (.int x8), none]) (stk' := []) (fun _ _ _ => rfl) (fun c3 => ?_) (fun c3 => ?_)
        · skip
          refine zw_run 4 (pc' := 202) (loc' := [some (.ref 136), none, some (.int x2), some (.int x3), none, some (.int x5), some (.int x6), some (.int (bI y7)), some (.int x8), none]) (stk' := [.int (x6 - 1), .ref 136]) (fun _ _ _ => rfl) ?_
          refine zw_callf (As := [.ref 136, .int (x6 - 1)]) (rest := []) (c_183 (Z := Z) hS (x6 - 1) (d := d + 2)) rfl rfl rfl rfl ?_
          show zw fm sx (d + 3) 146 205 [some (.ref 136), none, some (.int x2), some (.int x3), none, some (.int x5), some (.int x6), some (.int (bI y7)), some (.int x8), none] [.int (ra Z (x6 - 1))] Z Q
          refine zw_run 1 (pc' := 207) (loc' := [some (.ref 136), none, some (.int x2), some (.int x3), none, some (.int x5), some (.int x6), some (.int (bI y7)), some (.int x8), none]) (stk' := [.int 32, .int (ra Z (x6 - 1))]) (fun _ _ _ => rfl) ?_
          refine zw_br (c := (ra Z (x6 - 1)) = 32) (t1 := 223) (t2 := 210) (loc' := [some (.ref 136), none, some (.int x2), some (.int x3), none, some (.int x5), some (.int x6), some (.int (bI y7)), some (.int x8), none]) (stk' := []) (fun _ _ _ => rfl) (fun c4 => ?_) (fun c4 => ?_)
          · skip
            refine zw_run 2 (pc' := 229) (loc' := [some (.ref 136), none, some (.int x2), some (.int x3), none, some (.int (x5 + 1)), some (.int (x6 + (-1))), some (.int (bI y7)), some (.int x8), none]) (stk' := []) (fun _ _ _ => rfl) ?_
            exact J11 _ _ (by first | (rw [if_neg c2, if_pos c3, if_pos c4]; done) | (rw [if_neg c2, if_pos c3, if_pos c4]; rfl) | (clear H J11; simp_all [bI]; done)) (by first | (rw [if_neg c2, if_pos c3, if_pos c4]; done) | (rw [if_neg c2, if_pos c3, if_pos c4]; rfl) | (clear H J11; simp_all [bI]; done))
          · skip
            refine zw_run 4 (pc' := 215) (loc' := [some (.ref 136), none, some (.int x2), some (.int x3), none, some (.int x5), some (.int x6), some (.int (bI y7)), some (.int x8), none]) (stk' := [.int (x6 - 1), .ref 136]) (fun _ _ _ => rfl) ?_
            refine zw_callf (As := [.ref 136, .int (x6 - 1)]) (rest := []) (c_183 (Z := Z) hS (x6 - 1) (d := d + 2)) rfl rfl rfl rfl ?_
            show zw fm sx (d + 3) 146 218 [some (.ref 136), none, some (.int x2), some (.int x3), none, some (.int x5), some (.int x6), some (.int (bI y7)), some (.int x8), none] [.int (ra Z (x6 - 1))] Z Q
            refine zw_run 1 (pc' := 220) (loc' := [some (.ref 136), none, some (.int x2), some (.int x3), none, some (.int x5), some (.int x6), some (.int (bI y7)), some (.int x8), none]) (stk' := [.int 10, .int (ra Z (x6 - 1))]) (fun _ _ _ => rfl) ?_
            refine zw_br (c := ¬ (ra Z (x6 - 1)) = 10) (t1 := 229) (t2 := 223) (loc' := [some (.ref 136), none, some (.int x2), some (.int x3), none, some (.int x5), some (.int x6), some (.int (bI y7)), some (.int x8), none]) (stk' := []) (fun _ _ _ => rfl) (fun c5 => ?_) (fun c5 => ?_)
            · skip
              exact J11 _ _ (by first | (rw [if_neg c2, if_pos c3, if_neg c4, if_pos c5]; done) | (rw [if_neg c2, if_pos c3, if_neg c4, if_pos c5]; rfl) | (clear H J11; simp_all [bI]; done)) (by first | (rw [if_neg c2, if_pos c3, if_neg c4, if_pos c5]; done) | (rw [if_neg c2, if_pos c3, if_neg c4, if_pos c5]; rfl) | (clear H J11; simp_all [bI]; done))
            · skip
              refine zw_run 2 (pc' := 229) (loc' := [some (.ref 136), none, some (.int x2), some (.int x3), none, some (.int (x5 + 1)), some (.int (x6 + (-1))), some (.int (bI y7)), some (.int x8), none]) (stk' := []) (fun _ _ _ => rfl) ?_
              exact J11 _ _ (by first | (rw [if_neg c2, if_pos c3, if_neg c4, if_neg c5]; done) | (rw [if_neg c2, if_pos c3, if_neg c4, if_neg c5]; rfl) | (clear H J11; simp_all [bI]; done)) (by first | (rw [if_neg c2, if_pos c3, if_neg c4, if_neg c5]; done) | (rw [if_neg c2, if_pos c3, if_neg c4, if_neg c5]; rfl) | (clear H J11; simp_all [bI]; done))
        · skip
          refine zw_run 2 (pc' := 189) (loc' := [some (.ref 136), none, some (.int x2), some (.int x3), none, some (.int x5), some (.int x6), some (.int (bI y7)), some (.int x8), none]) (stk' := [.int x5, .ref 136]) (fun _ _ _ => rfl) ?_
          refine zw_callf (As := [.ref 136, .int x5]) (rest := []) (c_183 (Z := Z) hS x5 (d := d + 2)) rfl rfl rfl rfl ?_
          show zw fm sx (d + 3) 146 192 [some (.ref 136), none, some (.int x2), some (.int x3), none, some (.int x5), some (.int x6), some (.int (bI y7)), some (.int x8), none] [.int (ra Z x5)] Z Q
          refine zw_run 1 (pc' := 194) (loc' := [some (.ref 136), none, some (.int x2), some (.int x3), none, some (.int x5), some (.int x6), some (.int (bI y7)), some (.int x8), none]) (stk' := [.int 10, .int (ra Z x5)]) (fun _ _ _ => rfl) ?_
          refine zw_br (c := ¬ (ra Z x5) = 10) (t1 := 229) (t2 := 197) (loc' := [some (.ref 136), none, some (.int x2), some (.int x3), none, some (.int x5), some (.int x6), some (.int (bI y7)), some (.int x8), none]) (stk' := []) (fun _ _ _ => rfl) (fun c6 => ?_) (fun c6 => ?_)
          · skip
            exact J11 _ _ (by first | (rw [if_neg c2, if_neg c3, if_pos c6]; done) | (rw [if_neg c2, if_neg c3, if_pos c6]; rfl) | (clear H J11; simp_all [bI]; done)) (by first | (rw [if_neg c2, if_neg c3, if_pos c6]; done) | (rw [if_neg c2, if_neg c3, if_pos c6]; rfl) | (clear H J11; simp_all [bI]; done))
          · skip
            refine zw_run 4 (pc' := 202) (loc' := [some (.ref 136), none, some (.int x2), some (.int x3), none, some (.int x5), some (.int x6), some (.int (bI y7)), some (.int x8), none]) (stk' := [.int (x6 - 1), .ref 136]) (fun _ _ _ => rfl) ?_
            refine zw_callf (As := [.ref 136, .int (x6 - 1)]) (rest := []) (c_183 (Z := Z) hS (x6 - 1) (d := d + 2)) rfl rfl rfl rfl ?_
            show zw fm sx (d + 3) 146 205 [some (.ref 136), none, some (.int x2), some (.int x3), none, some (.int x5), some (.int x6), some (.int (bI y7)), some (.int x8), none] [.int (ra Z (x6 - 1))] Z Q
            refine zw_run 1 (pc' := 207) (loc' := [some (.ref 136), none, some (.int x2), some (.int x3), none, some (.int x5), some (.int x6), some (.int (bI y7)), some (.int x8), none]) (stk' := [.int 32, .int (ra Z (x6 - 1))]) (fun _ _ _ => rfl) ?_
            refine zw_br (c := (ra Z (x6 - 1)) = 32) (t1 := 223) (t2 := 210) (loc' := [some (.ref 136), none, some (.int x2), some (.int x3), none, some (.int x5), some (.int x6), some (.int (bI y7)), some (.int x8), none]) (stk' := []) (fun _ _ _ => rfl) (fun c7 => ?_) (fun c7 => ?_)
            · skip
              refine zw_run 2 (pc' := 229) (loc' := [some (.ref 136), none, some (.int x2), some (.int x3), none, some (.int (x5 + 1)), some (.int (x6 + (-1))), some (.int (bI y7)), some (.int x8), none]) (stk' := []) (fun _ _ _ => rfl) ?_
              exact J11 _ _ (by first | (rw [if_neg c2, if_neg c3, if_neg c6, if_pos c7]; done) | (rw [if_neg c2, if_neg c3, if_neg c6, if_pos c7]; rfl) | (clear H J11; simp_all [bI]; done)) (by first | (rw [if_neg c2, if_neg c3, if_neg c6, if_pos c7]; done) | (rw [if_neg c2, if_neg c3, if_neg c6, if_pos c7]; rfl) | (clear H J11; simp_all [bI]; done))
            · skip
              refine zw_run 4 (pc' := 215) (loc' := [some (.ref 136), none, some (.int x2), some (.int x3), none, some (.int x5), some (.int x6), some (.int (bI y7)), some (.int x8), none]) (stk' := [.int (x6 - 1), .ref 136]) (fun _ _ _ => rfl) ?_
              refine zw_callf (As := [.ref 136, .int (x6 - 1)]) (rest := []) (c_183 (Z := Z) hS (x6 - 1) (d := d + 2)) rfl rfl rfl rfl ?_
              show zw fm sx (d + 3) 146 218 [some (.ref 136), none, some (.int x2), some (.int x3), none, some (.int x5), some (.int x6), some (.int (bI y7)), some (.int x8), none] [.int (ra Z (x6 - 1))] Z Q
              refine zw_run 1 (pc' := 220) (loc' := [some (.ref 136), none, some (.int x2), some (.int x3), none, some (.int x5), some (.int x6), some (.int (bI y7)), some (.int x8), none]) (stk' := [.int 10, .int (ra Z (x6 - 1))]) (fun _ _ _ => rfl) ?_
              refine zw_br (c := ¬ (ra Z (x6 - 1)) = 10) (t1 := 229) (t2 := 223) (loc' := [some (.ref 136), none, some (.int x2), some (.int x3), none, some (.int x5), some (.int x6), some (.int (bI y7)), some (.int x8), none]) (stk' := []) (fun _ _ _ => rfl) (fun c8 => ?_) (fun c8 => ?_)
              · skip
                exact J11 _ _ (by first | (rw [if_neg c2, if_neg c3, if_neg c6, if_neg c7, if_pos c8]; done) | (rw [if_neg c2, if_neg c3, if_neg c6, if_neg c7, if_pos c8]; rfl) | (clear H J11; simp_all [bI]; done)) (by first | (rw [if_neg c2, if_neg c3, if_neg c6, if_neg c7, if_pos c8]; done) | (rw [if_neg c2, if_neg c3, if_neg c6, if_neg c7, if_pos c8]; rfl) | (clear H J11; simp_all [bI]; done))
              · skip
                refine zw_run 2 (pc' := 229) (loc' := [some (.ref 136), none, some (.int x2), some (.int x3), none, some (.int (x5 + 1)), some (.int (x6 + (-1))), some (.int (bI y7)), some (.int x8), none]) (stk' := []) (fun _ _ _ => rfl) ?_
                exact J11 _ _ (by first | (rw [if_neg c2, if_neg c3, if_neg c6, if_neg c7, if_neg c8]; done) | (rw [if_neg c2, if_neg c3, if_neg c6, if_neg c7, if_neg c8]; rfl) | (clear H J11; simp_all [bI]; done)) (by first | (rw [if_neg c2, if_neg c3, if_neg c6, if_neg c7, if_neg c8]; done) | (rw [if_neg c2, if_neg c3, if_neg c6, if_neg c7, if_neg c8]; rfl) | (clear H J11; simp_all [bI]; done))
    · rw [if_neg c1] at H
      refine zw_run 1 (pc' := 132) (loc' := [some (.ref 136), none, some (.int x2), some (.int x3), none, some (.int x5), some (.int x6), some (.int (bI y7)), some (.int x8), none]) (stk' := [.int (bI y7)]) (fun _ _ _ => rfl) ?_
      have J19 : ∀ (v18 : Int32), v18 = (bI (y7 && ((decide ((ra Z x8) = 32)) || (decide ((ra Z x8) = 10))))) → zw fm sx (d + 3) 146 162 [some (.ref 136), none, some (.int x2), some (.int x3), none, some (.int x5), some (.int x6), some (.int (bI y7)), some (.int x8), none] [.int v18] Z Q := by
        intro v18 ev18
        subst ev18
        refine zw_run 1 (pc' := 164) (loc' := [some (.ref 136), none, some (.int x2), some (.int x3), none, some (.int x5), some (.int x6), some (.int (bI (y7 && ((decide ((ra Z x8) = 32)) || (decide ((ra Z x8) = 10)))))), some (.int x8), none]) (stk' := []) (fun _ _ _ => rfl) ?_
        obtain ⟨y20, hy20⟩ : ∃ w : Bool, w = (y7 && ((decide ((ra Z x8) = 32)) || (decide ((ra Z x8) = 10)))) := ⟨_, rfl⟩
        rw [← hy20]
        have H := oq_let H y20 hy20
        refine zw_run 2 (pc' := 123) (loc' := [some (.ref 136), none, some (.int x2), some (.int x3), none, some (.int x5), some (.int x6), some (.int (bI y20)), some (.int (x8 + 1)), none]) (stk' := []) (fun _ _ _ => rfl) ?_
        exact ih Z x2 x3 x5 x6 y20 (x8 + 1) H
      refine zw_b0 (b := y7) (t1 := 135) (t2 := 161) (loc' := [some (.ref 136), none, some (.int x2), some (.int x3), none, some (.int x5), some (.int x6), some (.int (bI y7)), some (.int x8), none]) (stk' := []) (fun _ _ _ => rfl) (fun c15 => ?_) (fun c15 => ?_)
      · skip
        refine zw_run 2 (pc' := 138) (loc' := [some (.ref 136), none, some (.int x2), some (.int x3), none, some (.int x5), some (.int x6), some (.int (bI y7)), some (.int x8), none]) (stk' := [.int x8, .ref 136]) (fun _ _ _ => rfl) ?_
        refine zw_callf (As := [.ref 136, .int x8]) (rest := []) (c_183 (Z := Z) hS x8 (d := d + 2)) rfl rfl rfl rfl ?_
        show zw fm sx (d + 3) 146 141 [some (.ref 136), none, some (.int x2), some (.int x3), none, some (.int x5), some (.int x6), some (.int (bI y7)), some (.int x8), none] [.int (ra Z x8)] Z Q
        refine zw_run 1 (pc' := 143) (loc' := [some (.ref 136), none, some (.int x2), some (.int x3), none, some (.int x5), some (.int x6), some (.int (bI y7)), some (.int x8), none]) (stk' := [.int 32, .int (ra Z x8)]) (fun _ _ _ => rfl) ?_
        refine zw_br (c := (ra Z x8) = 32) (t1 := 157) (t2 := 146) (loc' := [some (.ref 136), none, some (.int x2), some (.int x3), none, some (.int x5), some (.int x6), some (.int (bI y7)), some (.int x8), none]) (stk' := []) (fun _ _ _ => rfl) (fun c16 => ?_) (fun c16 => ?_)
        · skip
          refine zw_run 2 (pc' := 162) (loc' := [some (.ref 136), none, some (.int x2), some (.int x3), none, some (.int x5), some (.int x6), some (.int (bI y7)), some (.int x8), none]) (stk' := [.int 1]) (fun _ _ _ => rfl) ?_
          exact J19 _ (by clear H J19; first | (simp [bI, c15, c16]; done) | (simp [bI, *]; done) | (simp_all [bI]; done) | (rw [decide_eq_true (Decidable.not_not.mp c15)]; rfl) | (rw [decide_eq_true (Decidable.not_not.mp c16)]; rfl) | (exfalso; simp_all; done))
        · skip
          refine zw_run 2 (pc' := 149) (loc' := [some (.ref 136), none, some (.int x2), some (.int x3), none, some (.int x5), some (.int x6), some (.int (bI y7)), some (.int x8), none]) (stk' := [.int x8, .ref 136]) (fun _ _ _ => rfl) ?_
          refine zw_callf (As := [.ref 136, .int x8]) (rest := []) (c_183 (Z := Z) hS x8 (d := d + 2)) rfl rfl rfl rfl ?_
          show zw fm sx (d + 3) 146 152 [some (.ref 136), none, some (.int x2), some (.int x3), none, some (.int x5), some (.int x6), some (.int (bI y7)), some (.int x8), none] [.int (ra Z x8)] Z Q
          refine zw_run 1 (pc' := 154) (loc' := [some (.ref 136), none, some (.int x2), some (.int x3), none, some (.int x5), some (.int x6), some (.int (bI y7)), some (.int x8), none]) (stk' := [.int 10, .int (ra Z x8)]) (fun _ _ _ => rfl) ?_
          refine zw_br (c := ¬ (ra Z x8) = 10) (t1 := 161) (t2 := 157) (loc' := [some (.ref 136), none, some (.int x2), some (.int x3), none, some (.int x5), some (.int x6), some (.int (bI y7)), some (.int x8), none]) (stk' := []) (fun _ _ _ => rfl) (fun c17 => ?_) (fun c17 => ?_)
          · skip
            refine zw_run 1 (pc' := 162) (loc' := [some (.ref 136), none, some (.int x2), some (.int x3), none, some (.int x5), some (.int x6), some (.int (bI y7)), some (.int x8), none]) (stk' := [.int 0]) (fun _ _ _ => rfl) ?_
            exact J19 _ (by clear H J19; first | (simp [bI, c15, c16, c17]; done) | (simp [bI, *]; done) | (simp_all [bI]; done) | (rw [decide_eq_true (Decidable.not_not.mp c15)]; rfl) | (rw [decide_eq_true (Decidable.not_not.mp c16)]; rfl) | (rw [decide_eq_true (Decidable.not_not.mp c17)]; rfl) | (exfalso; simp_all; done))
          · skip
            refine zw_run 2 (pc' := 162) (loc' := [some (.ref 136), none, some (.int x2), some (.int x3), none, some (.int x5), some (.int x6), some (.int (bI y7)), some (.int x8), none]) (stk' := [.int 1]) (fun _ _ _ => rfl) ?_
            exact J19 _ (by clear H J19; first | (simp [bI, c15, c16, c17]; done) | (simp [bI, *]; done) | (simp_all [bI]; done) | (rw [decide_eq_true (Decidable.not_not.mp c15)]; rfl) | (rw [decide_eq_true (Decidable.not_not.mp c16)]; rfl) | (rw [decide_eq_true (Decidable.not_not.mp c17)]; rfl) | (exfalso; simp_all; done))
      · skip
        refine zw_run 1 (pc' := 162) (loc' := [some (.ref 136), none, some (.int x2), some (.int x3), none, some (.int x5), some (.int x6), some (.int (bI y7)), some (.int x8), none]) (stk' := [.int 0]) (fun _ _ _ => rfl) ?_
        exact J19 _ (by clear H J19; first | (simp [bI, c15]; done) | (simp [bI, *]; done) | (simp_all [bI]; done) | (rw [decide_eq_true (Decidable.not_not.mp c15)]; rfl) | (exfalso; simp_all; done))
/-- MarkInlinesModel.code, its loop at 44 -/
def g_146_44 : Nat → zr_Z → Int32 → Int32 → Int32 → Int32 → (zr_Z → Int32 → Int32 → Int32 → Option (Int32 × zr_Z)) → Option (Int32 × zr_Z)
  | 0, _, _, _, _, _, _ => none
  | n + 1, Z, k, x2, x3, x4, K27 => (if sok Z then (if ¬ (ra Z (x3 + x4)) = 96 then (olet (x3 + (if ¬ x4 = x2 then (if ¬ x4 = 0 then x4 else 1 : Int32) else 0 : Int32) : Int32) fun x6 => K27 Z x2 x6 x4) else g_146_44 n Z k x2 x3 (x4 + 1) K27) else none)
set_option maxRecDepth 100000 in
set_option maxHeartbeats 4000000 in
theorem l_146_44 {fm : Value} {sx : Nat × (Nat → Int32)} {d : Nat} {Q : Option Value → zr_Z → Prop} (hu : fm = .null ∨ ∃ q, fm = .ref q) (k : Int32) (K27 : zr_Z → Int32 → Int32 → Int32 → Option (Int32 × zr_Z)) (HK27 : ∀ (Z : zr_Z) (x2 : Int32) (x3 : Int32) (x4 : Int32), oq (K27 Z x2 x3 x4) (fun x => Q (some (.int x.1)) x.2) → zw fm sx (d + 3) 146 27 [some (.ref 136), some (.int k), some (.int x2), some (.int x3), some (.int x4), none, none, none, none, none] [] Z Q) : ∀ (n : Nat) (Z : zr_Z) (x2 : Int32) (x3 : Int32) (x4 : Int32), oq (g_146_44 n Z k x2 x3 x4 K27) (fun x => Q (some (.int x.1)) x.2) → zw fm sx (d + 3) 146 44 [some (.ref 136), some (.int k), some (.int x2), some (.int x3), some (.int x4), none, none, none, none, none] [] Z Q := by
  intro n
  induction n with
  | zero => intro Z x2 x3 x4 H; exact absurd H oq_none
  | succ n ih =>
    intro Z x2 x3 x4 H
    unfold g_146_44 at H
    obtain ⟨hS, H⟩ := oq_ob H
    refine zw_run 4 (pc' := 49) (loc' := [some (.ref 136), some (.int k), some (.int x2), some (.int x3), some (.int x4), none, none, none, none, none]) (stk' := [.int (x3 + x4), .ref 136]) (fun _ _ _ => rfl) ?_
    refine zw_callf (As := [.ref 136, .int (x3 + x4)]) (rest := []) (c_183 (Z := Z) hS (x3 + x4) (d := d + 2)) rfl rfl rfl rfl ?_
    show zw fm sx (d + 3) 146 52 [some (.ref 136), some (.int k), some (.int x2), some (.int x3), some (.int x4), none, none, none, none, none] [.int (ra Z (x3 + x4))] Z Q
    refine zw_run 1 (pc' := 54) (loc' := [some (.ref 136), some (.int k), some (.int x2), some (.int x3), some (.int x4), none, none, none, none, none]) (stk' := [.int 96, .int (ra Z (x3 + x4))]) (fun _ _ _ => rfl) ?_
    refine zw_br (c := ¬ (ra Z (x3 + x4)) = 96) (t1 := 63) (t2 := 57) (loc' := [some (.ref 136), some (.int k), some (.int x2), some (.int x3), some (.int x4), none, none, none, none, none]) (stk' := []) (fun _ _ _ => rfl) (fun c1 => ?_) (fun c1 => ?_)
    · rw [if_pos c1] at H
      refine zw_run 3 (pc' := 67) (loc' := [some (.ref 136), some (.int k), some (.int x2), some (.int x3), some (.int x4), none, none, none, none, none]) (stk' := [.int x2, .int x4, .int x3]) (fun _ _ _ => rfl) ?_
      have J5 : ∀ (v4 : Int32), v4 = (if ¬ x4 = x2 then (if ¬ x4 = 0 then x4 else 1 : Int32) else 0 : Int32) → zw fm sx (d + 3) 146 85 [some (.ref 136), some (.int k), some (.int x2), some (.int x3), some (.int x4), none, none, none, none, none] [.int v4, .int x3] Z Q := by
        intro v4 ev4
        subst ev4
        refine zw_run 2 (pc' := 87) (loc' := [some (.ref 136), some (.int k), some (.int x2), some (.int (x3 + (if ¬ x4 = x2 then (if ¬ x4 = 0 then x4 else 1 : Int32) else 0 : Int32))), some (.int x4), none, none, none, none, none]) (stk' := []) (fun _ _ _ => rfl) ?_
        obtain ⟨x6, hx6⟩ : ∃ w : Int32, w = x3 + (if ¬ x4 = x2 then (if ¬ x4 = 0 then x4 else 1 : Int32) else 0 : Int32) := ⟨_, rfl⟩
        rw [← hx6]
        have H := oq_let H x6 hx6
        refine zw_run 1 (pc' := 27) (loc' := [some (.ref 136), some (.int k), some (.int x2), some (.int x6), some (.int x4), none, none, none, none, none]) (stk' := []) (fun _ _ _ => rfl) ?_
        exact HK27 Z x2 x6 x4 H
      refine zw_br (c := ¬ x4 = x2) (t1 := 74) (t2 := 70) (loc' := [some (.ref 136), some (.int k), some (.int x2), some (.int x3), some (.int x4), none, none, none, none, none]) (stk' := [.int x3]) (fun _ _ _ => rfl) (fun c2 => ?_) (fun c2 => ?_)
      · skip
        refine zw_run 1 (pc' := 76) (loc' := [some (.ref 136), some (.int k), some (.int x2), some (.int x3), some (.int x4), none, none, none, none, none]) (stk' := [.int x4, .int x3]) (fun _ _ _ => rfl) ?_
        refine zw_br (c := ¬ x4 = 0) (t1 := 83) (t2 := 79) (loc' := [some (.ref 136), some (.int k), some (.int x2), some (.int x3), some (.int x4), none, none, none, none, none]) (stk' := [.int x3]) (fun _ _ _ => rfl) (fun c3 => ?_) (fun c3 => ?_)
        · skip
          refine zw_run 1 (pc' := 85) (loc' := [some (.ref 136), some (.int k), some (.int x2), some (.int x3), some (.int x4), none, none, none, none, none]) (stk' := [.int x4, .int x3]) (fun _ _ _ => rfl) ?_
          exact J5 _ (by first | (rw [if_pos c2, if_pos c3]; done) | (rw [if_pos c2, if_pos c3]; rfl) | (clear H J5; simp_all [bI]; done))
        · skip
          refine zw_run 2 (pc' := 85) (loc' := [some (.ref 136), some (.int k), some (.int x2), some (.int x3), some (.int x4), none, none, none, none, none]) (stk' := [.int 1, .int x3]) (fun _ _ _ => rfl) ?_
          exact J5 _ (by first | (rw [if_pos c2, if_neg c3]; done) | (rw [if_pos c2, if_neg c3]; rfl) | (clear H J5; simp_all [bI]; done))
      · skip
        refine zw_run 2 (pc' := 85) (loc' := [some (.ref 136), some (.int k), some (.int x2), some (.int x3), some (.int x4), none, none, none, none, none]) (stk' := [.int 0, .int x3]) (fun _ _ _ => rfl) ?_
        exact J5 _ (by first | (rw [if_neg c2]; done) | (rw [if_neg c2]; rfl) | (clear H J5; simp_all [bI]; done))
    · rw [if_neg c1] at H
      refine zw_run 2 (pc' := 44) (loc' := [some (.ref 136), some (.int k), some (.int x2), some (.int x3), some (.int (x4 + 1)), none, none, none, none, none]) (stk' := []) (fun _ _ _ => rfl) ?_
      exact ih Z x2 x3 (x4 + 1) H
/-- MarkInlinesModel.code, its loop at 27 -/
def g_146_27 : Nat → zr_Z → Int32 → Int32 → Int32 → Int32 → Option (Int32 × zr_Z)
  | 0, _, _, _, _, _ => none
  | n + 1, Z, k, x2, x3, x4 => (if sok Z then (if (zf Z 3) ≤ x3 then (if x3 < (zf Z 3) then g_146_123 oF Z k x2 x3 (k + x2) x3 true (k + x2) else (Option.bind (o_128 Z k x2) fun u3 => (if sok u3 then some (k + x2, u3) else none))) else (if x4 = x2 then (if x3 < (zf Z 3) then g_146_123 oF Z k x2 x3 (k + x2) x3 true (k + x2) else (Option.bind (o_128 Z k x2) fun u6 => (if sok u6 then some (k + x2, u6) else none))) else g_146_44 oF Z k x2 x3 0 (fun Z x2 x3 x4 => g_146_27 n Z k x2 x3 x4))) else none)
set_option maxRecDepth 100000 in
set_option maxHeartbeats 4000000 in
theorem l_146_27 {fm : Value} {sx : Nat × (Nat → Int32)} {d : Nat} {Q : Option Value → zr_Z → Prop} (hu : fm = .null ∨ ∃ q, fm = .ref q) (k : Int32) : ∀ (n : Nat) (Z : zr_Z) (x2 : Int32) (x3 : Int32) (x4 : Int32), oq (g_146_27 n Z k x2 x3 x4) (fun x => Q (some (.int x.1)) x.2) → zw fm sx (d + 3) 146 27 [some (.ref 136), some (.int k), some (.int x2), some (.int x3), some (.int x4), none, none, none, none, none] [] Z Q := by
  intro n
  induction n with
  | zero => intro Z x2 x3 x4 H; exact absurd H oq_none
  | succ n ih =>
    intro Z x2 x3 x4 H
    unfold g_146_27 at H
    obtain ⟨hS, H⟩ := oq_ob H
    refine zw_run 2 (pc' := 29) (loc' := [some (.ref 136), some (.int k), some (.int x2), some (.int x3), some (.int x4), none, none, none, none, none]) (stk' := [.ref 136, .int x3]) (fun _ _ _ => rfl) ?_
    refine zw_mget (v := .int (zf Z 3)) rfl rfl ?_
    refine zw_br (c := (zf Z 3) ≤ x3) (t1 := 90) (t2 := 35) (loc' := [some (.ref 136), some (.int k), some (.int x2), some (.int x3), some (.int x4), none, none, none, none, none]) (stk' := []) (fun _ _ _ => rfl) (fun c1 => ?_) (fun c1 => ?_)
    · rw [if_pos c1] at H
      refine zw_run 2 (pc' := 92) (loc' := [some (.ref 136), some (.int k), some (.int x2), some (.int x3), some (.int x4), none, none, none, none, none]) (stk' := [.ref 136, .int x3]) (fun _ _ _ => rfl) ?_
      refine zw_mget (v := .int (zf Z 3)) rfl rfl ?_
      refine zw_br (c := x3 < (zf Z 3)) (t1 := 108) (t2 := 98) (loc' := [some (.ref 136), some (.int k), some (.int x2), some (.int x3), some (.int x4), none, none, none, none, none]) (stk' := []) (fun _ _ _ => rfl) (fun c2 => ?_) (fun c2 => ?_)
      · rw [if_pos c2] at H
        refine zw_run 10 (pc' := 123) (loc' := [some (.ref 136), some (.int k), some (.int x2), some (.int x3), some (.int x4), some (.int (k + x2)), some (.int x3), some (.int 1), some (.int (k + x2)), none]) (stk' := []) (fun _ _ _ => rfl) ?_
        refine zw_fgt [true, false, true, true, false, true, true, true, true, false] rfl ?_
        exact l_146_123 hu k _ Z x2 x3 (k + x2) x3 true (k + x2) H
      · rw [if_neg c2] at H
        refine zw_run 3 (pc' := 101) (loc' := [some (.ref 136), some (.int k), some (.int x2), some (.int x3), some (.int x4), none, none, none, none, none]) (stk' := [.int x2, .int k, .ref 136]) (fun _ _ _ => rfl) ?_
        obtain ⟨u3, hu3, H⟩ := oq_bind H
        refine zw_callf (As := [.ref 136, .int k, .int x2]) (rest := []) (c_128 hu k x2 hu3 (d := d + 0)) rfl rfl rfl rfl ?_
        show zw fm sx (d + 3) 146 104 [some (.ref 136), some (.int k), some (.int x2), some (.int x3), some (.int x4), none, none, none, none, none] [] u3 Q
        obtain ⟨hS, H⟩ := oq_ob H
        refine zw_run 3 (pc' := 107) (loc' := [some (.ref 136), some (.int k), some (.int x2), some (.int x3), some (.int x4), none, none, none, none, none]) (stk' := [.int (k + x2)]) (fun _ _ _ => rfl) ?_
        refine zw_reti (i := .nop) rfl rfl ?_
        have H := oq_some H
        exact H
    · rw [if_neg c1] at H
      refine zw_run 2 (pc' := 38) (loc' := [some (.ref 136), some (.int k), some (.int x2), some (.int x3), some (.int x4), none, none, none, none, none]) (stk' := [.int x2, .int x4]) (fun _ _ _ => rfl) ?_
      refine zw_br (c := x4 = x2) (t1 := 90) (t2 := 41) (loc' := [some (.ref 136), some (.int k), some (.int x2), some (.int x3), some (.int x4), none, none, none, none, none]) (stk' := []) (fun _ _ _ => rfl) (fun c4 => ?_) (fun c4 => ?_)
      · rw [if_pos c4] at H
        refine zw_run 2 (pc' := 92) (loc' := [some (.ref 136), some (.int k), some (.int x2), some (.int x3), some (.int x4), none, none, none, none, none]) (stk' := [.ref 136, .int x3]) (fun _ _ _ => rfl) ?_
        refine zw_mget (v := .int (zf Z 3)) rfl rfl ?_
        refine zw_br (c := x3 < (zf Z 3)) (t1 := 108) (t2 := 98) (loc' := [some (.ref 136), some (.int k), some (.int x2), some (.int x3), some (.int x4), none, none, none, none, none]) (stk' := []) (fun _ _ _ => rfl) (fun c5 => ?_) (fun c5 => ?_)
        · rw [if_pos c5] at H
          refine zw_run 10 (pc' := 123) (loc' := [some (.ref 136), some (.int k), some (.int x2), some (.int x3), some (.int x4), some (.int (k + x2)), some (.int x3), some (.int 1), some (.int (k + x2)), none]) (stk' := []) (fun _ _ _ => rfl) ?_
          refine zw_fgt [true, false, true, true, false, true, true, true, true, false] rfl ?_
          exact l_146_123 hu k _ Z x2 x3 (k + x2) x3 true (k + x2) H
        · rw [if_neg c5] at H
          refine zw_run 3 (pc' := 101) (loc' := [some (.ref 136), some (.int k), some (.int x2), some (.int x3), some (.int x4), none, none, none, none, none]) (stk' := [.int x2, .int k, .ref 136]) (fun _ _ _ => rfl) ?_
          obtain ⟨u6, hu6, H⟩ := oq_bind H
          refine zw_callf (As := [.ref 136, .int k, .int x2]) (rest := []) (c_128 hu k x2 hu6 (d := d + 0)) rfl rfl rfl rfl ?_
          show zw fm sx (d + 3) 146 104 [some (.ref 136), some (.int k), some (.int x2), some (.int x3), some (.int x4), none, none, none, none, none] [] u6 Q
          obtain ⟨hS, H⟩ := oq_ob H
          refine zw_run 3 (pc' := 107) (loc' := [some (.ref 136), some (.int k), some (.int x2), some (.int x3), some (.int x4), none, none, none, none, none]) (stk' := [.int (k + x2)]) (fun _ _ _ => rfl) ?_
          refine zw_reti (i := .nop) rfl rfl ?_
          have H := oq_some H
          exact H
      · rw [if_neg c4] at H
        refine zw_run 2 (pc' := 44) (loc' := [some (.ref 136), some (.int k), some (.int x2), some (.int x3), some (.int 0), none, none, none, none, none]) (stk' := []) (fun _ _ _ => rfl) ?_
        exact l_146_44 hu k _ (fun Z x2 x3 x4 q => ih Z x2 x3 x4 q) _ Z x2 x3 0 H
/-- MarkInlinesModel.code, its loop at 2 -/
def g_146_2 : Nat → zr_Z → Int32 → Int32 → Option (Int32 × zr_Z)
  | 0, _, _, _ => none
  | n + 1, Z, k, x2 => (if sok Z then (if ¬ (ra Z (k + x2)) = 96 then g_146_27 oF Z k x2 (k + x2) 0 else g_146_2 n Z k (x2 + 1)) else none)
set_option maxRecDepth 100000 in
set_option maxHeartbeats 4000000 in
theorem l_146_2 {fm : Value} {sx : Nat × (Nat → Int32)} {d : Nat} {Q : Option Value → zr_Z → Prop} (hu : fm = .null ∨ ∃ q, fm = .ref q) (k : Int32) : ∀ (n : Nat) (Z : zr_Z) (x2 : Int32), oq (g_146_2 n Z k x2) (fun x => Q (some (.int x.1)) x.2) → zw fm sx (d + 3) 146 2 [some (.ref 136), some (.int k), some (.int x2), none, none, none, none, none, none, none] [] Z Q := by
  intro n
  induction n with
  | zero => intro Z x2 H; exact absurd H oq_none
  | succ n ih =>
    intro Z x2 H
    unfold g_146_2 at H
    obtain ⟨hS, H⟩ := oq_ob H
    refine zw_run 4 (pc' := 6) (loc' := [some (.ref 136), some (.int k), some (.int x2), none, none, none, none, none, none, none]) (stk' := [.int (k + x2), .ref 136]) (fun _ _ _ => rfl) ?_
    refine zw_callf (As := [.ref 136, .int (k + x2)]) (rest := []) (c_183 (Z := Z) hS (k + x2) (d := d + 2)) rfl rfl rfl rfl ?_
    show zw fm sx (d + 3) 146 9 [some (.ref 136), some (.int k), some (.int x2), none, none, none, none, none, none, none] [.int (ra Z (k + x2))] Z Q
    refine zw_run 1 (pc' := 11) (loc' := [some (.ref 136), some (.int k), some (.int x2), none, none, none, none, none, none, none]) (stk' := [.int 96, .int (ra Z (k + x2))]) (fun _ _ _ => rfl) ?_
    refine zw_br (c := ¬ (ra Z (k + x2)) = 96) (t1 := 20) (t2 := 14) (loc' := [some (.ref 136), some (.int k), some (.int x2), none, none, none, none, none, none, none]) (stk' := []) (fun _ _ _ => rfl) (fun c1 => ?_) (fun c1 => ?_)
    · rw [if_pos c1] at H
      refine zw_run 6 (pc' := 27) (loc' := [some (.ref 136), some (.int k), some (.int x2), some (.int (k + x2)), some (.int 0), none, none, none, none, none]) (stk' := []) (fun _ _ _ => rfl) ?_
      exact l_146_27 hu k _ Z x2 (k + x2) 0 H
    · rw [if_neg c1] at H
      refine zw_run 2 (pc' := 2) (loc' := [some (.ref 136), some (.int k), some (.int (x2 + 1)), none, none, none, none, none, none, none]) (stk' := []) (fun _ _ _ => rfl) ?_
      exact ih Z (x2 + 1) H
/-- MarkInlinesModel.code -/
def o_146 (Z : zr_Z) (k : Int32) : Option (Int32 × zr_Z) := (if sok Z then g_146_2 oF Z k 0 else none)
set_option maxRecDepth 100000 in
set_option maxHeartbeats 4000000 in
theorem t_146 {fm : Value} {sx : Nat × (Nat → Int32)} {d : Nat} {Z : zr_Z} {Q : Option Value → zr_Z → Prop} (hu : fm = .null ∨ ∃ q, fm = .ref q) (k : Int32) (H : oq (o_146 Z k) (fun x => Q (some (.int x.1)) x.2)) : zw fm sx (d + 3) 146 0 [some (.ref 136), some (.int k), none, none, none, none, none, none, none, none] [] Z Q := by
  unfold o_146 at H
  obtain ⟨hS, H⟩ := oq_ob H
  refine zw_run 2 (pc' := 2) (loc' := [some (.ref 136), some (.int k), some (.int 0), none, none, none, none, none, none, none]) (stk' := []) (fun _ _ _ => rfl) ?_
  exact l_146_2 hu k _ Z 0 H
theorem c_146 {fm : Value} {sx : Nat × (Nat → Int32)} {d : Nat} {Z : zr_Z} (hu : fm = .null ∨ ∃ q, fm = .ref q) (k : Int32) {x : Int32 × zr_Z} (hx : o_146 Z k = some x) : zl fm sx (d + 4) 146 [.ref 136, .int k] Z (fun r Z' => r = some (.int x.1) ∧ Z' = x.2) :=
  zl_of (nL := 10) (loc0 := [some (.ref 136), some (.int k), none, none, none, none, none, none, none, none]) rfl rfl rfl (t_146 hu k ⟨x, hx, rfl, rfl⟩)
/-- MarkInlinesModel.line, its loop at 24 -/
def g_147_24 : Nat → zr_Z → Int32 → Int32 → Int32 → Option (Int32 × zr_Z)
  | 0, _, _, _, _ => none
  | n + 1, Z, k, x2, x3 => (if sok Z then (if x2 ≤ x3 then (Option.bind (o_127 Z (if x2 ≤ 1 then 1 else 2 : Int32) 0) fun u5 => (if sok u5.2 then some (k + 1, u5.2) else none)) else (Option.bind (o_129 Z) fun u6 => (if sok u6 then g_147_24 n u6 k x2 (x3 + 1) else none))) else none)
set_option maxRecDepth 100000 in
set_option maxHeartbeats 4000000 in
theorem l_147_24 {fm : Value} {sx : Nat × (Nat → Int32)} {d : Nat} {Q : Option Value → zr_Z → Prop} (hu : fm = .null ∨ ∃ q, fm = .ref q) (k : Int32) : ∀ (n : Nat) (Z : zr_Z) (x2 : Int32) (x3 : Int32), oq (g_147_24 n Z k x2 x3) (fun x => Q (some (.int x.1)) x.2) → zw fm sx (d + 2) 147 24 [some (.ref 136), some (.int k), some (.int x2), some (.int x3)] [] Z Q := by
  intro n
  induction n with
  | zero => intro Z x2 x3 H; exact absurd H oq_none
  | succ n ih =>
    intro Z x2 x3 H
    unfold g_147_24 at H
    obtain ⟨hS, H⟩ := oq_ob H
    refine zw_run 2 (pc' := 26) (loc' := [some (.ref 136), some (.int k), some (.int x2), some (.int x3)]) (stk' := [.int x2, .int x3]) (fun _ _ _ => rfl) ?_
    refine zw_br (c := x2 ≤ x3) (t1 := 39) (t2 := 29) (loc' := [some (.ref 136), some (.int k), some (.int x2), some (.int x3)]) (stk' := []) (fun _ _ _ => rfl) (fun c1 => ?_) (fun c1 => ?_)
    · rw [if_pos c1] at H
      refine zw_run 3 (pc' := 42) (loc' := [some (.ref 136), some (.int k), some (.int x2), some (.int x3)]) (stk' := [.int 1, .int x2, .ref 136]) (fun _ _ _ => rfl) ?_
      have J4 : ∀ (v3 : Int32), v3 = (if x2 ≤ 1 then 1 else 2 : Int32) → zw fm sx (d + 2) 147 50 [some (.ref 136), some (.int k), some (.int x2), some (.int x3)] [.int v3, .ref 136] Z Q := by
        intro v3 ev3
        subst ev3
        refine zw_run 1 (pc' := 51) (loc' := [some (.ref 136), some (.int k), some (.int x2), some (.int x3)]) (stk' := [.int 0, .int (if x2 ≤ 1 then 1 else 2 : Int32), .ref 136]) (fun _ _ _ => rfl) ?_
        obtain ⟨u5, hu5, H⟩ := oq_bind H
        refine zw_callf (As := [.ref 136, .int (if x2 ≤ 1 then 1 else 2 : Int32), .int 0]) (rest := []) (c_127 hu (if x2 ≤ 1 then 1 else 2 : Int32) 0 hu5 (d := d + 0)) rfl rfl rfl rfl ?_
        show zw fm sx (d + 2) 147 54 [some (.ref 136), some (.int k), some (.int x2), some (.int x3)] [.int u5.1] u5.2 Q
        obtain ⟨hS, H⟩ := oq_ob H
        refine zw_run 4 (pc' := 58) (loc' := [some (.ref 136), some (.int k), some (.int x2), some (.int x3)]) (stk' := [.int (k + 1)]) (fun _ _ _ => rfl) ?_
        refine zw_reti (i := .nop) rfl rfl ?_
        have H := oq_some H
        exact H
      refine zw_br (c := x2 ≤ 1) (t1 := 49) (t2 := 45) (loc' := [some (.ref 136), some (.int k), some (.int x2), some (.int x3)]) (stk' := [.ref 136]) (fun _ _ _ => rfl) (fun c2 => ?_) (fun c2 => ?_)
      · skip
        refine zw_run 1 (pc' := 50) (loc' := [some (.ref 136), some (.int k), some (.int x2), some (.int x3)]) (stk' := [.int 1, .ref 136]) (fun _ _ _ => rfl) ?_
        exact J4 _ (by first | (rw [if_pos c2]; done) | (rw [if_pos c2]; rfl) | (clear H J4; simp_all [bI]; done))
      · skip
        refine zw_run 2 (pc' := 50) (loc' := [some (.ref 136), some (.int k), some (.int x2), some (.int x3)]) (stk' := [.int 2, .ref 136]) (fun _ _ _ => rfl) ?_
        exact J4 _ (by first | (rw [if_neg c2]; done) | (rw [if_neg c2]; rfl) | (clear H J4; simp_all [bI]; done))
    · rw [if_neg c1] at H
      refine zw_run 1 (pc' := 30) (loc' := [some (.ref 136), some (.int k), some (.int x2), some (.int x3)]) (stk' := [.ref 136]) (fun _ _ _ => rfl) ?_
      obtain ⟨u6, hu6, H⟩ := oq_bind H
      refine zw_callf (As := [.ref 136]) (rest := []) (c_129 hu hu6 (d := d + 1)) rfl rfl rfl rfl ?_
      show zw fm sx (d + 2) 147 33 [some (.ref 136), some (.int k), some (.int x2), some (.int x3)] [] u6 Q
      obtain ⟨hS, H⟩ := oq_ob H
      refine zw_run 2 (pc' := 24) (loc' := [some (.ref 136), some (.int k), some (.int x2), some (.int (x3 + 1))]) (stk' := []) (fun _ _ _ => rfl) ?_
      exact ih u6 x2 (x3 + 1) H
/-- MarkInlinesModel.line, its loop at 2 -/
def g_147_2 : Nat → zr_Z → Int32 → Int32 → Option (Int32 × zr_Z)
  | 0, _, _, _ => none
  | n + 1, Z, k, x2 => (if sok Z then (if ¬ (ra Z ((k - 1) - x2)) = 32 then g_147_24 oF Z k x2 0 else g_147_2 n Z k (x2 + 1)) else none)
set_option maxRecDepth 100000 in
set_option maxHeartbeats 4000000 in
theorem l_147_2 {fm : Value} {sx : Nat × (Nat → Int32)} {d : Nat} {Q : Option Value → zr_Z → Prop} (hu : fm = .null ∨ ∃ q, fm = .ref q) (k : Int32) : ∀ (n : Nat) (Z : zr_Z) (x2 : Int32), oq (g_147_2 n Z k x2) (fun x => Q (some (.int x.1)) x.2) → zw fm sx (d + 2) 147 2 [some (.ref 136), some (.int k), some (.int x2), none] [] Z Q := by
  intro n
  induction n with
  | zero => intro Z x2 H; exact absurd H oq_none
  | succ n ih =>
    intro Z x2 H
    unfold g_147_2 at H
    obtain ⟨hS, H⟩ := oq_ob H
    refine zw_run 6 (pc' := 8) (loc' := [some (.ref 136), some (.int k), some (.int x2), none]) (stk' := [.int ((k - 1) - x2), .ref 136]) (fun _ _ _ => rfl) ?_
    refine zw_callf (As := [.ref 136, .int ((k - 1) - x2)]) (rest := []) (c_183 (Z := Z) hS ((k - 1) - x2) (d := d + 1)) rfl rfl rfl rfl ?_
    show zw fm sx (d + 2) 147 11 [some (.ref 136), some (.int k), some (.int x2), none] [.int (ra Z ((k - 1) - x2))] Z Q
    refine zw_run 1 (pc' := 13) (loc' := [some (.ref 136), some (.int k), some (.int x2), none]) (stk' := [.int 32, .int (ra Z ((k - 1) - x2))]) (fun _ _ _ => rfl) ?_
    refine zw_br (c := ¬ (ra Z ((k - 1) - x2)) = 32) (t1 := 22) (t2 := 16) (loc' := [some (.ref 136), some (.int k), some (.int x2), none]) (stk' := []) (fun _ _ _ => rfl) (fun c1 => ?_) (fun c1 => ?_)
    · rw [if_pos c1] at H
      refine zw_run 2 (pc' := 24) (loc' := [some (.ref 136), some (.int k), some (.int x2), some (.int 0)]) (stk' := []) (fun _ _ _ => rfl) ?_
      exact l_147_24 hu k _ Z x2 0 H
    · rw [if_neg c1] at H
      refine zw_run 2 (pc' := 2) (loc' := [some (.ref 136), some (.int k), some (.int (x2 + 1)), none]) (stk' := []) (fun _ _ _ => rfl) ?_
      exact ih Z (x2 + 1) H
/-- MarkInlinesModel.line -/
def o_147 (Z : zr_Z) (k : Int32) : Option (Int32 × zr_Z) := (if sok Z then g_147_2 oF Z k 0 else none)
set_option maxRecDepth 100000 in
set_option maxHeartbeats 4000000 in
theorem t_147 {fm : Value} {sx : Nat × (Nat → Int32)} {d : Nat} {Z : zr_Z} {Q : Option Value → zr_Z → Prop} (hu : fm = .null ∨ ∃ q, fm = .ref q) (k : Int32) (H : oq (o_147 Z k) (fun x => Q (some (.int x.1)) x.2)) : zw fm sx (d + 2) 147 0 [some (.ref 136), some (.int k), none, none] [] Z Q := by
  unfold o_147 at H
  obtain ⟨hS, H⟩ := oq_ob H
  refine zw_run 2 (pc' := 2) (loc' := [some (.ref 136), some (.int k), some (.int 0), none]) (stk' := []) (fun _ _ _ => rfl) ?_
  exact l_147_2 hu k _ Z 0 H
theorem c_147 {fm : Value} {sx : Nat × (Nat → Int32)} {d : Nat} {Z : zr_Z} (hu : fm = .null ∨ ∃ q, fm = .ref q) (k : Int32) {x : Int32 × zr_Z} (hx : o_147 Z k = some x) : zl fm sx (d + 3) 147 [.ref 136, .int k] Z (fun r Z' => r = some (.int x.1) ∧ Z' = x.2) :=
  zl_of (nL := 4) (loc0 := [some (.ref 136), some (.int k), none, none]) rfl rfl rfl (t_147 hu k ⟨x, hx, rfl, rfl⟩)
/-- MarkInlinesModel.part -/
def o_149 (Z : zr_Z) (k : Int32) : Option (Int32 × zr_Z) := (if sok Z then (if ra Z k = 10 then (Option.bind (o_147 Z k) fun u2 => (if sok u2.2 then some (u2.1, u2.2) else none)) else (if ra Z k = 38 then (Option.bind (o_113 Z k) fun u4 => (if sok u4.2 then (if u4.1 = true then (if (k_182 (zf u4.2 51)) = true then (Option.bind (o_148 u4.2 1 k) fun u7 => (if sok u7 then (Option.bind (o_127 u7 0 (zf u7 51)) fun u8 => (if sok u8.2 then some (zf u8.2 50, u8.2) else none)) else none)) else (Option.bind (o_127 u4.2 0 (zf u4.2 51)) fun u9 => (if sok u9.2 then some (zf u9.2 50, u9.2) else none))) else (Option.bind (o_127 u4.2 0 (ra Z k)) fun u10 => (if sok u10.2 then some (k + 1, u10.2) else none))) else none)) else (if ra Z k = 42 then (Option.bind (o_137 Z k) fun u12 => (if sok u12.2 then some (u12.1, u12.2) else none)) else (if ra Z k = 60 then (Option.bind (o_145 Z k) fun u14 => (if sok u14.2 then some (u14.1, u14.2) else none)) else (if ra Z k = 91 then (Option.bind (o_139 Z k false) fun u16 => (if sok u16.2 then some (u16.1, u16.2) else none)) else (if ra Z k = 92 then (if ¬ (ra Z (k + 1)) = 10 then (Option.bind (o_127 Z 0 (if (rp Z k) = true then (ra Z (k + 1)) else (ra Z k) : Int32)) fun u22 => (if sok u22.2 then some ((if (rp u22.2 k) = true then (k + 2) else (k + 1) : Int32), u22.2) else none)) else (Option.bind (o_127 Z 2 0) fun u26 => (if sok u26.2 then some (k + 2, u26.2) else none))) else (if ra Z k = 93 then (Option.bind (o_140 Z k) fun u28 => (if sok u28.2 then some (u28.1, u28.2) else none)) else (if ra Z k = 95 then (Option.bind (o_137 Z k) fun u30 => (if sok u30.2 then some (u30.1, u30.2) else none)) else (if ra Z k = 96 then (Option.bind (o_146 Z k) fun u32 => (if sok u32.2 then some (u32.1, u32.2) else none)) else (if ¬ (ra Z k) = 33 then (Option.bind (o_127 Z 0 (ra Z k)) fun u34 => (if sok u34.2 then some (k + 1, u34.2) else none)) else (if ¬ (ra Z (k + 1)) = 91 then (Option.bind (o_127 Z 0 (ra Z k)) fun u36 => (if sok u36.2 then some (k + 1, u36.2) else none)) else (Option.bind (o_139 Z k true) fun u37 => (if sok u37.2 then some (u37.1, u37.2) else none))))))))))))) else none)
set_option maxRecDepth 100000 in
set_option maxHeartbeats 4000000 in
theorem t_149 {fm : Value} {sx : Nat × (Nat → Int32)} {d : Nat} {Z : zr_Z} {Q : Option Value → zr_Z → Prop} (hu : fm = .null ∨ ∃ q, fm = .ref q) (k : Int32) (H : oq (o_149 Z k) (fun x => Q (some (.int x.1)) x.2)) : zw fm sx (d + 5) 149 0 [some (.ref 136), some (.int k), none] [] Z Q := by
  unfold o_149 at H
  obtain ⟨hS, H⟩ := oq_ob H
  refine zw_run 2 (pc' := 2) (loc' := [some (.ref 136), some (.int k), none]) (stk' := [.int k, .ref 136]) (fun _ _ _ => rfl) ?_
  refine zw_callf (As := [.ref 136, .int k]) (rest := []) (c_183 (Z := Z) hS k (d := d + 4)) rfl rfl rfl rfl ?_
  show zw fm sx (d + 5) 149 5 [some (.ref 136), some (.int k), none] [.int (ra Z k)] Z Q
  refine zw_run 2 (pc' := 7) (loc' := [some (.ref 136), some (.int k), some (.int (ra Z k))]) (stk' := [.int (ra Z k)]) (fun _ _ _ => rfl) ?_
  by_cases c1 : ra Z k = 10
  · rw [if_pos c1] at H
    refine zw_run 1 (pc' := 88) (loc' := [some (.ref 136), some (.int k), some (.int (ra Z k))]) (stk' := []) (fun _ _ _ => by rw [c1]; rfl) ?_
    refine zw_run 2 (pc' := 90) (loc' := [some (.ref 136), some (.int k), some (.int (ra Z k))]) (stk' := [.int k, .ref 136]) (fun _ _ _ => rfl) ?_
    obtain ⟨u2, hu2, H⟩ := oq_bind H
    refine zw_callf (As := [.ref 136, .int k]) (rest := []) (c_147 hu k hu2 (d := d + 2)) rfl rfl rfl rfl ?_
    show zw fm sx (d + 5) 149 93 [some (.ref 136), some (.int k), some (.int (ra Z k))] [.int u2.1] u2.2 Q
    obtain ⟨hS, H⟩ := oq_ob H
    refine zw_reti (i := .nop) rfl rfl ?_
    have H := oq_some H
    exact H
  rw [if_neg c1] at H
  by_cases c3 : ra Z k = 38
  · rw [if_pos c3] at H
    refine zw_run 1 (pc' := 172) (loc' := [some (.ref 136), some (.int k), some (.int (ra Z k))]) (stk' := []) (fun _ _ _ => by rw [c3]; rfl) ?_
    refine zw_run 2 (pc' := 174) (loc' := [some (.ref 136), some (.int k), some (.int (ra Z k))]) (stk' := [.int k, .ref 136]) (fun _ _ _ => rfl) ?_
    obtain ⟨u4, hu4, H⟩ := oq_bind H
    refine zw_callf (As := [.ref 136, .int k]) (rest := []) (c_113 hu k hu4 (d := d + 2)) rfl rfl rfl rfl ?_
    show zw fm sx (d + 5) 149 177 [some (.ref 136), some (.int k), some (.int (ra Z k))] [.int (bI u4.1)] u4.2 Q
    obtain ⟨hS, H⟩ := oq_ob H
    refine zw_b1 (b := u4.1) (t1 := 191) (t2 := 180) (loc' := [some (.ref 136), some (.int k), some (.int (ra Z k))]) (stk' := []) (fun _ _ _ => rfl) (fun c5 => ?_) (fun c5 => ?_)
    · rw [if_pos c5] at H
      refine zw_run 1 (pc' := 192) (loc' := [some (.ref 136), some (.int k), some (.int (ra Z k))]) (stk' := [.ref 136]) (fun _ _ _ => rfl) ?_
      refine zw_mget (v := .int (zf u4.2 51)) rfl rfl ?_
      refine zw_callf (As := [.int (zf u4.2 51)]) (rest := []) (c_182 (zf u4.2 51) (d := d + 4)) rfl rfl rfl rfl ?_
      show zw fm sx (d + 5) 149 198 [some (.ref 136), some (.int k), some (.int (ra Z k))] [.int (bI (k_182 (zf u4.2 51)))] u4.2 Q
      refine zw_b0 (b := (k_182 (zf u4.2 51))) (t1 := 201) (t2 := 207) (loc' := [some (.ref 136), some (.int k), some (.int (ra Z k))]) (stk' := []) (fun _ _ _ => rfl) (fun c6 => ?_) (fun c6 => ?_)
      · rw [if_pos c6] at H
        refine zw_run 3 (pc' := 204) (loc' := [some (.ref 136), some (.int k), some (.int (ra Z k))]) (stk' := [.int k, .int 1, .ref 136]) (fun _ _ _ => rfl) ?_
        obtain ⟨u7, hu7, H⟩ := oq_bind H
        refine zw_callf (As := [.ref 136, .int 1, .int k]) (rest := []) (c_148 hu 1 k hu7 (d := d + 4)) rfl rfl rfl rfl ?_
        show zw fm sx (d + 5) 149 207 [some (.ref 136), some (.int k), some (.int (ra Z k))] [] u7 Q
        obtain ⟨hS, H⟩ := oq_ob H
        refine zw_run 3 (pc' := 210) (loc' := [some (.ref 136), some (.int k), some (.int (ra Z k))]) (stk' := [.ref 136, .int 0, .ref 136]) (fun _ _ _ => rfl) ?_
        refine zw_mget (v := .int (zf u7 51)) rfl rfl ?_
        obtain ⟨u8, hu8, H⟩ := oq_bind H
        refine zw_callf (As := [.ref 136, .int 0, .int (zf u7 51)]) (rest := []) (c_127 hu 0 (zf u7 51) hu8 (d := d + 3)) rfl rfl rfl rfl ?_
        show zw fm sx (d + 5) 149 216 [some (.ref 136), some (.int k), some (.int (ra Z k))] [.int u8.1] u8.2 Q
        obtain ⟨hS, H⟩ := oq_ob H
        refine zw_run 2 (pc' := 218) (loc' := [some (.ref 136), some (.int k), some (.int (ra Z k))]) (stk' := [.ref 136]) (fun _ _ _ => rfl) ?_
        refine zw_mget (v := .int (zf u8.2 50)) rfl rfl ?_
        refine zw_reti (i := .nop) rfl rfl ?_
        have H := oq_some H
        exact H
      · rw [if_neg c6] at H
        refine zw_run 3 (pc' := 210) (loc' := [some (.ref 136), some (.int k), some (.int (ra Z k))]) (stk' := [.ref 136, .int 0, .ref 136]) (fun _ _ _ => rfl) ?_
        refine zw_mget (v := .int (zf u4.2 51)) rfl rfl ?_
        obtain ⟨u9, hu9, H⟩ := oq_bind H
        refine zw_callf (As := [.ref 136, .int 0, .int (zf u4.2 51)]) (rest := []) (c_127 hu 0 (zf u4.2 51) hu9 (d := d + 3)) rfl rfl rfl rfl ?_
        show zw fm sx (d + 5) 149 216 [some (.ref 136), some (.int k), some (.int (ra Z k))] [.int u9.1] u9.2 Q
        obtain ⟨hS, H⟩ := oq_ob H
        refine zw_run 2 (pc' := 218) (loc' := [some (.ref 136), some (.int k), some (.int (ra Z k))]) (stk' := [.ref 136]) (fun _ _ _ => rfl) ?_
        refine zw_mget (v := .int (zf u9.2 50)) rfl rfl ?_
        refine zw_reti (i := .nop) rfl rfl ?_
        have H := oq_some H
        exact H
    · rw [if_neg c5] at H
      refine zw_run 3 (pc' := 183) (loc' := [some (.ref 136), some (.int k), some (.int (ra Z k))]) (stk' := [.int (ra Z k), .int 0, .ref 136]) (fun _ _ _ => rfl) ?_
      obtain ⟨u10, hu10, H⟩ := oq_bind H
      refine zw_callf (As := [.ref 136, .int 0, .int (ra Z k)]) (rest := []) (c_127 hu 0 (ra Z k) hu10 (d := d + 3)) rfl rfl rfl rfl ?_
      show zw fm sx (d + 5) 149 186 [some (.ref 136), some (.int k), some (.int (ra Z k))] [.int u10.1] u10.2 Q
      obtain ⟨hS, H⟩ := oq_ob H
      refine zw_run 4 (pc' := 190) (loc' := [some (.ref 136), some (.int k), some (.int (ra Z k))]) (stk' := [.int (k + 1)]) (fun _ _ _ => rfl) ?_
      refine zw_reti (i := .nop) rfl rfl ?_
      have H := oq_some H
      exact H
  rw [if_neg c3] at H
  by_cases c11 : ra Z k = 42
  · rw [if_pos c11] at H
    refine zw_run 1 (pc' := 222) (loc' := [some (.ref 136), some (.int k), some (.int (ra Z k))]) (stk' := []) (fun _ _ _ => by rw [c11]; rfl) ?_
    refine zw_run 2 (pc' := 224) (loc' := [some (.ref 136), some (.int k), some (.int (ra Z k))]) (stk' := [.int k, .ref 136]) (fun _ _ _ => rfl) ?_
    obtain ⟨u12, hu12, H⟩ := oq_bind H
    refine zw_callf (As := [.ref 136, .int k]) (rest := []) (c_137 hu k hu12 (d := d + 2)) rfl rfl rfl rfl ?_
    show zw fm sx (d + 5) 149 227 [some (.ref 136), some (.int k), some (.int (ra Z k))] [.int u12.1] u12.2 Q
    obtain ⟨hS, H⟩ := oq_ob H
    refine zw_reti (i := .nop) rfl rfl ?_
    have H := oq_some H
    exact H
  rw [if_neg c11] at H
  by_cases c13 : ra Z k = 60
  · rw [if_pos c13] at H
    refine zw_run 1 (pc' := 166) (loc' := [some (.ref 136), some (.int k), some (.int (ra Z k))]) (stk' := []) (fun _ _ _ => by rw [c13]; rfl) ?_
    refine zw_run 2 (pc' := 168) (loc' := [some (.ref 136), some (.int k), some (.int (ra Z k))]) (stk' := [.int k, .ref 136]) (fun _ _ _ => rfl) ?_
    obtain ⟨u14, hu14, H⟩ := oq_bind H
    refine zw_callf (As := [.ref 136, .int k]) (rest := []) (c_145 hu k hu14 (d := d + 1)) rfl rfl rfl rfl ?_
    show zw fm sx (d + 5) 149 171 [some (.ref 136), some (.int k), some (.int (ra Z k))] [.int u14.1] u14.2 Q
    obtain ⟨hS, H⟩ := oq_ob H
    refine zw_reti (i := .nop) rfl rfl ?_
    have H := oq_some H
    exact H
  rw [if_neg c13] at H
  by_cases c15 : ra Z k = 91
  · rw [if_pos c15] at H
    refine zw_run 1 (pc' := 228) (loc' := [some (.ref 136), some (.int k), some (.int (ra Z k))]) (stk' := []) (fun _ _ _ => by rw [c15]; rfl) ?_
    refine zw_run 3 (pc' := 231) (loc' := [some (.ref 136), some (.int k), some (.int (ra Z k))]) (stk' := [.int 0, .int k, .ref 136]) (fun _ _ _ => rfl) ?_
    obtain ⟨u16, hu16, H⟩ := oq_bind H
    refine zw_callf (As := [.ref 136, .int k, .int 0]) (rest := []) (c_139 hu k false hu16 (d := d + 2)) rfl rfl rfl rfl ?_
    show zw fm sx (d + 5) 149 234 [some (.ref 136), some (.int k), some (.int (ra Z k))] [.int u16.1] u16.2 Q
    obtain ⟨hS, H⟩ := oq_ob H
    refine zw_reti (i := .nop) rfl rfl ?_
    have H := oq_some H
    exact H
  rw [if_neg c15] at H
  by_cases c17 : ra Z k = 92
  · rw [if_pos c17] at H
    refine zw_run 1 (pc' := 94) (loc' := [some (.ref 136), some (.int k), some (.int (ra Z k))]) (stk' := []) (fun _ _ _ => by rw [c17]; rfl) ?_
    refine zw_run 4 (pc' := 98) (loc' := [some (.ref 136), some (.int k), some (.int (ra Z k))]) (stk' := [.int (k + 1), .ref 136]) (fun _ _ _ => rfl) ?_
    refine zw_callf (As := [.ref 136, .int (k + 1)]) (rest := []) (c_183 (Z := Z) hS (k + 1) (d := d + 4)) rfl rfl rfl rfl ?_
    show zw fm sx (d + 5) 149 101 [some (.ref 136), some (.int k), some (.int (ra Z k))] [.int (ra Z (k + 1))] Z Q
    refine zw_run 1 (pc' := 103) (loc' := [some (.ref 136), some (.int k), some (.int (ra Z k))]) (stk' := [.int 10, .int (ra Z (k + 1))]) (fun _ _ _ => rfl) ?_
    refine zw_br (c := ¬ (ra Z (k + 1)) = 10) (t1 := 117) (t2 := 106) (loc' := [some (.ref 136), some (.int k), some (.int (ra Z k))]) (stk' := []) (fun _ _ _ => rfl) (fun c18 => ?_) (fun c18 => ?_)
    · rw [if_pos c18] at H
      refine zw_run 4 (pc' := 121) (loc' := [some (.ref 136), some (.int k), some (.int (ra Z k))]) (stk' := [.int k, .ref 136, .int 0, .ref 136]) (fun _ _ _ => rfl) ?_
      refine zw_callf (As := [.ref 136, .int k]) (rest := [.int 0, .ref 136]) (c_111 (Z := Z) hS k (d := d + 3)) rfl rfl rfl rfl ?_
      show zw fm sx (d + 5) 149 124 [some (.ref 136), some (.int k), some (.int (ra Z k))] [.int (bI (rp Z k)), .int 0, .ref 136] Z Q
      have J21 : ∀ (v20 : Int32), v20 = (if (rp Z k) = true then (ra Z (k + 1)) else (ra Z k) : Int32) → zw fm sx (d + 5) 149 138 [some (.ref 136), some (.int k), some (.int (ra Z k))] [.int v20, .int 0, .ref 136] Z Q := by
        intro v20 ev20
        subst ev20
        obtain ⟨u22, hu22, H⟩ := oq_bind H
        refine zw_callf (As := [.ref 136, .int 0, .int (if (rp Z k) = true then (ra Z (k + 1)) else (ra Z k) : Int32)]) (rest := []) (c_127 hu 0 (if (rp Z k) = true then (ra Z (k + 1)) else (ra Z k) : Int32) hu22 (d := d + 3)) rfl rfl rfl rfl ?_
        show zw fm sx (d + 5) 149 141 [some (.ref 136), some (.int k), some (.int (ra Z k))] [.int u22.1] u22.2 Q
        obtain ⟨hS, H⟩ := oq_ob H
        refine zw_run 3 (pc' := 144) (loc' := [some (.ref 136), some (.int k), some (.int (ra Z k))]) (stk' := [.int k, .ref 136]) (fun _ _ _ => rfl) ?_
        refine zw_callf (As := [.ref 136, .int k]) (rest := []) (c_111 (Z := u22.2) hS k (d := d + 3)) rfl rfl rfl rfl ?_
        show zw fm sx (d + 5) 149 147 [some (.ref 136), some (.int k), some (.int (ra Z k))] [.int (bI (rp u22.2 k))] u22.2 Q
        have J25 : ∀ (v24 : Int32), v24 = (if (rp u22.2 k) = true then (k + 2) else (k + 1) : Int32) → zw fm sx (d + 5) 149 159 [some (.ref 136), some (.int k), some (.int (ra Z k))] [.int v24] u22.2 Q := by
          intro v24 ev24
          subst ev24
          refine zw_reti (i := .nop) rfl rfl ?_
          have H := oq_some H
          exact H
        refine zw_b0 (b := (rp u22.2 k)) (t1 := 150) (t2 := 156) (loc' := [some (.ref 136), some (.int k), some (.int (ra Z k))]) (stk' := []) (fun _ _ _ => rfl) (fun c23 => ?_) (fun c23 => ?_)
        · skip
          refine zw_run 4 (pc' := 159) (loc' := [some (.ref 136), some (.int k), some (.int (ra Z k))]) (stk' := [.int (k + 2)]) (fun _ _ _ => rfl) ?_
          exact J25 _ (by first | (rw [if_pos c23]; done) | (rw [if_pos c23]; rfl) | (clear H J25; simp_all [bI]; done))
        · skip
          refine zw_run 3 (pc' := 159) (loc' := [some (.ref 136), some (.int k), some (.int (ra Z k))]) (stk' := [.int (k + 1)]) (fun _ _ _ => rfl) ?_
          exact J25 _ (by first | (rw [if_neg c23]; done) | (rw [if_neg c23]; rfl) | (clear H J25; simp_all [bI]; done))
      refine zw_b0 (b := (rp Z k)) (t1 := 127) (t2 := 137) (loc' := [some (.ref 136), some (.int k), some (.int (ra Z k))]) (stk' := [.int 0, .ref 136]) (fun _ _ _ => rfl) (fun c19 => ?_) (fun c19 => ?_)
      · skip
        refine zw_run 4 (pc' := 131) (loc' := [some (.ref 136), some (.int k), some (.int (ra Z k))]) (stk' := [.int (k + 1), .ref 136, .int 0, .ref 136]) (fun _ _ _ => rfl) ?_
        refine zw_callf (As := [.ref 136, .int (k + 1)]) (rest := [.int 0, .ref 136]) (c_183 (Z := Z) hS (k + 1) (d := d + 4)) rfl rfl rfl rfl ?_
        show zw fm sx (d + 5) 149 134 [some (.ref 136), some (.int k), some (.int (ra Z k))] [.int (ra Z (k + 1)), .int 0, .ref 136] Z Q
        refine zw_run 1 (pc' := 138) (loc' := [some (.ref 136), some (.int k), some (.int (ra Z k))]) (stk' := [.int (ra Z (k + 1)), .int 0, .ref 136]) (fun _ _ _ => rfl) ?_
        exact J21 _ (by first | (rw [if_pos c19]; done) | (rw [if_pos c19]; rfl) | (clear H J21; simp_all [bI]; done))
      · skip
        refine zw_run 1 (pc' := 138) (loc' := [some (.ref 136), some (.int k), some (.int (ra Z k))]) (stk' := [.int (ra Z k), .int 0, .ref 136]) (fun _ _ _ => rfl) ?_
        exact J21 _ (by first | (rw [if_neg c19]; done) | (rw [if_neg c19]; rfl) | (clear H J21; simp_all [bI]; done))
    · rw [if_neg c18] at H
      refine zw_run 3 (pc' := 109) (loc' := [some (.ref 136), some (.int k), some (.int (ra Z k))]) (stk' := [.int 0, .int 2, .ref 136]) (fun _ _ _ => rfl) ?_
      obtain ⟨u26, hu26, H⟩ := oq_bind H
      refine zw_callf (As := [.ref 136, .int 2, .int 0]) (rest := []) (c_127 hu 2 0 hu26 (d := d + 3)) rfl rfl rfl rfl ?_
      show zw fm sx (d + 5) 149 112 [some (.ref 136), some (.int k), some (.int (ra Z k))] [.int u26.1] u26.2 Q
      obtain ⟨hS, H⟩ := oq_ob H
      refine zw_run 4 (pc' := 116) (loc' := [some (.ref 136), some (.int k), some (.int (ra Z k))]) (stk' := [.int (k + 2)]) (fun _ _ _ => rfl) ?_
      refine zw_reti (i := .nop) rfl rfl ?_
      have H := oq_some H
      exact H
  rw [if_neg c17] at H
  by_cases c27 : ra Z k = 93
  · rw [if_pos c27] at H
    refine zw_run 1 (pc' := 235) (loc' := [some (.ref 136), some (.int k), some (.int (ra Z k))]) (stk' := []) (fun _ _ _ => by rw [c27]; rfl) ?_
    refine zw_run 2 (pc' := 237) (loc' := [some (.ref 136), some (.int k), some (.int (ra Z k))]) (stk' := [.int k, .ref 136]) (fun _ _ _ => rfl) ?_
    obtain ⟨u28, hu28, H⟩ := oq_bind H
    refine zw_callf (As := [.ref 136, .int k]) (rest := []) (c_140 hu k hu28 (d := d + 0)) rfl rfl rfl rfl ?_
    show zw fm sx (d + 5) 149 240 [some (.ref 136), some (.int k), some (.int (ra Z k))] [.int u28.1] u28.2 Q
    obtain ⟨hS, H⟩ := oq_ob H
    refine zw_reti (i := .nop) rfl rfl ?_
    have H := oq_some H
    exact H
  rw [if_neg c27] at H
  by_cases c29 : ra Z k = 95
  · rw [if_pos c29] at H
    refine zw_run 1 (pc' := 222) (loc' := [some (.ref 136), some (.int k), some (.int (ra Z k))]) (stk' := []) (fun _ _ _ => by rw [c29]; rfl) ?_
    refine zw_run 2 (pc' := 224) (loc' := [some (.ref 136), some (.int k), some (.int (ra Z k))]) (stk' := [.int k, .ref 136]) (fun _ _ _ => rfl) ?_
    obtain ⟨u30, hu30, H⟩ := oq_bind H
    refine zw_callf (As := [.ref 136, .int k]) (rest := []) (c_137 hu k hu30 (d := d + 2)) rfl rfl rfl rfl ?_
    show zw fm sx (d + 5) 149 227 [some (.ref 136), some (.int k), some (.int (ra Z k))] [.int u30.1] u30.2 Q
    obtain ⟨hS, H⟩ := oq_ob H
    refine zw_reti (i := .nop) rfl rfl ?_
    have H := oq_some H
    exact H
  rw [if_neg c29] at H
  by_cases c31 : ra Z k = 96
  · rw [if_pos c31] at H
    refine zw_run 1 (pc' := 160) (loc' := [some (.ref 136), some (.int k), some (.int (ra Z k))]) (stk' := []) (fun _ _ _ => by rw [c31]; rfl) ?_
    refine zw_run 2 (pc' := 162) (loc' := [some (.ref 136), some (.int k), some (.int (ra Z k))]) (stk' := [.int k, .ref 136]) (fun _ _ _ => rfl) ?_
    obtain ⟨u32, hu32, H⟩ := oq_bind H
    refine zw_callf (As := [.ref 136, .int k]) (rest := []) (c_146 hu k hu32 (d := d + 1)) rfl rfl rfl rfl ?_
    show zw fm sx (d + 5) 149 165 [some (.ref 136), some (.int k), some (.int (ra Z k))] [.int u32.1] u32.2 Q
    obtain ⟨hS, H⟩ := oq_ob H
    refine zw_reti (i := .nop) rfl rfl ?_
    have H := oq_some H
    exact H
  rw [if_neg c31] at H
  refine zw_lk (pc' := 241) (loc' := [some (.ref 136), some (.int k), some (.int (ra Z k))]) (stk' := []) rfl (am_lkd (fun q hq => ?_)) rfl ?_
  · simp only [List.mem_cons, List.not_mem_nil, or_false] at hq
    rcases hq with rfl | rfl | rfl | rfl | rfl | rfl | rfl | rfl | rfl
    · exact fun q => c1 (Int32.toInt_inj.mp q.symm)
    · exact fun q => c3 (Int32.toInt_inj.mp q.symm)
    · exact fun q => c11 (Int32.toInt_inj.mp q.symm)
    · exact fun q => c13 (Int32.toInt_inj.mp q.symm)
    · exact fun q => c15 (Int32.toInt_inj.mp q.symm)
    · exact fun q => c17 (Int32.toInt_inj.mp q.symm)
    · exact fun q => c27 (Int32.toInt_inj.mp q.symm)
    · exact fun q => c29 (Int32.toInt_inj.mp q.symm)
    · exact fun q => c31 (Int32.toInt_inj.mp q.symm)
  refine zw_run 2 (pc' := 244) (loc' := [some (.ref 136), some (.int k), some (.int (ra Z k))]) (stk' := [.int 33, .int (ra Z k)]) (fun _ _ _ => rfl) ?_
  refine zw_br (c := ¬ (ra Z k) = 33) (t1 := 266) (t2 := 247) (loc' := [some (.ref 136), some (.int k), some (.int (ra Z k))]) (stk' := []) (fun _ _ _ => rfl) (fun c33 => ?_) (fun c33 => ?_)
  · rw [if_pos c33] at H
    refine zw_run 3 (pc' := 269) (loc' := [some (.ref 136), some (.int k), some (.int (ra Z k))]) (stk' := [.int (ra Z k), .int 0, .ref 136]) (fun _ _ _ => rfl) ?_
    obtain ⟨u34, hu34, H⟩ := oq_bind H
    refine zw_callf (As := [.ref 136, .int 0, .int (ra Z k)]) (rest := []) (c_127 hu 0 (ra Z k) hu34 (d := d + 3)) rfl rfl rfl rfl ?_
    show zw fm sx (d + 5) 149 272 [some (.ref 136), some (.int k), some (.int (ra Z k))] [.int u34.1] u34.2 Q
    obtain ⟨hS, H⟩ := oq_ob H
    refine zw_run 4 (pc' := 276) (loc' := [some (.ref 136), some (.int k), some (.int (ra Z k))]) (stk' := [.int (k + 1)]) (fun _ _ _ => rfl) ?_
    refine zw_reti (i := .nop) rfl rfl ?_
    have H := oq_some H
    exact H
  · rw [if_neg c33] at H
    refine zw_run 4 (pc' := 251) (loc' := [some (.ref 136), some (.int k), some (.int (ra Z k))]) (stk' := [.int (k + 1), .ref 136]) (fun _ _ _ => rfl) ?_
    refine zw_callf (As := [.ref 136, .int (k + 1)]) (rest := []) (c_183 (Z := Z) hS (k + 1) (d := d + 4)) rfl rfl rfl rfl ?_
    show zw fm sx (d + 5) 149 254 [some (.ref 136), some (.int k), some (.int (ra Z k))] [.int (ra Z (k + 1))] Z Q
    refine zw_run 1 (pc' := 256) (loc' := [some (.ref 136), some (.int k), some (.int (ra Z k))]) (stk' := [.int 91, .int (ra Z (k + 1))]) (fun _ _ _ => rfl) ?_
    refine zw_br (c := ¬ (ra Z (k + 1)) = 91) (t1 := 266) (t2 := 259) (loc' := [some (.ref 136), some (.int k), some (.int (ra Z k))]) (stk' := []) (fun _ _ _ => rfl) (fun c35 => ?_) (fun c35 => ?_)
    · rw [if_pos c35] at H
      refine zw_run 3 (pc' := 269) (loc' := [some (.ref 136), some (.int k), some (.int (ra Z k))]) (stk' := [.int (ra Z k), .int 0, .ref 136]) (fun _ _ _ => rfl) ?_
      obtain ⟨u36, hu36, H⟩ := oq_bind H
      refine zw_callf (As := [.ref 136, .int 0, .int (ra Z k)]) (rest := []) (c_127 hu 0 (ra Z k) hu36 (d := d + 3)) rfl rfl rfl rfl ?_
      show zw fm sx (d + 5) 149 272 [some (.ref 136), some (.int k), some (.int (ra Z k))] [.int u36.1] u36.2 Q
      obtain ⟨hS, H⟩ := oq_ob H
      refine zw_run 4 (pc' := 276) (loc' := [some (.ref 136), some (.int k), some (.int (ra Z k))]) (stk' := [.int (k + 1)]) (fun _ _ _ => rfl) ?_
      refine zw_reti (i := .nop) rfl rfl ?_
      have H := oq_some H
      exact H
    · rw [if_neg c35] at H
      refine zw_run 3 (pc' := 262) (loc' := [some (.ref 136), some (.int k), some (.int (ra Z k))]) (stk' := [.int 1, .int k, .ref 136]) (fun _ _ _ => rfl) ?_
      obtain ⟨u37, hu37, H⟩ := oq_bind H
      refine zw_callf (As := [.ref 136, .int k, .int 1]) (rest := []) (c_139 hu k true hu37 (d := d + 2)) rfl rfl rfl rfl ?_
      show zw fm sx (d + 5) 149 265 [some (.ref 136), some (.int k), some (.int (ra Z k))] [.int u37.1] u37.2 Q
      obtain ⟨hS, H⟩ := oq_ob H
      refine zw_reti (i := .nop) rfl rfl ?_
      have H := oq_some H
      exact H
theorem c_149 {fm : Value} {sx : Nat × (Nat → Int32)} {d : Nat} {Z : zr_Z} (hu : fm = .null ∨ ∃ q, fm = .ref q) (k : Int32) {x : Int32 × zr_Z} (hx : o_149 Z k = some x) : zl fm sx (d + 6) 149 [.ref 136, .int k] Z (fun r Z' => r = some (.int x.1) ∧ Z' = x.2) :=
  zl_of (nL := 3) (loc0 := [some (.ref 136), some (.int k), none]) rfl rfl rfl (t_149 hu k ⟨x, hx, rfl, rfl⟩)
