/-! MarkInlines.Signs and the reference's own kinds of characters; walks written by wip/whole/gen_signs.py -/
/-- MarkInlines$Signs.isWhite -/
def k_194 (c : Int32) : Bool := ((decide (c = 9)) || ((decide (c = 10)) || ((decide (c = 13)) || (decide (c = 32)))))
set_option maxRecDepth 100000 in
set_option maxHeartbeats 1000000 in
theorem b_194 {fm : Value} {sx : Nat × (Nat → Int32)} {d : Nat} {Z : zr_Z} {Q : Option Value → zr_Z → Prop} (c : Int32) (H : Q (some (.int (bI ((decide (c = 9)) || ((decide (c = 10)) || ((decide (c = 13)) || (decide (c = 32)))))))) Z) : zw fm sx (d + 0) 194 0 [some (.int c)] [] Z Q := by
  refine zw_run 2 (pc' := 3) (loc' := [some (.int c)]) (stk' := [.int 9, .int c]) (fun _ _ _ => rfl) ?_
  have J6 : ∀ (v5 : Int32), v5 = (bI ((decide (c = 9)) || ((decide (c = 10)) || ((decide (c = 13)) || (decide (c = 32)))))) → zw fm sx (d + 0) 194 29 [some (.int c)] [.int v5] Z Q := by
    intro v5 ev5
    subst ev5
    refine zw_retz rfl rfl (bI_01 _) ?_
    exact H
  refine zw_br (c := c = 9) (t1 := 24) (t2 := 6) (loc' := [some (.int c)]) (stk' := []) (fun _ _ _ => rfl) (fun c1 => ?_) (fun c1 => ?_)
  · skip
    refine zw_run 2 (pc' := 29) (loc' := [some (.int c)]) (stk' := [.int 1]) (fun _ _ _ => rfl) ?_
    exact J6 _ (by clear H J6; first | (simp [bI, *]; done) | (simp_all [bI]; done) | (exfalso; simp_all; done))
  · skip
    refine zw_run 2 (pc' := 9) (loc' := [some (.int c)]) (stk' := [.int 10, .int c]) (fun _ _ _ => rfl) ?_
    refine zw_br (c := c = 10) (t1 := 24) (t2 := 12) (loc' := [some (.int c)]) (stk' := []) (fun _ _ _ => rfl) (fun c2 => ?_) (fun c2 => ?_)
    · skip
      refine zw_run 2 (pc' := 29) (loc' := [some (.int c)]) (stk' := [.int 1]) (fun _ _ _ => rfl) ?_
      exact J6 _ (by clear H J6; first | (simp [bI, *]; done) | (simp_all [bI]; done) | (exfalso; simp_all; done))
    · skip
      refine zw_run 2 (pc' := 15) (loc' := [some (.int c)]) (stk' := [.int 13, .int c]) (fun _ _ _ => rfl) ?_
      refine zw_br (c := c = 13) (t1 := 24) (t2 := 18) (loc' := [some (.int c)]) (stk' := []) (fun _ _ _ => rfl) (fun c3 => ?_) (fun c3 => ?_)
      · skip
        refine zw_run 2 (pc' := 29) (loc' := [some (.int c)]) (stk' := [.int 1]) (fun _ _ _ => rfl) ?_
        exact J6 _ (by clear H J6; first | (simp [bI, *]; done) | (simp_all [bI]; done) | (exfalso; simp_all; done))
      · skip
        refine zw_run 2 (pc' := 21) (loc' := [some (.int c)]) (stk' := [.int 32, .int c]) (fun _ _ _ => rfl) ?_
        refine zw_br (c := ¬ c = 32) (t1 := 28) (t2 := 24) (loc' := [some (.int c)]) (stk' := []) (fun _ _ _ => rfl) (fun c4 => ?_) (fun c4 => ?_)
        · skip
          refine zw_run 1 (pc' := 29) (loc' := [some (.int c)]) (stk' := [.int 0]) (fun _ _ _ => rfl) ?_
          exact J6 _ (by clear H J6; first | (simp [bI, *]; done) | (simp_all [bI]; done) | (exfalso; simp_all; done))
        · skip
          refine zw_run 2 (pc' := 29) (loc' := [some (.int c)]) (stk' := [.int 1]) (fun _ _ _ => rfl) ?_
          exact J6 _ (by clear H J6; first | (simp [bI, *]; done) | (simp_all [bI]; done) | (exfalso; simp_all; done))
theorem c_194 {fm : Value} {sx : Nat × (Nat → Int32)} {d : Nat} {Z : zr_Z} (c : Int32) : zl fm sx (d + 1) 194 [.int c] Z (fun r Z' => r = some (.int (bI (k_194 c))) ∧ Z' = Z) := by
  refine zl_of (nL := 1) (loc0 := [some (.int c)]) rfl rfl rfl (b_194 c ?_)
  exact ⟨rfl, rfl⟩
/-- MarkInlines$Signs.isBlank -/
def k_195 (c : Int32) : Bool := ((k_194 c) || (decide (c = 160)))
set_option maxRecDepth 100000 in
set_option maxHeartbeats 1000000 in
theorem b_195 {fm : Value} {sx : Nat × (Nat → Int32)} {d : Nat} {Z : zr_Z} {Q : Option Value → zr_Z → Prop} (c : Int32) (H : Q (some (.int (bI ((k_194 c) || (decide (c = 160)))))) Z) : zw fm sx (d + 1) 195 0 [some (.int c)] [] Z Q := by
  refine zw_run 1 (pc' := 1) (loc' := [some (.int c)]) (stk' := [.int c]) (fun _ _ _ => rfl) ?_
  refine zw_callf (As := [.int c]) (rest := []) (c_194 c (d := d + 0)) rfl rfl rfl rfl ?_
  show zw fm sx (d + 1) 195 4 [some (.int c)] [.int (bI (k_194 c))] Z Q
  have J4 : ∀ (v3 : Int32), v3 = (bI ((k_194 c) || (decide (c = 160)))) → zw fm sx (d + 1) 195 19 [some (.int c)] [.int v3] Z Q := by
    intro v3 ev3
    subst ev3
    refine zw_retz rfl rfl (bI_01 _) ?_
    exact H
  refine zw_b1 (b := (k_194 c)) (t1 := 14) (t2 := 7) (loc' := [some (.int c)]) (stk' := []) (fun _ _ _ => rfl) (fun c1 => ?_) (fun c1 => ?_)
  · skip
    refine zw_run 2 (pc' := 19) (loc' := [some (.int c)]) (stk' := [.int 1]) (fun _ _ _ => rfl) ?_
    exact J4 _ (by clear H J4; first | (simp [bI, *]; done) | (simp_all [bI]; done) | (exfalso; simp_all; done))
  · skip
    refine zw_run 2 (pc' := 11) (loc' := [some (.int c)]) (stk' := [.int 160, .int c]) (fun _ _ _ => rfl) ?_
    refine zw_br (c := ¬ c = 160) (t1 := 18) (t2 := 14) (loc' := [some (.int c)]) (stk' := []) (fun _ _ _ => rfl) (fun c2 => ?_) (fun c2 => ?_)
    · skip
      refine zw_run 1 (pc' := 19) (loc' := [some (.int c)]) (stk' := [.int 0]) (fun _ _ _ => rfl) ?_
      exact J4 _ (by clear H J4; first | (simp [bI, *]; done) | (simp_all [bI]; done) | (exfalso; simp_all; done))
    · skip
      refine zw_run 2 (pc' := 19) (loc' := [some (.int c)]) (stk' := [.int 1]) (fun _ _ _ => rfl) ?_
      exact J4 _ (by clear H J4; first | (simp [bI, *]; done) | (simp_all [bI]; done) | (exfalso; simp_all; done))
theorem c_195 {fm : Value} {sx : Nat × (Nat → Int32)} {d : Nat} {Z : zr_Z} (c : Int32) : zl fm sx (d + 2) 195 [.int c] Z (fun r Z' => r = some (.int (bI (k_195 c))) ∧ Z' = Z) := by
  refine zl_of (nL := 1) (loc0 := [some (.int c)]) rfl rfl rfl (b_195 c ?_)
  exact ⟨rfl, rfl⟩
/-- MarkInlines$Signs.isLetter -/
def k_196 (c : Int32) : Bool := (bif decide (c < 65) then (!(decide (c < 97))) && (!(decide (122 < c))) else (decide (c ≤ 90)) || ((!(decide (c < 97))) && (!(decide (122 < c)))))
set_option maxRecDepth 100000 in
set_option maxHeartbeats 1000000 in
theorem b_196 {fm : Value} {sx : Nat × (Nat → Int32)} {d : Nat} {Z : zr_Z} {Q : Option Value → zr_Z → Prop} (c : Int32) (H : Q (some (.int (bI (bif decide (c < 65) then (!(decide (c < 97))) && (!(decide (122 < c))) else (decide (c ≤ 90)) || ((!(decide (c < 97))) && (!(decide (122 < c)))))))) Z) : zw fm sx (d + 0) 196 0 [some (.int c)] [] Z Q := by
  refine zw_run 2 (pc' := 3) (loc' := [some (.int c)]) (stk' := [.int 65, .int c]) (fun _ _ _ => rfl) ?_
  have J8 : ∀ (v7 : Int32), v7 = (bI (bif decide (c < 65) then (!(decide (c < 97))) && (!(decide (122 < c))) else (decide (c ≤ 90)) || ((!(decide (c < 97))) && (!(decide (122 < c)))))) → zw fm sx (d + 0) 196 29 [some (.int c)] [.int v7] Z Q := by
    intro v7 ev7
    subst ev7
    refine zw_retz rfl rfl (bI_01 _) ?_
    exact H
  refine zw_br (c := c < 65) (t1 := 12) (t2 := 6) (loc' := [some (.int c)]) (stk' := []) (fun _ _ _ => rfl) (fun c1 => ?_) (fun c1 => ?_)
  · skip
    refine zw_run 2 (pc' := 15) (loc' := [some (.int c)]) (stk' := [.int 97, .int c]) (fun _ _ _ => rfl) ?_
    refine zw_br (c := c < 97) (t1 := 28) (t2 := 18) (loc' := [some (.int c)]) (stk' := []) (fun _ _ _ => rfl) (fun c2 => ?_) (fun c2 => ?_)
    · skip
      refine zw_run 1 (pc' := 29) (loc' := [some (.int c)]) (stk' := [.int 0]) (fun _ _ _ => rfl) ?_
      exact J8 _ (by clear H J8; first | (simp [bI, *]; done) | (simp_all [bI]; done) | (exfalso; simp_all; done))
    · skip
      refine zw_run 2 (pc' := 21) (loc' := [some (.int c)]) (stk' := [.int 122, .int c]) (fun _ _ _ => rfl) ?_
      refine zw_br (c := 122 < c) (t1 := 28) (t2 := 24) (loc' := [some (.int c)]) (stk' := []) (fun _ _ _ => rfl) (fun c3 => ?_) (fun c3 => ?_)
      · skip
        refine zw_run 1 (pc' := 29) (loc' := [some (.int c)]) (stk' := [.int 0]) (fun _ _ _ => rfl) ?_
        exact J8 _ (by clear H J8; first | (simp [bI, *]; done) | (simp_all [bI]; done) | (exfalso; simp_all; done))
      · skip
        refine zw_run 2 (pc' := 29) (loc' := [some (.int c)]) (stk' := [.int 1]) (fun _ _ _ => rfl) ?_
        exact J8 _ (by clear H J8; first | (simp [bI, *]; done) | (simp_all [bI]; done) | (exfalso; simp_all; done))
  · skip
    refine zw_run 2 (pc' := 9) (loc' := [some (.int c)]) (stk' := [.int 90, .int c]) (fun _ _ _ => rfl) ?_
    refine zw_br (c := c ≤ 90) (t1 := 24) (t2 := 12) (loc' := [some (.int c)]) (stk' := []) (fun _ _ _ => rfl) (fun c4 => ?_) (fun c4 => ?_)
    · skip
      refine zw_run 2 (pc' := 29) (loc' := [some (.int c)]) (stk' := [.int 1]) (fun _ _ _ => rfl) ?_
      exact J8 _ (by clear H J8; first | (simp [bI, *]; done) | (simp_all [bI]; done) | (exfalso; simp_all; done))
    · skip
      refine zw_run 2 (pc' := 15) (loc' := [some (.int c)]) (stk' := [.int 97, .int c]) (fun _ _ _ => rfl) ?_
      refine zw_br (c := c < 97) (t1 := 28) (t2 := 18) (loc' := [some (.int c)]) (stk' := []) (fun _ _ _ => rfl) (fun c5 => ?_) (fun c5 => ?_)
      · skip
        refine zw_run 1 (pc' := 29) (loc' := [some (.int c)]) (stk' := [.int 0]) (fun _ _ _ => rfl) ?_
        exact J8 _ (by clear H J8; first | (simp [bI, *]; done) | (simp_all [bI]; done) | (exfalso; simp_all; done))
      · skip
        refine zw_run 2 (pc' := 21) (loc' := [some (.int c)]) (stk' := [.int 122, .int c]) (fun _ _ _ => rfl) ?_
        refine zw_br (c := 122 < c) (t1 := 28) (t2 := 24) (loc' := [some (.int c)]) (stk' := []) (fun _ _ _ => rfl) (fun c6 => ?_) (fun c6 => ?_)
        · skip
          refine zw_run 1 (pc' := 29) (loc' := [some (.int c)]) (stk' := [.int 0]) (fun _ _ _ => rfl) ?_
          exact J8 _ (by clear H J8; first | (simp [bI, *]; done) | (simp_all [bI]; done) | (exfalso; simp_all; done))
        · skip
          refine zw_run 2 (pc' := 29) (loc' := [some (.int c)]) (stk' := [.int 1]) (fun _ _ _ => rfl) ?_
          exact J8 _ (by clear H J8; first | (simp [bI, *]; done) | (simp_all [bI]; done) | (exfalso; simp_all; done))
theorem c_196 {fm : Value} {sx : Nat × (Nat → Int32)} {d : Nat} {Z : zr_Z} (c : Int32) : zl fm sx (d + 1) 196 [.int c] Z (fun r Z' => r = some (.int (bI (k_196 c))) ∧ Z' = Z) := by
  refine zl_of (nL := 1) (loc0 := [some (.int c)]) rfl rfl rfl (b_196 c ?_)
  exact ⟨rfl, rfl⟩
/-- MarkInlines$Signs.isLetterOrDigit -/
def k_197 (c : Int32) : Bool := (bif decide (c < 65) then bif decide (c < 97) then (!(decide (c < 48))) && (!(decide (57 < c))) else (decide (c ≤ 122)) || ((!(decide (c < 48))) && (!(decide (57 < c)))) else (decide (c ≤ 90)) || (bif decide (c < 97) then (!(decide (c < 48))) && (!(decide (57 < c))) else (decide (c ≤ 122)) || ((!(decide (c < 48))) && (!(decide (57 < c))))))
set_option maxRecDepth 100000 in
set_option maxHeartbeats 1000000 in
theorem b_197 {fm : Value} {sx : Nat × (Nat → Int32)} {d : Nat} {Z : zr_Z} {Q : Option Value → zr_Z → Prop} (c : Int32) (H : Q (some (.int (bI (bif decide (c < 65) then bif decide (c < 97) then (!(decide (c < 48))) && (!(decide (57 < c))) else (decide (c ≤ 122)) || ((!(decide (c < 48))) && (!(decide (57 < c)))) else (decide (c ≤ 90)) || (bif decide (c < 97) then (!(decide (c < 48))) && (!(decide (57 < c))) else (decide (c ≤ 122)) || ((!(decide (c < 48))) && (!(decide (57 < c))))))))) Z) : zw fm sx (d + 0) 197 0 [some (.int c)] [] Z Q := by
  refine zw_run 2 (pc' := 3) (loc' := [some (.int c)]) (stk' := [.int 65, .int c]) (fun _ _ _ => rfl) ?_
  have J16 : ∀ (v15 : Int32), v15 = (bI (bif decide (c < 65) then bif decide (c < 97) then (!(decide (c < 48))) && (!(decide (57 < c))) else (decide (c ≤ 122)) || ((!(decide (c < 48))) && (!(decide (57 < c)))) else (decide (c ≤ 90)) || (bif decide (c < 97) then (!(decide (c < 48))) && (!(decide (57 < c))) else (decide (c ≤ 122)) || ((!(decide (c < 48))) && (!(decide (57 < c))))))) → zw fm sx (d + 0) 197 41 [some (.int c)] [.int v15] Z Q := by
    intro v15 ev15
    subst ev15
    refine zw_retz rfl rfl (bI_01 _) ?_
    exact H
  refine zw_br (c := c < 65) (t1 := 12) (t2 := 6) (loc' := [some (.int c)]) (stk' := []) (fun _ _ _ => rfl) (fun c1 => ?_) (fun c1 => ?_)
  · skip
    refine zw_run 2 (pc' := 15) (loc' := [some (.int c)]) (stk' := [.int 97, .int c]) (fun _ _ _ => rfl) ?_
    refine zw_br (c := c < 97) (t1 := 24) (t2 := 18) (loc' := [some (.int c)]) (stk' := []) (fun _ _ _ => rfl) (fun c2 => ?_) (fun c2 => ?_)
    · skip
      refine zw_run 2 (pc' := 27) (loc' := [some (.int c)]) (stk' := [.int 48, .int c]) (fun _ _ _ => rfl) ?_
      refine zw_br (c := c < 48) (t1 := 40) (t2 := 30) (loc' := [some (.int c)]) (stk' := []) (fun _ _ _ => rfl) (fun c3 => ?_) (fun c3 => ?_)
      · skip
        refine zw_run 1 (pc' := 41) (loc' := [some (.int c)]) (stk' := [.int 0]) (fun _ _ _ => rfl) ?_
        exact J16 _ (by clear H J16; first | (simp [bI, *]; done) | (simp_all [bI]; done) | (exfalso; simp_all; done))
      · skip
        refine zw_run 2 (pc' := 33) (loc' := [some (.int c)]) (stk' := [.int 57, .int c]) (fun _ _ _ => rfl) ?_
        refine zw_br (c := 57 < c) (t1 := 40) (t2 := 36) (loc' := [some (.int c)]) (stk' := []) (fun _ _ _ => rfl) (fun c4 => ?_) (fun c4 => ?_)
        · skip
          refine zw_run 1 (pc' := 41) (loc' := [some (.int c)]) (stk' := [.int 0]) (fun _ _ _ => rfl) ?_
          exact J16 _ (by clear H J16; first | (simp [bI, *]; done) | (simp_all [bI]; done) | (exfalso; simp_all; done))
        · skip
          refine zw_run 2 (pc' := 41) (loc' := [some (.int c)]) (stk' := [.int 1]) (fun _ _ _ => rfl) ?_
          exact J16 _ (by clear H J16; first | (simp [bI, *]; done) | (simp_all [bI]; done) | (exfalso; simp_all; done))
    · skip
      refine zw_run 2 (pc' := 21) (loc' := [some (.int c)]) (stk' := [.int 122, .int c]) (fun _ _ _ => rfl) ?_
      refine zw_br (c := c ≤ 122) (t1 := 36) (t2 := 24) (loc' := [some (.int c)]) (stk' := []) (fun _ _ _ => rfl) (fun c5 => ?_) (fun c5 => ?_)
      · skip
        refine zw_run 2 (pc' := 41) (loc' := [some (.int c)]) (stk' := [.int 1]) (fun _ _ _ => rfl) ?_
        exact J16 _ (by clear H J16; first | (simp [bI, *]; done) | (simp_all [bI]; done) | (exfalso; simp_all; done))
      · skip
        refine zw_run 2 (pc' := 27) (loc' := [some (.int c)]) (stk' := [.int 48, .int c]) (fun _ _ _ => rfl) ?_
        refine zw_br (c := c < 48) (t1 := 40) (t2 := 30) (loc' := [some (.int c)]) (stk' := []) (fun _ _ _ => rfl) (fun c6 => ?_) (fun c6 => ?_)
        · skip
          refine zw_run 1 (pc' := 41) (loc' := [some (.int c)]) (stk' := [.int 0]) (fun _ _ _ => rfl) ?_
          exact J16 _ (by clear H J16; first | (simp [bI, *]; done) | (simp_all [bI]; done) | (exfalso; simp_all; done))
        · skip
          refine zw_run 2 (pc' := 33) (loc' := [some (.int c)]) (stk' := [.int 57, .int c]) (fun _ _ _ => rfl) ?_
          refine zw_br (c := 57 < c) (t1 := 40) (t2 := 36) (loc' := [some (.int c)]) (stk' := []) (fun _ _ _ => rfl) (fun c7 => ?_) (fun c7 => ?_)
          · skip
            refine zw_run 1 (pc' := 41) (loc' := [some (.int c)]) (stk' := [.int 0]) (fun _ _ _ => rfl) ?_
            exact J16 _ (by clear H J16; first | (simp [bI, *]; done) | (simp_all [bI]; done) | (exfalso; simp_all; done))
          · skip
            refine zw_run 2 (pc' := 41) (loc' := [some (.int c)]) (stk' := [.int 1]) (fun _ _ _ => rfl) ?_
            exact J16 _ (by clear H J16; first | (simp [bI, *]; done) | (simp_all [bI]; done) | (exfalso; simp_all; done))
  · skip
    refine zw_run 2 (pc' := 9) (loc' := [some (.int c)]) (stk' := [.int 90, .int c]) (fun _ _ _ => rfl) ?_
    refine zw_br (c := c ≤ 90) (t1 := 36) (t2 := 12) (loc' := [some (.int c)]) (stk' := []) (fun _ _ _ => rfl) (fun c8 => ?_) (fun c8 => ?_)
    · skip
      refine zw_run 2 (pc' := 41) (loc' := [some (.int c)]) (stk' := [.int 1]) (fun _ _ _ => rfl) ?_
      exact J16 _ (by clear H J16; first | (simp [bI, *]; done) | (simp_all [bI]; done) | (exfalso; simp_all; done))
    · skip
      refine zw_run 2 (pc' := 15) (loc' := [some (.int c)]) (stk' := [.int 97, .int c]) (fun _ _ _ => rfl) ?_
      refine zw_br (c := c < 97) (t1 := 24) (t2 := 18) (loc' := [some (.int c)]) (stk' := []) (fun _ _ _ => rfl) (fun c9 => ?_) (fun c9 => ?_)
      · skip
        refine zw_run 2 (pc' := 27) (loc' := [some (.int c)]) (stk' := [.int 48, .int c]) (fun _ _ _ => rfl) ?_
        refine zw_br (c := c < 48) (t1 := 40) (t2 := 30) (loc' := [some (.int c)]) (stk' := []) (fun _ _ _ => rfl) (fun c10 => ?_) (fun c10 => ?_)
        · skip
          refine zw_run 1 (pc' := 41) (loc' := [some (.int c)]) (stk' := [.int 0]) (fun _ _ _ => rfl) ?_
          exact J16 _ (by clear H J16; first | (simp [bI, *]; done) | (simp_all [bI]; done) | (exfalso; simp_all; done))
        · skip
          refine zw_run 2 (pc' := 33) (loc' := [some (.int c)]) (stk' := [.int 57, .int c]) (fun _ _ _ => rfl) ?_
          refine zw_br (c := 57 < c) (t1 := 40) (t2 := 36) (loc' := [some (.int c)]) (stk' := []) (fun _ _ _ => rfl) (fun c11 => ?_) (fun c11 => ?_)
          · skip
            refine zw_run 1 (pc' := 41) (loc' := [some (.int c)]) (stk' := [.int 0]) (fun _ _ _ => rfl) ?_
            exact J16 _ (by clear H J16; first | (simp [bI, *]; done) | (simp_all [bI]; done) | (exfalso; simp_all; done))
          · skip
            refine zw_run 2 (pc' := 41) (loc' := [some (.int c)]) (stk' := [.int 1]) (fun _ _ _ => rfl) ?_
            exact J16 _ (by clear H J16; first | (simp [bI, *]; done) | (simp_all [bI]; done) | (exfalso; simp_all; done))
      · skip
        refine zw_run 2 (pc' := 21) (loc' := [some (.int c)]) (stk' := [.int 122, .int c]) (fun _ _ _ => rfl) ?_
        refine zw_br (c := c ≤ 122) (t1 := 36) (t2 := 24) (loc' := [some (.int c)]) (stk' := []) (fun _ _ _ => rfl) (fun c12 => ?_) (fun c12 => ?_)
        · skip
          refine zw_run 2 (pc' := 41) (loc' := [some (.int c)]) (stk' := [.int 1]) (fun _ _ _ => rfl) ?_
          exact J16 _ (by clear H J16; first | (simp [bI, *]; done) | (simp_all [bI]; done) | (exfalso; simp_all; done))
        · skip
          refine zw_run 2 (pc' := 27) (loc' := [some (.int c)]) (stk' := [.int 48, .int c]) (fun _ _ _ => rfl) ?_
          refine zw_br (c := c < 48) (t1 := 40) (t2 := 30) (loc' := [some (.int c)]) (stk' := []) (fun _ _ _ => rfl) (fun c13 => ?_) (fun c13 => ?_)
          · skip
            refine zw_run 1 (pc' := 41) (loc' := [some (.int c)]) (stk' := [.int 0]) (fun _ _ _ => rfl) ?_
            exact J16 _ (by clear H J16; first | (simp [bI, *]; done) | (simp_all [bI]; done) | (exfalso; simp_all; done))
          · skip
            refine zw_run 2 (pc' := 33) (loc' := [some (.int c)]) (stk' := [.int 57, .int c]) (fun _ _ _ => rfl) ?_
            refine zw_br (c := 57 < c) (t1 := 40) (t2 := 36) (loc' := [some (.int c)]) (stk' := []) (fun _ _ _ => rfl) (fun c14 => ?_) (fun c14 => ?_)
            · skip
              refine zw_run 1 (pc' := 41) (loc' := [some (.int c)]) (stk' := [.int 0]) (fun _ _ _ => rfl) ?_
              exact J16 _ (by clear H J16; first | (simp [bI, *]; done) | (simp_all [bI]; done) | (exfalso; simp_all; done))
            · skip
              refine zw_run 2 (pc' := 41) (loc' := [some (.int c)]) (stk' := [.int 1]) (fun _ _ _ => rfl) ?_
              exact J16 _ (by clear H J16; first | (simp [bI, *]; done) | (simp_all [bI]; done) | (exfalso; simp_all; done))
theorem c_197 {fm : Value} {sx : Nat × (Nat → Int32)} {d : Nat} {Z : zr_Z} (c : Int32) : zl fm sx (d + 1) 197 [.int c] Z (fun r Z' => r = some (.int (bI (k_197 c))) ∧ Z' = Z) := by
  refine zl_of (nL := 1) (loc0 := [some (.int c)]) rfl rfl rfl (b_197 c ?_)
  exact ⟨rfl, rfl⟩
/-- MarkInlines$Signs.isAsciiPunctuation -/
def k_198 (c : Int32) : Bool := (bif decide (c < 33) then bif decide (c < 58) then bif decide (c < 91) then (!(decide (c < 123))) && (!(decide (126 < c))) else (decide (c ≤ 96)) || ((!(decide (c < 123))) && (!(decide (126 < c)))) else (decide (c ≤ 64)) || (bif decide (c < 91) then (!(decide (c < 123))) && (!(decide (126 < c))) else (decide (c ≤ 96)) || ((!(decide (c < 123))) && (!(decide (126 < c))))) else (decide (c ≤ 47)) || (bif decide (c < 58) then bif decide (c < 91) then (!(decide (c < 123))) && (!(decide (126 < c))) else (decide (c ≤ 96)) || ((!(decide (c < 123))) && (!(decide (126 < c)))) else (decide (c ≤ 64)) || (bif decide (c < 91) then (!(decide (c < 123))) && (!(decide (126 < c))) else (decide (c ≤ 96)) || ((!(decide (c < 123))) && (!(decide (126 < c)))))))
set_option maxRecDepth 100000 in
set_option maxHeartbeats 1000000 in
theorem b_198 {fm : Value} {sx : Nat × (Nat → Int32)} {d : Nat} {Z : zr_Z} {Q : Option Value → zr_Z → Prop} (c : Int32) (H : Q (some (.int (bI (bif decide (c < 33) then bif decide (c < 58) then bif decide (c < 91) then (!(decide (c < 123))) && (!(decide (126 < c))) else (decide (c ≤ 96)) || ((!(decide (c < 123))) && (!(decide (126 < c)))) else (decide (c ≤ 64)) || (bif decide (c < 91) then (!(decide (c < 123))) && (!(decide (126 < c))) else (decide (c ≤ 96)) || ((!(decide (c < 123))) && (!(decide (126 < c))))) else (decide (c ≤ 47)) || (bif decide (c < 58) then bif decide (c < 91) then (!(decide (c < 123))) && (!(decide (126 < c))) else (decide (c ≤ 96)) || ((!(decide (c < 123))) && (!(decide (126 < c)))) else (decide (c ≤ 64)) || (bif decide (c < 91) then (!(decide (c < 123))) && (!(decide (126 < c))) else (decide (c ≤ 96)) || ((!(decide (c < 123))) && (!(decide (126 < c)))))))))) Z) : zw fm sx (d + 0) 198 0 [some (.int c)] [] Z Q := by
  refine zw_run 2 (pc' := 3) (loc' := [some (.int c)]) (stk' := [.int 33, .int c]) (fun _ _ _ => rfl) ?_
  have J32 : ∀ (v31 : Int32), v31 = (bI (bif decide (c < 33) then bif decide (c < 58) then bif decide (c < 91) then (!(decide (c < 123))) && (!(decide (126 < c))) else (decide (c ≤ 96)) || ((!(decide (c < 123))) && (!(decide (126 < c)))) else (decide (c ≤ 64)) || (bif decide (c < 91) then (!(decide (c < 123))) && (!(decide (126 < c))) else (decide (c ≤ 96)) || ((!(decide (c < 123))) && (!(decide (126 < c))))) else (decide (c ≤ 47)) || (bif decide (c < 58) then bif decide (c < 91) then (!(decide (c < 123))) && (!(decide (126 < c))) else (decide (c ≤ 96)) || ((!(decide (c < 123))) && (!(decide (126 < c)))) else (decide (c ≤ 64)) || (bif decide (c < 91) then (!(decide (c < 123))) && (!(decide (126 < c))) else (decide (c ≤ 96)) || ((!(decide (c < 123))) && (!(decide (126 < c)))))))) → zw fm sx (d + 0) 198 53 [some (.int c)] [.int v31] Z Q := by
    intro v31 ev31
    subst ev31
    refine zw_retz rfl rfl (bI_01 _) ?_
    exact H
  refine zw_br (c := c < 33) (t1 := 12) (t2 := 6) (loc' := [some (.int c)]) (stk' := []) (fun _ _ _ => rfl) (fun c1 => ?_) (fun c1 => ?_)
  · skip
    refine zw_run 2 (pc' := 15) (loc' := [some (.int c)]) (stk' := [.int 58, .int c]) (fun _ _ _ => rfl) ?_
    refine zw_br (c := c < 58) (t1 := 24) (t2 := 18) (loc' := [some (.int c)]) (stk' := []) (fun _ _ _ => rfl) (fun c2 => ?_) (fun c2 => ?_)
    · skip
      refine zw_run 2 (pc' := 27) (loc' := [some (.int c)]) (stk' := [.int 91, .int c]) (fun _ _ _ => rfl) ?_
      refine zw_br (c := c < 91) (t1 := 36) (t2 := 30) (loc' := [some (.int c)]) (stk' := []) (fun _ _ _ => rfl) (fun c3 => ?_) (fun c3 => ?_)
      · skip
        refine zw_run 2 (pc' := 39) (loc' := [some (.int c)]) (stk' := [.int 123, .int c]) (fun _ _ _ => rfl) ?_
        refine zw_br (c := c < 123) (t1 := 52) (t2 := 42) (loc' := [some (.int c)]) (stk' := []) (fun _ _ _ => rfl) (fun c4 => ?_) (fun c4 => ?_)
        · skip
          refine zw_run 1 (pc' := 53) (loc' := [some (.int c)]) (stk' := [.int 0]) (fun _ _ _ => rfl) ?_
          exact J32 _ (by clear H J32; first | (simp [bI, *]; done) | (simp_all [bI]; done) | (exfalso; simp_all; done))
        · skip
          refine zw_run 2 (pc' := 45) (loc' := [some (.int c)]) (stk' := [.int 126, .int c]) (fun _ _ _ => rfl) ?_
          refine zw_br (c := 126 < c) (t1 := 52) (t2 := 48) (loc' := [some (.int c)]) (stk' := []) (fun _ _ _ => rfl) (fun c5 => ?_) (fun c5 => ?_)
          · skip
            refine zw_run 1 (pc' := 53) (loc' := [some (.int c)]) (stk' := [.int 0]) (fun _ _ _ => rfl) ?_
            exact J32 _ (by clear H J32; first | (simp [bI, *]; done) | (simp_all [bI]; done) | (exfalso; simp_all; done))
          · skip
            refine zw_run 2 (pc' := 53) (loc' := [some (.int c)]) (stk' := [.int 1]) (fun _ _ _ => rfl) ?_
            exact J32 _ (by clear H J32; first | (simp [bI, *]; done) | (simp_all [bI]; done) | (exfalso; simp_all; done))
      · skip
        refine zw_run 2 (pc' := 33) (loc' := [some (.int c)]) (stk' := [.int 96, .int c]) (fun _ _ _ => rfl) ?_
        refine zw_br (c := c ≤ 96) (t1 := 48) (t2 := 36) (loc' := [some (.int c)]) (stk' := []) (fun _ _ _ => rfl) (fun c6 => ?_) (fun c6 => ?_)
        · skip
          refine zw_run 2 (pc' := 53) (loc' := [some (.int c)]) (stk' := [.int 1]) (fun _ _ _ => rfl) ?_
          exact J32 _ (by clear H J32; first | (simp [bI, *]; done) | (simp_all [bI]; done) | (exfalso; simp_all; done))
        · skip
          refine zw_run 2 (pc' := 39) (loc' := [some (.int c)]) (stk' := [.int 123, .int c]) (fun _ _ _ => rfl) ?_
          refine zw_br (c := c < 123) (t1 := 52) (t2 := 42) (loc' := [some (.int c)]) (stk' := []) (fun _ _ _ => rfl) (fun c7 => ?_) (fun c7 => ?_)
          · skip
            refine zw_run 1 (pc' := 53) (loc' := [some (.int c)]) (stk' := [.int 0]) (fun _ _ _ => rfl) ?_
            exact J32 _ (by clear H J32; first | (simp [bI, *]; done) | (simp_all [bI]; done) | (exfalso; simp_all; done))
          · skip
            refine zw_run 2 (pc' := 45) (loc' := [some (.int c)]) (stk' := [.int 126, .int c]) (fun _ _ _ => rfl) ?_
            refine zw_br (c := 126 < c) (t1 := 52) (t2 := 48) (loc' := [some (.int c)]) (stk' := []) (fun _ _ _ => rfl) (fun c8 => ?_) (fun c8 => ?_)
            · skip
              refine zw_run 1 (pc' := 53) (loc' := [some (.int c)]) (stk' := [.int 0]) (fun _ _ _ => rfl) ?_
              exact J32 _ (by clear H J32; first | (simp [bI, *]; done) | (simp_all [bI]; done) | (exfalso; simp_all; done))
            · skip
              refine zw_run 2 (pc' := 53) (loc' := [some (.int c)]) (stk' := [.int 1]) (fun _ _ _ => rfl) ?_
              exact J32 _ (by clear H J32; first | (simp [bI, *]; done) | (simp_all [bI]; done) | (exfalso; simp_all; done))
    · skip
      refine zw_run 2 (pc' := 21) (loc' := [some (.int c)]) (stk' := [.int 64, .int c]) (fun _ _ _ => rfl) ?_
      refine zw_br (c := c ≤ 64) (t1 := 48) (t2 := 24) (loc' := [some (.int c)]) (stk' := []) (fun _ _ _ => rfl) (fun c9 => ?_) (fun c9 => ?_)
      · skip
        refine zw_run 2 (pc' := 53) (loc' := [some (.int c)]) (stk' := [.int 1]) (fun _ _ _ => rfl) ?_
        exact J32 _ (by clear H J32; first | (simp [bI, *]; done) | (simp_all [bI]; done) | (exfalso; simp_all; done))
      · skip
        refine zw_run 2 (pc' := 27) (loc' := [some (.int c)]) (stk' := [.int 91, .int c]) (fun _ _ _ => rfl) ?_
        refine zw_br (c := c < 91) (t1 := 36) (t2 := 30) (loc' := [some (.int c)]) (stk' := []) (fun _ _ _ => rfl) (fun c10 => ?_) (fun c10 => ?_)
        · skip
          refine zw_run 2 (pc' := 39) (loc' := [some (.int c)]) (stk' := [.int 123, .int c]) (fun _ _ _ => rfl) ?_
          refine zw_br (c := c < 123) (t1 := 52) (t2 := 42) (loc' := [some (.int c)]) (stk' := []) (fun _ _ _ => rfl) (fun c11 => ?_) (fun c11 => ?_)
          · skip
            refine zw_run 1 (pc' := 53) (loc' := [some (.int c)]) (stk' := [.int 0]) (fun _ _ _ => rfl) ?_
            exact J32 _ (by clear H J32; first | (simp [bI, *]; done) | (simp_all [bI]; done) | (exfalso; simp_all; done))
          · skip
            refine zw_run 2 (pc' := 45) (loc' := [some (.int c)]) (stk' := [.int 126, .int c]) (fun _ _ _ => rfl) ?_
            refine zw_br (c := 126 < c) (t1 := 52) (t2 := 48) (loc' := [some (.int c)]) (stk' := []) (fun _ _ _ => rfl) (fun c12 => ?_) (fun c12 => ?_)
            · skip
              refine zw_run 1 (pc' := 53) (loc' := [some (.int c)]) (stk' := [.int 0]) (fun _ _ _ => rfl) ?_
              exact J32 _ (by clear H J32; first | (simp [bI, *]; done) | (simp_all [bI]; done) | (exfalso; simp_all; done))
            · skip
              refine zw_run 2 (pc' := 53) (loc' := [some (.int c)]) (stk' := [.int 1]) (fun _ _ _ => rfl) ?_
              exact J32 _ (by clear H J32; first | (simp [bI, *]; done) | (simp_all [bI]; done) | (exfalso; simp_all; done))
        · skip
          refine zw_run 2 (pc' := 33) (loc' := [some (.int c)]) (stk' := [.int 96, .int c]) (fun _ _ _ => rfl) ?_
          refine zw_br (c := c ≤ 96) (t1 := 48) (t2 := 36) (loc' := [some (.int c)]) (stk' := []) (fun _ _ _ => rfl) (fun c13 => ?_) (fun c13 => ?_)
          · skip
            refine zw_run 2 (pc' := 53) (loc' := [some (.int c)]) (stk' := [.int 1]) (fun _ _ _ => rfl) ?_
            exact J32 _ (by clear H J32; first | (simp [bI, *]; done) | (simp_all [bI]; done) | (exfalso; simp_all; done))
          · skip
            refine zw_run 2 (pc' := 39) (loc' := [some (.int c)]) (stk' := [.int 123, .int c]) (fun _ _ _ => rfl) ?_
            refine zw_br (c := c < 123) (t1 := 52) (t2 := 42) (loc' := [some (.int c)]) (stk' := []) (fun _ _ _ => rfl) (fun c14 => ?_) (fun c14 => ?_)
            · skip
              refine zw_run 1 (pc' := 53) (loc' := [some (.int c)]) (stk' := [.int 0]) (fun _ _ _ => rfl) ?_
              exact J32 _ (by clear H J32; first | (simp [bI, *]; done) | (simp_all [bI]; done) | (exfalso; simp_all; done))
            · skip
              refine zw_run 2 (pc' := 45) (loc' := [some (.int c)]) (stk' := [.int 126, .int c]) (fun _ _ _ => rfl) ?_
              refine zw_br (c := 126 < c) (t1 := 52) (t2 := 48) (loc' := [some (.int c)]) (stk' := []) (fun _ _ _ => rfl) (fun c15 => ?_) (fun c15 => ?_)
              · skip
                refine zw_run 1 (pc' := 53) (loc' := [some (.int c)]) (stk' := [.int 0]) (fun _ _ _ => rfl) ?_
                exact J32 _ (by clear H J32; first | (simp [bI, *]; done) | (simp_all [bI]; done) | (exfalso; simp_all; done))
              · skip
                refine zw_run 2 (pc' := 53) (loc' := [some (.int c)]) (stk' := [.int 1]) (fun _ _ _ => rfl) ?_
                exact J32 _ (by clear H J32; first | (simp [bI, *]; done) | (simp_all [bI]; done) | (exfalso; simp_all; done))
  · skip
    refine zw_run 2 (pc' := 9) (loc' := [some (.int c)]) (stk' := [.int 47, .int c]) (fun _ _ _ => rfl) ?_
    refine zw_br (c := c ≤ 47) (t1 := 48) (t2 := 12) (loc' := [some (.int c)]) (stk' := []) (fun _ _ _ => rfl) (fun c16 => ?_) (fun c16 => ?_)
    · skip
      refine zw_run 2 (pc' := 53) (loc' := [some (.int c)]) (stk' := [.int 1]) (fun _ _ _ => rfl) ?_
      exact J32 _ (by clear H J32; first | (simp [bI, *]; done) | (simp_all [bI]; done) | (exfalso; simp_all; done))
    · skip
      refine zw_run 2 (pc' := 15) (loc' := [some (.int c)]) (stk' := [.int 58, .int c]) (fun _ _ _ => rfl) ?_
      refine zw_br (c := c < 58) (t1 := 24) (t2 := 18) (loc' := [some (.int c)]) (stk' := []) (fun _ _ _ => rfl) (fun c17 => ?_) (fun c17 => ?_)
      · skip
        refine zw_run 2 (pc' := 27) (loc' := [some (.int c)]) (stk' := [.int 91, .int c]) (fun _ _ _ => rfl) ?_
        refine zw_br (c := c < 91) (t1 := 36) (t2 := 30) (loc' := [some (.int c)]) (stk' := []) (fun _ _ _ => rfl) (fun c18 => ?_) (fun c18 => ?_)
        · skip
          refine zw_run 2 (pc' := 39) (loc' := [some (.int c)]) (stk' := [.int 123, .int c]) (fun _ _ _ => rfl) ?_
          refine zw_br (c := c < 123) (t1 := 52) (t2 := 42) (loc' := [some (.int c)]) (stk' := []) (fun _ _ _ => rfl) (fun c19 => ?_) (fun c19 => ?_)
          · skip
            refine zw_run 1 (pc' := 53) (loc' := [some (.int c)]) (stk' := [.int 0]) (fun _ _ _ => rfl) ?_
            exact J32 _ (by clear H J32; first | (simp [bI, *]; done) | (simp_all [bI]; done) | (exfalso; simp_all; done))
          · skip
            refine zw_run 2 (pc' := 45) (loc' := [some (.int c)]) (stk' := [.int 126, .int c]) (fun _ _ _ => rfl) ?_
            refine zw_br (c := 126 < c) (t1 := 52) (t2 := 48) (loc' := [some (.int c)]) (stk' := []) (fun _ _ _ => rfl) (fun c20 => ?_) (fun c20 => ?_)
            · skip
              refine zw_run 1 (pc' := 53) (loc' := [some (.int c)]) (stk' := [.int 0]) (fun _ _ _ => rfl) ?_
              exact J32 _ (by clear H J32; first | (simp [bI, *]; done) | (simp_all [bI]; done) | (exfalso; simp_all; done))
            · skip
              refine zw_run 2 (pc' := 53) (loc' := [some (.int c)]) (stk' := [.int 1]) (fun _ _ _ => rfl) ?_
              exact J32 _ (by clear H J32; first | (simp [bI, *]; done) | (simp_all [bI]; done) | (exfalso; simp_all; done))
        · skip
          refine zw_run 2 (pc' := 33) (loc' := [some (.int c)]) (stk' := [.int 96, .int c]) (fun _ _ _ => rfl) ?_
          refine zw_br (c := c ≤ 96) (t1 := 48) (t2 := 36) (loc' := [some (.int c)]) (stk' := []) (fun _ _ _ => rfl) (fun c21 => ?_) (fun c21 => ?_)
          · skip
            refine zw_run 2 (pc' := 53) (loc' := [some (.int c)]) (stk' := [.int 1]) (fun _ _ _ => rfl) ?_
            exact J32 _ (by clear H J32; first | (simp [bI, *]; done) | (simp_all [bI]; done) | (exfalso; simp_all; done))
          · skip
            refine zw_run 2 (pc' := 39) (loc' := [some (.int c)]) (stk' := [.int 123, .int c]) (fun _ _ _ => rfl) ?_
            refine zw_br (c := c < 123) (t1 := 52) (t2 := 42) (loc' := [some (.int c)]) (stk' := []) (fun _ _ _ => rfl) (fun c22 => ?_) (fun c22 => ?_)
            · skip
              refine zw_run 1 (pc' := 53) (loc' := [some (.int c)]) (stk' := [.int 0]) (fun _ _ _ => rfl) ?_
              exact J32 _ (by clear H J32; first | (simp [bI, *]; done) | (simp_all [bI]; done) | (exfalso; simp_all; done))
            · skip
              refine zw_run 2 (pc' := 45) (loc' := [some (.int c)]) (stk' := [.int 126, .int c]) (fun _ _ _ => rfl) ?_
              refine zw_br (c := 126 < c) (t1 := 52) (t2 := 48) (loc' := [some (.int c)]) (stk' := []) (fun _ _ _ => rfl) (fun c23 => ?_) (fun c23 => ?_)
              · skip
                refine zw_run 1 (pc' := 53) (loc' := [some (.int c)]) (stk' := [.int 0]) (fun _ _ _ => rfl) ?_
                exact J32 _ (by clear H J32; first | (simp [bI, *]; done) | (simp_all [bI]; done) | (exfalso; simp_all; done))
              · skip
                refine zw_run 2 (pc' := 53) (loc' := [some (.int c)]) (stk' := [.int 1]) (fun _ _ _ => rfl) ?_
                exact J32 _ (by clear H J32; first | (simp [bI, *]; done) | (simp_all [bI]; done) | (exfalso; simp_all; done))
      · skip
        refine zw_run 2 (pc' := 21) (loc' := [some (.int c)]) (stk' := [.int 64, .int c]) (fun _ _ _ => rfl) ?_
        refine zw_br (c := c ≤ 64) (t1 := 48) (t2 := 24) (loc' := [some (.int c)]) (stk' := []) (fun _ _ _ => rfl) (fun c24 => ?_) (fun c24 => ?_)
        · skip
          refine zw_run 2 (pc' := 53) (loc' := [some (.int c)]) (stk' := [.int 1]) (fun _ _ _ => rfl) ?_
          exact J32 _ (by clear H J32; first | (simp [bI, *]; done) | (simp_all [bI]; done) | (exfalso; simp_all; done))
        · skip
          refine zw_run 2 (pc' := 27) (loc' := [some (.int c)]) (stk' := [.int 91, .int c]) (fun _ _ _ => rfl) ?_
          refine zw_br (c := c < 91) (t1 := 36) (t2 := 30) (loc' := [some (.int c)]) (stk' := []) (fun _ _ _ => rfl) (fun c25 => ?_) (fun c25 => ?_)
          · skip
            refine zw_run 2 (pc' := 39) (loc' := [some (.int c)]) (stk' := [.int 123, .int c]) (fun _ _ _ => rfl) ?_
            refine zw_br (c := c < 123) (t1 := 52) (t2 := 42) (loc' := [some (.int c)]) (stk' := []) (fun _ _ _ => rfl) (fun c26 => ?_) (fun c26 => ?_)
            · skip
              refine zw_run 1 (pc' := 53) (loc' := [some (.int c)]) (stk' := [.int 0]) (fun _ _ _ => rfl) ?_
              exact J32 _ (by clear H J32; first | (simp [bI, *]; done) | (simp_all [bI]; done) | (exfalso; simp_all; done))
            · skip
              refine zw_run 2 (pc' := 45) (loc' := [some (.int c)]) (stk' := [.int 126, .int c]) (fun _ _ _ => rfl) ?_
              refine zw_br (c := 126 < c) (t1 := 52) (t2 := 48) (loc' := [some (.int c)]) (stk' := []) (fun _ _ _ => rfl) (fun c27 => ?_) (fun c27 => ?_)
              · skip
                refine zw_run 1 (pc' := 53) (loc' := [some (.int c)]) (stk' := [.int 0]) (fun _ _ _ => rfl) ?_
                exact J32 _ (by clear H J32; first | (simp [bI, *]; done) | (simp_all [bI]; done) | (exfalso; simp_all; done))
              · skip
                refine zw_run 2 (pc' := 53) (loc' := [some (.int c)]) (stk' := [.int 1]) (fun _ _ _ => rfl) ?_
                exact J32 _ (by clear H J32; first | (simp [bI, *]; done) | (simp_all [bI]; done) | (exfalso; simp_all; done))
          · skip
            refine zw_run 2 (pc' := 33) (loc' := [some (.int c)]) (stk' := [.int 96, .int c]) (fun _ _ _ => rfl) ?_
            refine zw_br (c := c ≤ 96) (t1 := 48) (t2 := 36) (loc' := [some (.int c)]) (stk' := []) (fun _ _ _ => rfl) (fun c28 => ?_) (fun c28 => ?_)
            · skip
              refine zw_run 2 (pc' := 53) (loc' := [some (.int c)]) (stk' := [.int 1]) (fun _ _ _ => rfl) ?_
              exact J32 _ (by clear H J32; first | (simp [bI, *]; done) | (simp_all [bI]; done) | (exfalso; simp_all; done))
            · skip
              refine zw_run 2 (pc' := 39) (loc' := [some (.int c)]) (stk' := [.int 123, .int c]) (fun _ _ _ => rfl) ?_
              refine zw_br (c := c < 123) (t1 := 52) (t2 := 42) (loc' := [some (.int c)]) (stk' := []) (fun _ _ _ => rfl) (fun c29 => ?_) (fun c29 => ?_)
              · skip
                refine zw_run 1 (pc' := 53) (loc' := [some (.int c)]) (stk' := [.int 0]) (fun _ _ _ => rfl) ?_
                exact J32 _ (by clear H J32; first | (simp [bI, *]; done) | (simp_all [bI]; done) | (exfalso; simp_all; done))
              · skip
                refine zw_run 2 (pc' := 45) (loc' := [some (.int c)]) (stk' := [.int 126, .int c]) (fun _ _ _ => rfl) ?_
                refine zw_br (c := 126 < c) (t1 := 52) (t2 := 48) (loc' := [some (.int c)]) (stk' := []) (fun _ _ _ => rfl) (fun c30 => ?_) (fun c30 => ?_)
                · skip
                  refine zw_run 1 (pc' := 53) (loc' := [some (.int c)]) (stk' := [.int 0]) (fun _ _ _ => rfl) ?_
                  exact J32 _ (by clear H J32; first | (simp [bI, *]; done) | (simp_all [bI]; done) | (exfalso; simp_all; done))
                · skip
                  refine zw_run 2 (pc' := 53) (loc' := [some (.int c)]) (stk' := [.int 1]) (fun _ _ _ => rfl) ?_
                  exact J32 _ (by clear H J32; first | (simp [bI, *]; done) | (simp_all [bI]; done) | (exfalso; simp_all; done))
theorem c_198 {fm : Value} {sx : Nat × (Nat → Int32)} {d : Nat} {Z : zr_Z} (c : Int32) : zl fm sx (d + 1) 198 [.int c] Z (fun r Z' => r = some (.int (bI (k_198 c))) ∧ Z' = Z) := by
  refine zl_of (nL := 1) (loc0 := [some (.int c)]) rfl rfl rfl (b_198 c ?_)
  exact ⟨rfl, rfl⟩
/-- MarkInlines$Signs.isPunctuation -/
def k_199 (c : Int32) : Bool := ((k_198 c) || ((decide (c = 161)) || ((decide (c = 167)) || ((decide (c = 171)) || ((decide (c = 182)) || ((decide (c = 183)) || ((decide (c = 187)) || (decide (c = 191)))))))))
set_option maxRecDepth 100000 in
set_option maxHeartbeats 1000000 in
theorem b_199 {fm : Value} {sx : Nat × (Nat → Int32)} {d : Nat} {Z : zr_Z} {Q : Option Value → zr_Z → Prop} (c : Int32) (H : Q (some (.int (bI ((k_198 c) || ((decide (c = 161)) || ((decide (c = 167)) || ((decide (c = 171)) || ((decide (c = 182)) || ((decide (c = 183)) || ((decide (c = 187)) || (decide (c = 191)))))))))))) Z) : zw fm sx (d + 1) 199 0 [some (.int c)] [] Z Q := by
  refine zw_run 1 (pc' := 1) (loc' := [some (.int c)]) (stk' := [.int c]) (fun _ _ _ => rfl) ?_
  refine zw_callf (As := [.int c]) (rest := []) (c_198 c (d := d + 0)) rfl rfl rfl rfl ?_
  show zw fm sx (d + 1) 199 4 [some (.int c)] [.int (bI (k_198 c))] Z Q
  have J10 : ∀ (v9 : Int32), v9 = (bI ((k_198 c) || ((decide (c = 161)) || ((decide (c = 167)) || ((decide (c = 171)) || ((decide (c = 182)) || ((decide (c = 183)) || ((decide (c = 187)) || (decide (c = 191)))))))))) → zw fm sx (d + 1) 199 61 [some (.int c)] [.int v9] Z Q := by
    intro v9 ev9
    subst ev9
    refine zw_retz rfl rfl (bI_01 _) ?_
    exact H
  refine zw_b1 (b := (k_198 c)) (t1 := 56) (t2 := 7) (loc' := [some (.int c)]) (stk' := []) (fun _ _ _ => rfl) (fun c1 => ?_) (fun c1 => ?_)
  · skip
    refine zw_run 2 (pc' := 61) (loc' := [some (.int c)]) (stk' := [.int 1]) (fun _ _ _ => rfl) ?_
    exact J10 _ (by clear H J10; first | (simp [bI, *]; done) | (simp_all [bI]; done) | (exfalso; simp_all; done))
  · skip
    refine zw_run 2 (pc' := 11) (loc' := [some (.int c)]) (stk' := [.int 161, .int c]) (fun _ _ _ => rfl) ?_
    refine zw_br (c := c = 161) (t1 := 56) (t2 := 14) (loc' := [some (.int c)]) (stk' := []) (fun _ _ _ => rfl) (fun c2 => ?_) (fun c2 => ?_)
    · skip
      refine zw_run 2 (pc' := 61) (loc' := [some (.int c)]) (stk' := [.int 1]) (fun _ _ _ => rfl) ?_
      exact J10 _ (by clear H J10; first | (simp [bI, *]; done) | (simp_all [bI]; done) | (exfalso; simp_all; done))
    · skip
      refine zw_run 2 (pc' := 18) (loc' := [some (.int c)]) (stk' := [.int 167, .int c]) (fun _ _ _ => rfl) ?_
      refine zw_br (c := c = 167) (t1 := 56) (t2 := 21) (loc' := [some (.int c)]) (stk' := []) (fun _ _ _ => rfl) (fun c3 => ?_) (fun c3 => ?_)
      · skip
        refine zw_run 2 (pc' := 61) (loc' := [some (.int c)]) (stk' := [.int 1]) (fun _ _ _ => rfl) ?_
        exact J10 _ (by clear H J10; first | (simp [bI, *]; done) | (simp_all [bI]; done) | (exfalso; simp_all; done))
      · skip
        refine zw_run 2 (pc' := 25) (loc' := [some (.int c)]) (stk' := [.int 171, .int c]) (fun _ _ _ => rfl) ?_
        refine zw_br (c := c = 171) (t1 := 56) (t2 := 28) (loc' := [some (.int c)]) (stk' := []) (fun _ _ _ => rfl) (fun c4 => ?_) (fun c4 => ?_)
        · skip
          refine zw_run 2 (pc' := 61) (loc' := [some (.int c)]) (stk' := [.int 1]) (fun _ _ _ => rfl) ?_
          exact J10 _ (by clear H J10; first | (simp [bI, *]; done) | (simp_all [bI]; done) | (exfalso; simp_all; done))
        · skip
          refine zw_run 2 (pc' := 32) (loc' := [some (.int c)]) (stk' := [.int 182, .int c]) (fun _ _ _ => rfl) ?_
          refine zw_br (c := c = 182) (t1 := 56) (t2 := 35) (loc' := [some (.int c)]) (stk' := []) (fun _ _ _ => rfl) (fun c5 => ?_) (fun c5 => ?_)
          · skip
            refine zw_run 2 (pc' := 61) (loc' := [some (.int c)]) (stk' := [.int 1]) (fun _ _ _ => rfl) ?_
            exact J10 _ (by clear H J10; first | (simp [bI, *]; done) | (simp_all [bI]; done) | (exfalso; simp_all; done))
          · skip
            refine zw_run 2 (pc' := 39) (loc' := [some (.int c)]) (stk' := [.int 183, .int c]) (fun _ _ _ => rfl) ?_
            refine zw_br (c := c = 183) (t1 := 56) (t2 := 42) (loc' := [some (.int c)]) (stk' := []) (fun _ _ _ => rfl) (fun c6 => ?_) (fun c6 => ?_)
            · skip
              refine zw_run 2 (pc' := 61) (loc' := [some (.int c)]) (stk' := [.int 1]) (fun _ _ _ => rfl) ?_
              exact J10 _ (by clear H J10; first | (simp [bI, *]; done) | (simp_all [bI]; done) | (exfalso; simp_all; done))
            · skip
              refine zw_run 2 (pc' := 46) (loc' := [some (.int c)]) (stk' := [.int 187, .int c]) (fun _ _ _ => rfl) ?_
              refine zw_br (c := c = 187) (t1 := 56) (t2 := 49) (loc' := [some (.int c)]) (stk' := []) (fun _ _ _ => rfl) (fun c7 => ?_) (fun c7 => ?_)
              · skip
                refine zw_run 2 (pc' := 61) (loc' := [some (.int c)]) (stk' := [.int 1]) (fun _ _ _ => rfl) ?_
                exact J10 _ (by clear H J10; first | (simp [bI, *]; done) | (simp_all [bI]; done) | (exfalso; simp_all; done))
              · skip
                refine zw_run 2 (pc' := 53) (loc' := [some (.int c)]) (stk' := [.int 191, .int c]) (fun _ _ _ => rfl) ?_
                refine zw_br (c := ¬ c = 191) (t1 := 60) (t2 := 56) (loc' := [some (.int c)]) (stk' := []) (fun _ _ _ => rfl) (fun c8 => ?_) (fun c8 => ?_)
                · skip
                  refine zw_run 1 (pc' := 61) (loc' := [some (.int c)]) (stk' := [.int 0]) (fun _ _ _ => rfl) ?_
                  exact J10 _ (by clear H J10; first | (simp [bI, *]; done) | (simp_all [bI]; done) | (exfalso; simp_all; done))
                · skip
                  refine zw_run 2 (pc' := 61) (loc' := [some (.int c)]) (stk' := [.int 1]) (fun _ _ _ => rfl) ?_
                  exact J10 _ (by clear H J10; first | (simp [bI, *]; done) | (simp_all [bI]; done) | (exfalso; simp_all; done))
theorem c_199 {fm : Value} {sx : Nat × (Nat → Int32)} {d : Nat} {Z : zr_Z} (c : Int32) : zl fm sx (d + 2) 199 [.int c] Z (fun r Z' => r = some (.int (bI (k_199 c))) ∧ Z' = Z) := by
  refine zl_of (nL := 1) (loc0 := [some (.int c)]) rfl rfl rfl (b_199 c ?_)
  exact ⟨rfl, rfl⟩
/-- MarkInlines$Signs.isForbidden -/
def k_200 (c : Int32) : Bool := (bif decide (32 ≤ c) then (decide (c = 65534)) || (decide (c = 65535)) else bif decide (c = 9) then (decide (c = 65534)) || (decide (c = 65535)) else bif decide (c = 10) then (decide (c = 65534)) || (decide (c = 65535)) else (!(decide (c = 13))) || ((decide (c = 65534)) || (decide (c = 65535))))
set_option maxRecDepth 100000 in
set_option maxHeartbeats 1000000 in
theorem b_200 {fm : Value} {sx : Nat × (Nat → Int32)} {d : Nat} {Z : zr_Z} {Q : Option Value → zr_Z → Prop} (c : Int32) (H : Q (some (.int (bI (bif decide (32 ≤ c) then (decide (c = 65534)) || (decide (c = 65535)) else bif decide (c = 9) then (decide (c = 65534)) || (decide (c = 65535)) else bif decide (c = 10) then (decide (c = 65534)) || (decide (c = 65535)) else (!(decide (c = 13))) || ((decide (c = 65534)) || (decide (c = 65535))))))) Z) : zw fm sx (d + 0) 200 0 [some (.int c)] [] Z Q := by
  refine zw_run 2 (pc' := 3) (loc' := [some (.int c)]) (stk' := [.int 32, .int c]) (fun _ _ _ => rfl) ?_
  have J14 : ∀ (v13 : Int32), v13 = (bI (bif decide (32 ≤ c) then (decide (c = 65534)) || (decide (c = 65535)) else bif decide (c = 9) then (decide (c = 65534)) || (decide (c = 65535)) else bif decide (c = 10) then (decide (c = 65534)) || (decide (c = 65535)) else (!(decide (c = 13))) || ((decide (c = 65534)) || (decide (c = 65535))))) → zw fm sx (d + 0) 200 41 [some (.int c)] [.int v13] Z Q := by
    intro v13 ev13
    subst ev13
    refine zw_retz rfl rfl (bI_01 _) ?_
    exact H
  refine zw_br (c := 32 ≤ c) (t1 := 24) (t2 := 6) (loc' := [some (.int c)]) (stk' := []) (fun _ _ _ => rfl) (fun c1 => ?_) (fun c1 => ?_)
  · skip
    refine zw_run 2 (pc' := 27) (loc' := [some (.int c)]) (stk' := [.int 65534, .int c]) (fun _ _ _ => rfl) ?_
    refine zw_br (c := c = 65534) (t1 := 36) (t2 := 30) (loc' := [some (.int c)]) (stk' := []) (fun _ _ _ => rfl) (fun c2 => ?_) (fun c2 => ?_)
    · skip
      refine zw_run 2 (pc' := 41) (loc' := [some (.int c)]) (stk' := [.int 1]) (fun _ _ _ => rfl) ?_
      exact J14 _ (by clear H J14; first | (simp [bI, *]; done) | (simp_all [bI]; done) | (exfalso; simp_all; done))
    · skip
      refine zw_run 2 (pc' := 33) (loc' := [some (.int c)]) (stk' := [.int 65535, .int c]) (fun _ _ _ => rfl) ?_
      refine zw_br (c := ¬ c = 65535) (t1 := 40) (t2 := 36) (loc' := [some (.int c)]) (stk' := []) (fun _ _ _ => rfl) (fun c3 => ?_) (fun c3 => ?_)
      · skip
        refine zw_run 1 (pc' := 41) (loc' := [some (.int c)]) (stk' := [.int 0]) (fun _ _ _ => rfl) ?_
        exact J14 _ (by clear H J14; first | (simp [bI, *]; done) | (simp_all [bI]; done) | (exfalso; simp_all; done))
      · skip
        refine zw_run 2 (pc' := 41) (loc' := [some (.int c)]) (stk' := [.int 1]) (fun _ _ _ => rfl) ?_
        exact J14 _ (by clear H J14; first | (simp [bI, *]; done) | (simp_all [bI]; done) | (exfalso; simp_all; done))
  · skip
    refine zw_run 2 (pc' := 9) (loc' := [some (.int c)]) (stk' := [.int 9, .int c]) (fun _ _ _ => rfl) ?_
    refine zw_br (c := c = 9) (t1 := 24) (t2 := 12) (loc' := [some (.int c)]) (stk' := []) (fun _ _ _ => rfl) (fun c4 => ?_) (fun c4 => ?_)
    · skip
      refine zw_run 2 (pc' := 27) (loc' := [some (.int c)]) (stk' := [.int 65534, .int c]) (fun _ _ _ => rfl) ?_
      refine zw_br (c := c = 65534) (t1 := 36) (t2 := 30) (loc' := [some (.int c)]) (stk' := []) (fun _ _ _ => rfl) (fun c5 => ?_) (fun c5 => ?_)
      · skip
        refine zw_run 2 (pc' := 41) (loc' := [some (.int c)]) (stk' := [.int 1]) (fun _ _ _ => rfl) ?_
        exact J14 _ (by clear H J14; first | (simp [bI, *]; done) | (simp_all [bI]; done) | (exfalso; simp_all; done))
      · skip
        refine zw_run 2 (pc' := 33) (loc' := [some (.int c)]) (stk' := [.int 65535, .int c]) (fun _ _ _ => rfl) ?_
        refine zw_br (c := ¬ c = 65535) (t1 := 40) (t2 := 36) (loc' := [some (.int c)]) (stk' := []) (fun _ _ _ => rfl) (fun c6 => ?_) (fun c6 => ?_)
        · skip
          refine zw_run 1 (pc' := 41) (loc' := [some (.int c)]) (stk' := [.int 0]) (fun _ _ _ => rfl) ?_
          exact J14 _ (by clear H J14; first | (simp [bI, *]; done) | (simp_all [bI]; done) | (exfalso; simp_all; done))
        · skip
          refine zw_run 2 (pc' := 41) (loc' := [some (.int c)]) (stk' := [.int 1]) (fun _ _ _ => rfl) ?_
          exact J14 _ (by clear H J14; first | (simp [bI, *]; done) | (simp_all [bI]; done) | (exfalso; simp_all; done))
    · skip
      refine zw_run 2 (pc' := 15) (loc' := [some (.int c)]) (stk' := [.int 10, .int c]) (fun _ _ _ => rfl) ?_
      refine zw_br (c := c = 10) (t1 := 24) (t2 := 18) (loc' := [some (.int c)]) (stk' := []) (fun _ _ _ => rfl) (fun c7 => ?_) (fun c7 => ?_)
      · skip
        refine zw_run 2 (pc' := 27) (loc' := [some (.int c)]) (stk' := [.int 65534, .int c]) (fun _ _ _ => rfl) ?_
        refine zw_br (c := c = 65534) (t1 := 36) (t2 := 30) (loc' := [some (.int c)]) (stk' := []) (fun _ _ _ => rfl) (fun c8 => ?_) (fun c8 => ?_)
        · skip
          refine zw_run 2 (pc' := 41) (loc' := [some (.int c)]) (stk' := [.int 1]) (fun _ _ _ => rfl) ?_
          exact J14 _ (by clear H J14; first | (simp [bI, *]; done) | (simp_all [bI]; done) | (exfalso; simp_all; done))
        · skip
          refine zw_run 2 (pc' := 33) (loc' := [some (.int c)]) (stk' := [.int 65535, .int c]) (fun _ _ _ => rfl) ?_
          refine zw_br (c := ¬ c = 65535) (t1 := 40) (t2 := 36) (loc' := [some (.int c)]) (stk' := []) (fun _ _ _ => rfl) (fun c9 => ?_) (fun c9 => ?_)
          · skip
            refine zw_run 1 (pc' := 41) (loc' := [some (.int c)]) (stk' := [.int 0]) (fun _ _ _ => rfl) ?_
            exact J14 _ (by clear H J14; first | (simp [bI, *]; done) | (simp_all [bI]; done) | (exfalso; simp_all; done))
          · skip
            refine zw_run 2 (pc' := 41) (loc' := [some (.int c)]) (stk' := [.int 1]) (fun _ _ _ => rfl) ?_
            exact J14 _ (by clear H J14; first | (simp [bI, *]; done) | (simp_all [bI]; done) | (exfalso; simp_all; done))
      · skip
        refine zw_run 2 (pc' := 21) (loc' := [some (.int c)]) (stk' := [.int 13, .int c]) (fun _ _ _ => rfl) ?_
        refine zw_br (c := ¬ c = 13) (t1 := 36) (t2 := 24) (loc' := [some (.int c)]) (stk' := []) (fun _ _ _ => rfl) (fun c10 => ?_) (fun c10 => ?_)
        · skip
          refine zw_run 2 (pc' := 41) (loc' := [some (.int c)]) (stk' := [.int 1]) (fun _ _ _ => rfl) ?_
          exact J14 _ (by clear H J14; first | (simp [bI, *]; done) | (simp_all [bI]; done) | (exfalso; simp_all; done))
        · skip
          refine zw_run 2 (pc' := 27) (loc' := [some (.int c)]) (stk' := [.int 65534, .int c]) (fun _ _ _ => rfl) ?_
          refine zw_br (c := c = 65534) (t1 := 36) (t2 := 30) (loc' := [some (.int c)]) (stk' := []) (fun _ _ _ => rfl) (fun c11 => ?_) (fun c11 => ?_)
          · skip
            refine zw_run 2 (pc' := 41) (loc' := [some (.int c)]) (stk' := [.int 1]) (fun _ _ _ => rfl) ?_
            exact J14 _ (by clear H J14; first | (simp [bI, *]; done) | (simp_all [bI]; done) | (exfalso; simp_all; done))
          · skip
            refine zw_run 2 (pc' := 33) (loc' := [some (.int c)]) (stk' := [.int 65535, .int c]) (fun _ _ _ => rfl) ?_
            refine zw_br (c := ¬ c = 65535) (t1 := 40) (t2 := 36) (loc' := [some (.int c)]) (stk' := []) (fun _ _ _ => rfl) (fun c12 => ?_) (fun c12 => ?_)
            · skip
              refine zw_run 1 (pc' := 41) (loc' := [some (.int c)]) (stk' := [.int 0]) (fun _ _ _ => rfl) ?_
              exact J14 _ (by clear H J14; first | (simp [bI, *]; done) | (simp_all [bI]; done) | (exfalso; simp_all; done))
            · skip
              refine zw_run 2 (pc' := 41) (loc' := [some (.int c)]) (stk' := [.int 1]) (fun _ _ _ => rfl) ?_
              exact J14 _ (by clear H J14; first | (simp [bI, *]; done) | (simp_all [bI]; done) | (exfalso; simp_all; done))
theorem c_200 {fm : Value} {sx : Nat × (Nat → Int32)} {d : Nat} {Z : zr_Z} (c : Int32) : zl fm sx (d + 1) 200 [.int c] Z (fun r Z' => r = some (.int (bI (k_200 c))) ∧ Z' = Z) := by
  refine zl_of (nL := 1) (loc0 := [some (.int c)]) rfl rfl rfl (b_200 c ?_)
  exact ⟨rfl, rfl⟩
/-- MarkInlines$Signs.isSchemeSign -/
def k_201 (c : Int32) : Bool := ((k_197 c) || ((decide (c = 43)) || ((decide (c = 45)) || (decide (c = 46)))))
set_option maxRecDepth 100000 in
set_option maxHeartbeats 1000000 in
theorem b_201 {fm : Value} {sx : Nat × (Nat → Int32)} {d : Nat} {Z : zr_Z} {Q : Option Value → zr_Z → Prop} (c : Int32) (H : Q (some (.int (bI ((k_197 c) || ((decide (c = 43)) || ((decide (c = 45)) || (decide (c = 46)))))))) Z) : zw fm sx (d + 1) 201 0 [some (.int c)] [] Z Q := by
  refine zw_run 1 (pc' := 1) (loc' := [some (.int c)]) (stk' := [.int c]) (fun _ _ _ => rfl) ?_
  refine zw_callf (As := [.int c]) (rest := []) (c_197 c (d := d + 0)) rfl rfl rfl rfl ?_
  show zw fm sx (d + 1) 201 4 [some (.int c)] [.int (bI (k_197 c))] Z Q
  have J6 : ∀ (v5 : Int32), v5 = (bI ((k_197 c) || ((decide (c = 43)) || ((decide (c = 45)) || (decide (c = 46)))))) → zw fm sx (d + 1) 201 30 [some (.int c)] [.int v5] Z Q := by
    intro v5 ev5
    subst ev5
    refine zw_retz rfl rfl (bI_01 _) ?_
    exact H
  refine zw_b1 (b := (k_197 c)) (t1 := 25) (t2 := 7) (loc' := [some (.int c)]) (stk' := []) (fun _ _ _ => rfl) (fun c1 => ?_) (fun c1 => ?_)
  · skip
    refine zw_run 2 (pc' := 30) (loc' := [some (.int c)]) (stk' := [.int 1]) (fun _ _ _ => rfl) ?_
    exact J6 _ (by clear H J6; first | (simp [bI, *]; done) | (simp_all [bI]; done) | (exfalso; simp_all; done))
  · skip
    refine zw_run 2 (pc' := 10) (loc' := [some (.int c)]) (stk' := [.int 43, .int c]) (fun _ _ _ => rfl) ?_
    refine zw_br (c := c = 43) (t1 := 25) (t2 := 13) (loc' := [some (.int c)]) (stk' := []) (fun _ _ _ => rfl) (fun c2 => ?_) (fun c2 => ?_)
    · skip
      refine zw_run 2 (pc' := 30) (loc' := [some (.int c)]) (stk' := [.int 1]) (fun _ _ _ => rfl) ?_
      exact J6 _ (by clear H J6; first | (simp [bI, *]; done) | (simp_all [bI]; done) | (exfalso; simp_all; done))
    · skip
      refine zw_run 2 (pc' := 16) (loc' := [some (.int c)]) (stk' := [.int 45, .int c]) (fun _ _ _ => rfl) ?_
      refine zw_br (c := c = 45) (t1 := 25) (t2 := 19) (loc' := [some (.int c)]) (stk' := []) (fun _ _ _ => rfl) (fun c3 => ?_) (fun c3 => ?_)
      · skip
        refine zw_run 2 (pc' := 30) (loc' := [some (.int c)]) (stk' := [.int 1]) (fun _ _ _ => rfl) ?_
        exact J6 _ (by clear H J6; first | (simp [bI, *]; done) | (simp_all [bI]; done) | (exfalso; simp_all; done))
      · skip
        refine zw_run 2 (pc' := 22) (loc' := [some (.int c)]) (stk' := [.int 46, .int c]) (fun _ _ _ => rfl) ?_
        refine zw_br (c := ¬ c = 46) (t1 := 29) (t2 := 25) (loc' := [some (.int c)]) (stk' := []) (fun _ _ _ => rfl) (fun c4 => ?_) (fun c4 => ?_)
        · skip
          refine zw_run 1 (pc' := 30) (loc' := [some (.int c)]) (stk' := [.int 0]) (fun _ _ _ => rfl) ?_
          exact J6 _ (by clear H J6; first | (simp [bI, *]; done) | (simp_all [bI]; done) | (exfalso; simp_all; done))
        · skip
          refine zw_run 2 (pc' := 30) (loc' := [some (.int c)]) (stk' := [.int 1]) (fun _ _ _ => rfl) ?_
          exact J6 _ (by clear H J6; first | (simp [bI, *]; done) | (simp_all [bI]; done) | (exfalso; simp_all; done))
theorem c_201 {fm : Value} {sx : Nat × (Nat → Int32)} {d : Nat} {Z : zr_Z} (c : Int32) : zl fm sx (d + 2) 201 [.int c] Z (fun r Z' => r = some (.int (bI (k_201 c))) ∧ Z' = Z) := by
  refine zl_of (nL := 1) (loc0 := [some (.int c)]) rfl rfl rfl (b_201 c ?_)
  exact ⟨rfl, rfl⟩
/-- MarkInlines$Signs.isMailSign -/
def k_190 (c : Int32) : Bool := ((k_197 c) || ((decide (c = 46)) || ((decide (c = 45)) || ((decide (c = 95)) || (decide (c = 43))))))
set_option maxRecDepth 100000 in
set_option maxHeartbeats 1000000 in
theorem b_190 {fm : Value} {sx : Nat × (Nat → Int32)} {d : Nat} {Z : zr_Z} {Q : Option Value → zr_Z → Prop} (c : Int32) (H : Q (some (.int (bI ((k_197 c) || ((decide (c = 46)) || ((decide (c = 45)) || ((decide (c = 95)) || (decide (c = 43))))))))) Z) : zw fm sx (d + 1) 190 0 [some (.int c)] [] Z Q := by
  refine zw_run 1 (pc' := 1) (loc' := [some (.int c)]) (stk' := [.int c]) (fun _ _ _ => rfl) ?_
  refine zw_callf (As := [.int c]) (rest := []) (c_197 c (d := d + 0)) rfl rfl rfl rfl ?_
  show zw fm sx (d + 1) 190 4 [some (.int c)] [.int (bI (k_197 c))] Z Q
  have J7 : ∀ (v6 : Int32), v6 = (bI ((k_197 c) || ((decide (c = 46)) || ((decide (c = 45)) || ((decide (c = 95)) || (decide (c = 43))))))) → zw fm sx (d + 1) 190 36 [some (.int c)] [.int v6] Z Q := by
    intro v6 ev6
    subst ev6
    refine zw_retz rfl rfl (bI_01 _) ?_
    exact H
  refine zw_b1 (b := (k_197 c)) (t1 := 31) (t2 := 7) (loc' := [some (.int c)]) (stk' := []) (fun _ _ _ => rfl) (fun c1 => ?_) (fun c1 => ?_)
  · skip
    refine zw_run 2 (pc' := 36) (loc' := [some (.int c)]) (stk' := [.int 1]) (fun _ _ _ => rfl) ?_
    exact J7 _ (by clear H J7; first | (simp [bI, *]; done) | (simp_all [bI]; done) | (exfalso; simp_all; done))
  · skip
    refine zw_run 2 (pc' := 10) (loc' := [some (.int c)]) (stk' := [.int 46, .int c]) (fun _ _ _ => rfl) ?_
    refine zw_br (c := c = 46) (t1 := 31) (t2 := 13) (loc' := [some (.int c)]) (stk' := []) (fun _ _ _ => rfl) (fun c2 => ?_) (fun c2 => ?_)
    · skip
      refine zw_run 2 (pc' := 36) (loc' := [some (.int c)]) (stk' := [.int 1]) (fun _ _ _ => rfl) ?_
      exact J7 _ (by clear H J7; first | (simp [bI, *]; done) | (simp_all [bI]; done) | (exfalso; simp_all; done))
    · skip
      refine zw_run 2 (pc' := 16) (loc' := [some (.int c)]) (stk' := [.int 45, .int c]) (fun _ _ _ => rfl) ?_
      refine zw_br (c := c = 45) (t1 := 31) (t2 := 19) (loc' := [some (.int c)]) (stk' := []) (fun _ _ _ => rfl) (fun c3 => ?_) (fun c3 => ?_)
      · skip
        refine zw_run 2 (pc' := 36) (loc' := [some (.int c)]) (stk' := [.int 1]) (fun _ _ _ => rfl) ?_
        exact J7 _ (by clear H J7; first | (simp [bI, *]; done) | (simp_all [bI]; done) | (exfalso; simp_all; done))
      · skip
        refine zw_run 2 (pc' := 22) (loc' := [some (.int c)]) (stk' := [.int 95, .int c]) (fun _ _ _ => rfl) ?_
        refine zw_br (c := c = 95) (t1 := 31) (t2 := 25) (loc' := [some (.int c)]) (stk' := []) (fun _ _ _ => rfl) (fun c4 => ?_) (fun c4 => ?_)
        · skip
          refine zw_run 2 (pc' := 36) (loc' := [some (.int c)]) (stk' := [.int 1]) (fun _ _ _ => rfl) ?_
          exact J7 _ (by clear H J7; first | (simp [bI, *]; done) | (simp_all [bI]; done) | (exfalso; simp_all; done))
        · skip
          refine zw_run 2 (pc' := 28) (loc' := [some (.int c)]) (stk' := [.int 43, .int c]) (fun _ _ _ => rfl) ?_
          refine zw_br (c := ¬ c = 43) (t1 := 35) (t2 := 31) (loc' := [some (.int c)]) (stk' := []) (fun _ _ _ => rfl) (fun c5 => ?_) (fun c5 => ?_)
          · skip
            refine zw_run 1 (pc' := 36) (loc' := [some (.int c)]) (stk' := [.int 0]) (fun _ _ _ => rfl) ?_
            exact J7 _ (by clear H J7; first | (simp [bI, *]; done) | (simp_all [bI]; done) | (exfalso; simp_all; done))
          · skip
            refine zw_run 2 (pc' := 36) (loc' := [some (.int c)]) (stk' := [.int 1]) (fun _ _ _ => rfl) ?_
            exact J7 _ (by clear H J7; first | (simp [bI, *]; done) | (simp_all [bI]; done) | (exfalso; simp_all; done))
theorem c_190 {fm : Value} {sx : Nat × (Nat → Int32)} {d : Nat} {Z : zr_Z} (c : Int32) : zl fm sx (d + 2) 190 [.int c] Z (fun r Z' => r = some (.int (bI (k_190 c))) ∧ Z' = Z) := by
  refine zl_of (nL := 1) (loc0 := [some (.int c)]) rfl rfl rfl (b_190 c ?_)
  exact ⟨rfl, rfl⟩
/-- MarkInlines$Signs.isAddressSign -/
def k_191 (c : Int32) : Bool := ((!(decide (c ≤ 32))) && ((!(decide (c = 60))) && ((!(decide (c = 62))) && (!(decide (c = 127))))))
set_option maxRecDepth 100000 in
set_option maxHeartbeats 1000000 in
theorem b_191 {fm : Value} {sx : Nat × (Nat → Int32)} {d : Nat} {Z : zr_Z} {Q : Option Value → zr_Z → Prop} (c : Int32) (H : Q (some (.int (bI ((!(decide (c ≤ 32))) && ((!(decide (c = 60))) && ((!(decide (c = 62))) && (!(decide (c = 127))))))))) Z) : zw fm sx (d + 0) 191 0 [some (.int c)] [] Z Q := by
  refine zw_run 2 (pc' := 3) (loc' := [some (.int c)]) (stk' := [.int 32, .int c]) (fun _ _ _ => rfl) ?_
  have J6 : ∀ (v5 : Int32), v5 = (bI ((!(decide (c ≤ 32))) && ((!(decide (c = 60))) && ((!(decide (c = 62))) && (!(decide (c = 127))))))) → zw fm sx (d + 0) 191 29 [some (.int c)] [.int v5] Z Q := by
    intro v5 ev5
    subst ev5
    refine zw_retz rfl rfl (bI_01 _) ?_
    exact H
  refine zw_br (c := c ≤ 32) (t1 := 28) (t2 := 6) (loc' := [some (.int c)]) (stk' := []) (fun _ _ _ => rfl) (fun c1 => ?_) (fun c1 => ?_)
  · skip
    refine zw_run 1 (pc' := 29) (loc' := [some (.int c)]) (stk' := [.int 0]) (fun _ _ _ => rfl) ?_
    exact J6 _ (by clear H J6; first | (simp [bI, *]; done) | (simp_all [bI]; done) | (exfalso; simp_all; done))
  · skip
    refine zw_run 2 (pc' := 9) (loc' := [some (.int c)]) (stk' := [.int 60, .int c]) (fun _ _ _ => rfl) ?_
    refine zw_br (c := c = 60) (t1 := 28) (t2 := 12) (loc' := [some (.int c)]) (stk' := []) (fun _ _ _ => rfl) (fun c2 => ?_) (fun c2 => ?_)
    · skip
      refine zw_run 1 (pc' := 29) (loc' := [some (.int c)]) (stk' := [.int 0]) (fun _ _ _ => rfl) ?_
      exact J6 _ (by clear H J6; first | (simp [bI, *]; done) | (simp_all [bI]; done) | (exfalso; simp_all; done))
    · skip
      refine zw_run 2 (pc' := 15) (loc' := [some (.int c)]) (stk' := [.int 62, .int c]) (fun _ _ _ => rfl) ?_
      refine zw_br (c := c = 62) (t1 := 28) (t2 := 18) (loc' := [some (.int c)]) (stk' := []) (fun _ _ _ => rfl) (fun c3 => ?_) (fun c3 => ?_)
      · skip
        refine zw_run 1 (pc' := 29) (loc' := [some (.int c)]) (stk' := [.int 0]) (fun _ _ _ => rfl) ?_
        exact J6 _ (by clear H J6; first | (simp [bI, *]; done) | (simp_all [bI]; done) | (exfalso; simp_all; done))
      · skip
        refine zw_run 2 (pc' := 21) (loc' := [some (.int c)]) (stk' := [.int 127, .int c]) (fun _ _ _ => rfl) ?_
        refine zw_br (c := c = 127) (t1 := 28) (t2 := 24) (loc' := [some (.int c)]) (stk' := []) (fun _ _ _ => rfl) (fun c4 => ?_) (fun c4 => ?_)
        · skip
          refine zw_run 1 (pc' := 29) (loc' := [some (.int c)]) (stk' := [.int 0]) (fun _ _ _ => rfl) ?_
          exact J6 _ (by clear H J6; first | (simp [bI, *]; done) | (simp_all [bI]; done) | (exfalso; simp_all; done))
        · skip
          refine zw_run 2 (pc' := 29) (loc' := [some (.int c)]) (stk' := [.int 1]) (fun _ _ _ => rfl) ?_
          exact J6 _ (by clear H J6; first | (simp [bI, *]; done) | (simp_all [bI]; done) | (exfalso; simp_all; done))
theorem c_191 {fm : Value} {sx : Nat × (Nat → Int32)} {d : Nat} {Z : zr_Z} (c : Int32) : zl fm sx (d + 1) 191 [.int c] Z (fun r Z' => r = some (.int (bI (k_191 c))) ∧ Z' = Z) := by
  refine zl_of (nL := 1) (loc0 := [some (.int c)]) rfl rfl rfl (b_191 c ?_)
  exact ⟨rfl, rfl⟩
/-- MarkInlines$Signs.small -/
def k_192 (c : Int32) : Int32 := (if c < 65 then c else (if 90 < c then c else (c + 32)))
set_option maxRecDepth 100000 in
set_option maxHeartbeats 1000000 in
theorem b_192 {fm : Value} {sx : Nat × (Nat → Int32)} {d : Nat} {Z : zr_Z} {Q : Option Value → zr_Z → Prop} (c : Int32) (H : Q (some (.int (if c < 65 then c else (if 90 < c then c else (c + 32))))) Z) : zw fm sx (d + 0) 192 0 [some (.int c)] [] Z Q := by
  refine zw_run 2 (pc' := 3) (loc' := [some (.int c)]) (stk' := [.int 65, .int c]) (fun _ _ _ => rfl) ?_
  have J4 : ∀ (v3 : Int32), v3 = (if c < 65 then c else (if 90 < c then c else (c + 32))) → zw fm sx (d + 0) 192 20 [some (.int c)] [.int v3] Z Q := by
    intro v3 ev3
    subst ev3
    refine zw_reti (i := .nop) rfl rfl ?_
    exact H
  refine zw_br (c := c < 65) (t1 := 19) (t2 := 6) (loc' := [some (.int c)]) (stk' := []) (fun _ _ _ => rfl) (fun c1 => ?_) (fun c1 => ?_)
  · skip
    refine zw_run 1 (pc' := 20) (loc' := [some (.int c)]) (stk' := [.int c]) (fun _ _ _ => rfl) ?_
    exact J4 _ (by clear H J4; first | (simp [bI, *]; done) | (simp_all [bI]; done) | (exfalso; simp_all; done))
  · skip
    refine zw_run 2 (pc' := 9) (loc' := [some (.int c)]) (stk' := [.int 90, .int c]) (fun _ _ _ => rfl) ?_
    refine zw_br (c := 90 < c) (t1 := 19) (t2 := 12) (loc' := [some (.int c)]) (stk' := []) (fun _ _ _ => rfl) (fun c2 => ?_) (fun c2 => ?_)
    · skip
      refine zw_run 1 (pc' := 20) (loc' := [some (.int c)]) (stk' := [.int c]) (fun _ _ _ => rfl) ?_
      exact J4 _ (by clear H J4; first | (simp [bI, *]; done) | (simp_all [bI]; done) | (exfalso; simp_all; done))
    · skip
      refine zw_run 4 (pc' := 20) (loc' := [some (.int c)]) (stk' := [.int (c + 32)]) (fun _ _ _ => rfl) ?_
      exact J4 _ (by clear H J4; first | (simp [bI, *]; done) | (simp_all [bI]; done) | (exfalso; simp_all; done))
theorem c_192 {fm : Value} {sx : Nat × (Nat → Int32)} {d : Nat} {Z : zr_Z} (c : Int32) : zl fm sx (d + 1) 192 [.int c] Z (fun r Z' => r = some (.int (k_192 c)) ∧ Z' = Z) := by
  refine zl_of (nL := 1) (loc0 := [some (.int c)]) rfl rfl rfl (b_192 c ?_)
  exact ⟨rfl, rfl⟩
/-- MarkInlines$Signs.worth -/
def k_193 (c : Int32) (base : Int32) : Int32 := (if base ≤ (if c < 48 then (if c < 65 then (if c < 97 then (-1) else (if 122 < c then (-1) else ((c - 97) + 10))) else (if 90 < c then (if c < 97 then (-1) else (if 122 < c then (-1) else ((c - 97) + 10))) else ((c - 65) + 10))) else (if 57 < c then (if c < 65 then (if c < 97 then (-1) else (if 122 < c then (-1) else ((c - 97) + 10))) else (if 90 < c then (if c < 97 then (-1) else (if 122 < c then (-1) else ((c - 97) + 10))) else ((c - 65) + 10))) else (c - 48))) then (-1) else (if c < 48 then (if c < 65 then (if c < 97 then (-1) else (if 122 < c then (-1) else ((c - 97) + 10))) else (if 90 < c then (if c < 97 then (-1) else (if 122 < c then (-1) else ((c - 97) + 10))) else ((c - 65) + 10))) else (if 57 < c then (if c < 65 then (if c < 97 then (-1) else (if 122 < c then (-1) else ((c - 97) + 10))) else (if 90 < c then (if c < 97 then (-1) else (if 122 < c then (-1) else ((c - 97) + 10))) else ((c - 65) + 10))) else (c - 48))))
set_option maxRecDepth 100000 in
set_option maxHeartbeats 1000000 in
theorem b_193 {fm : Value} {sx : Nat × (Nat → Int32)} {d : Nat} {Z : zr_Z} {Q : Option Value → zr_Z → Prop} (c : Int32) (base : Int32) (H : Q (some (.int (if base ≤ (if c < 48 then (if c < 65 then (if c < 97 then (-1) else (if 122 < c then (-1) else ((c - 97) + 10))) else (if 90 < c then (if c < 97 then (-1) else (if 122 < c then (-1) else ((c - 97) + 10))) else ((c - 65) + 10))) else (if 57 < c then (if c < 65 then (if c < 97 then (-1) else (if 122 < c then (-1) else ((c - 97) + 10))) else (if 90 < c then (if c < 97 then (-1) else (if 122 < c then (-1) else ((c - 97) + 10))) else ((c - 65) + 10))) else (c - 48))) then (-1) else (if c < 48 then (if c < 65 then (if c < 97 then (-1) else (if 122 < c then (-1) else ((c - 97) + 10))) else (if 90 < c then (if c < 97 then (-1) else (if 122 < c then (-1) else ((c - 97) + 10))) else ((c - 65) + 10))) else (if 57 < c then (if c < 65 then (if c < 97 then (-1) else (if 122 < c then (-1) else ((c - 97) + 10))) else (if 90 < c then (if c < 97 then (-1) else (if 122 < c then (-1) else ((c - 97) + 10))) else ((c - 65) + 10))) else (c - 48)))))) Z) : zw fm sx (d + 0) 193 0 [some (.int c), some (.int base), none] [] Z Q := by
  refine zw_run 4 (pc' := 5) (loc' := [some (.int c), some (.int base), some (.int (-1))]) (stk' := [.int 48, .int c]) (fun _ _ _ => rfl) ?_
  have J16 : ∀ (v15 : Int32), v15 = (if c < 48 then (if c < 65 then (if c < 97 then (-1) else (if 122 < c then (-1) else ((c - 97) + 10))) else (if 90 < c then (if c < 97 then (-1) else (if 122 < c then (-1) else ((c - 97) + 10))) else ((c - 65) + 10))) else (if 57 < c then (if c < 65 then (if c < 97 then (-1) else (if 122 < c then (-1) else ((c - 97) + 10))) else (if 90 < c then (if c < 97 then (-1) else (if 122 < c then (-1) else ((c - 97) + 10))) else ((c - 65) + 10))) else (c - 48))) → zw fm sx (d + 0) 193 65 [some (.int c), some (.int base), some (.int v15)] [] Z Q := by
    intro v15 ev15
    subst ev15
    refine zw_run 2 (pc' := 67) (loc' := [some (.int c), some (.int base), some (.int (if c < 48 then (if c < 65 then (if c < 97 then (-1) else (if 122 < c then (-1) else ((c - 97) + 10))) else (if 90 < c then (if c < 97 then (-1) else (if 122 < c then (-1) else ((c - 97) + 10))) else ((c - 65) + 10))) else (if 57 < c then (if c < 65 then (if c < 97 then (-1) else (if 122 < c then (-1) else ((c - 97) + 10))) else (if 90 < c then (if c < 97 then (-1) else (if 122 < c then (-1) else ((c - 97) + 10))) else ((c - 65) + 10))) else (c - 48))))]) (stk' := [.int base, .int (if c < 48 then (if c < 65 then (if c < 97 then (-1) else (if 122 < c then (-1) else ((c - 97) + 10))) else (if 90 < c then (if c < 97 then (-1) else (if 122 < c then (-1) else ((c - 97) + 10))) else ((c - 65) + 10))) else (if 57 < c then (if c < 65 then (if c < 97 then (-1) else (if 122 < c then (-1) else ((c - 97) + 10))) else (if 90 < c then (if c < 97 then (-1) else (if 122 < c then (-1) else ((c - 97) + 10))) else ((c - 65) + 10))) else (c - 48)))]) (fun _ _ _ => rfl) ?_
    have J19 : ∀ (v18 : Int32), v18 = (if base ≤ (if c < 48 then (if c < 65 then (if c < 97 then (-1) else (if 122 < c then (-1) else ((c - 97) + 10))) else (if 90 < c then (if c < 97 then (-1) else (if 122 < c then (-1) else ((c - 97) + 10))) else ((c - 65) + 10))) else (if 57 < c then (if c < 65 then (if c < 97 then (-1) else (if 122 < c then (-1) else ((c - 97) + 10))) else (if 90 < c then (if c < 97 then (-1) else (if 122 < c then (-1) else ((c - 97) + 10))) else ((c - 65) + 10))) else (c - 48))) then (-1) else (if c < 48 then (if c < 65 then (if c < 97 then (-1) else (if 122 < c then (-1) else ((c - 97) + 10))) else (if 90 < c then (if c < 97 then (-1) else (if 122 < c then (-1) else ((c - 97) + 10))) else ((c - 65) + 10))) else (if 57 < c then (if c < 65 then (if c < 97 then (-1) else (if 122 < c then (-1) else ((c - 97) + 10))) else (if 90 < c then (if c < 97 then (-1) else (if 122 < c then (-1) else ((c - 97) + 10))) else ((c - 65) + 10))) else (c - 48)))) → zw fm sx (d + 0) 193 75 [some (.int c), some (.int base), some (.int (if c < 48 then (if c < 65 then (if c < 97 then (-1) else (if 122 < c then (-1) else ((c - 97) + 10))) else (if 90 < c then (if c < 97 then (-1) else (if 122 < c then (-1) else ((c - 97) + 10))) else ((c - 65) + 10))) else (if 57 < c then (if c < 65 then (if c < 97 then (-1) else (if 122 < c then (-1) else ((c - 97) + 10))) else (if 90 < c then (if c < 97 then (-1) else (if 122 < c then (-1) else ((c - 97) + 10))) else ((c - 65) + 10))) else (c - 48))))] [.int v18] Z Q := by
      intro v18 ev18
      subst ev18
      refine zw_reti (i := .nop) rfl rfl ?_
      exact H
    refine zw_br (c := base ≤ (if c < 48 then (if c < 65 then (if c < 97 then (-1) else (if 122 < c then (-1) else ((c - 97) + 10))) else (if 90 < c then (if c < 97 then (-1) else (if 122 < c then (-1) else ((c - 97) + 10))) else ((c - 65) + 10))) else (if 57 < c then (if c < 65 then (if c < 97 then (-1) else (if 122 < c then (-1) else ((c - 97) + 10))) else (if 90 < c then (if c < 97 then (-1) else (if 122 < c then (-1) else ((c - 97) + 10))) else ((c - 65) + 10))) else (c - 48)))) (t1 := 74) (t2 := 70) (loc' := [some (.int c), some (.int base), some (.int (if c < 48 then (if c < 65 then (if c < 97 then (-1) else (if 122 < c then (-1) else ((c - 97) + 10))) else (if 90 < c then (if c < 97 then (-1) else (if 122 < c then (-1) else ((c - 97) + 10))) else ((c - 65) + 10))) else (if 57 < c then (if c < 65 then (if c < 97 then (-1) else (if 122 < c then (-1) else ((c - 97) + 10))) else (if 90 < c then (if c < 97 then (-1) else (if 122 < c then (-1) else ((c - 97) + 10))) else ((c - 65) + 10))) else (c - 48))))]) (stk' := []) (fun _ _ _ => rfl) (fun c17 => ?_) (fun c17 => ?_)
    · skip
      refine zw_run 1 (pc' := 75) (loc' := [some (.int c), some (.int base), some (.int (if c < 48 then (if c < 65 then (if c < 97 then (-1) else (if 122 < c then (-1) else ((c - 97) + 10))) else (if 90 < c then (if c < 97 then (-1) else (if 122 < c then (-1) else ((c - 97) + 10))) else ((c - 65) + 10))) else (if 57 < c then (if c < 65 then (if c < 97 then (-1) else (if 122 < c then (-1) else ((c - 97) + 10))) else (if 90 < c then (if c < 97 then (-1) else (if 122 < c then (-1) else ((c - 97) + 10))) else ((c - 65) + 10))) else (c - 48))))]) (stk' := [.int (-1)]) (fun _ _ _ => rfl) ?_
      exact J19 _ (by clear H J19; first | (simp [bI, *]; done) | (simp_all [bI]; done) | (exfalso; simp_all; done))
    · skip
      refine zw_run 2 (pc' := 75) (loc' := [some (.int c), some (.int base), some (.int (if c < 48 then (if c < 65 then (if c < 97 then (-1) else (if 122 < c then (-1) else ((c - 97) + 10))) else (if 90 < c then (if c < 97 then (-1) else (if 122 < c then (-1) else ((c - 97) + 10))) else ((c - 65) + 10))) else (if 57 < c then (if c < 65 then (if c < 97 then (-1) else (if 122 < c then (-1) else ((c - 97) + 10))) else (if 90 < c then (if c < 97 then (-1) else (if 122 < c then (-1) else ((c - 97) + 10))) else ((c - 65) + 10))) else (c - 48))))]) (stk' := [.int (if c < 48 then (if c < 65 then (if c < 97 then (-1) else (if 122 < c then (-1) else ((c - 97) + 10))) else (if 90 < c then (if c < 97 then (-1) else (if 122 < c then (-1) else ((c - 97) + 10))) else ((c - 65) + 10))) else (if 57 < c then (if c < 65 then (if c < 97 then (-1) else (if 122 < c then (-1) else ((c - 97) + 10))) else (if 90 < c then (if c < 97 then (-1) else (if 122 < c then (-1) else ((c - 97) + 10))) else ((c - 65) + 10))) else (c - 48)))]) (fun _ _ _ => rfl) ?_
      exact J19 _ (by clear H J19; first | (simp [bI, *]; done) | (simp_all [bI]; done) | (exfalso; simp_all; done))
  refine zw_br (c := c < 48) (t1 := 22) (t2 := 8) (loc' := [some (.int c), some (.int base), some (.int (-1))]) (stk' := []) (fun _ _ _ => rfl) (fun c1 => ?_) (fun c1 => ?_)
  · skip
    refine zw_run 2 (pc' := 25) (loc' := [some (.int c), some (.int base), some (.int (-1))]) (stk' := [.int 65, .int c]) (fun _ _ _ => rfl) ?_
    refine zw_br (c := c < 65) (t1 := 45) (t2 := 28) (loc' := [some (.int c), some (.int base), some (.int (-1))]) (stk' := []) (fun _ _ _ => rfl) (fun c2 => ?_) (fun c2 => ?_)
    · skip
      refine zw_run 2 (pc' := 48) (loc' := [some (.int c), some (.int base), some (.int (-1))]) (stk' := [.int 97, .int c]) (fun _ _ _ => rfl) ?_
      refine zw_br (c := c < 97) (t1 := 65) (t2 := 51) (loc' := [some (.int c), some (.int base), some (.int (-1))]) (stk' := []) (fun _ _ _ => rfl) (fun c3 => ?_) (fun c3 => ?_)
      · skip
        exact J16 _ (by clear H J16; first | (simp [bI, *]; done) | (simp_all [bI]; done) | (exfalso; simp_all; done))
      · skip
        refine zw_run 2 (pc' := 54) (loc' := [some (.int c), some (.int base), some (.int (-1))]) (stk' := [.int 122, .int c]) (fun _ _ _ => rfl) ?_
        refine zw_br (c := 122 < c) (t1 := 65) (t2 := 57) (loc' := [some (.int c), some (.int base), some (.int (-1))]) (stk' := []) (fun _ _ _ => rfl) (fun c4 => ?_) (fun c4 => ?_)
        · skip
          exact J16 _ (by clear H J16; first | (simp [bI, *]; done) | (simp_all [bI]; done) | (exfalso; simp_all; done))
        · skip
          refine zw_run 6 (pc' := 65) (loc' := [some (.int c), some (.int base), some (.int ((c - 97) + 10))]) (stk' := []) (fun _ _ _ => rfl) ?_
          exact J16 _ (by clear H J16; first | (simp [bI, *]; done) | (simp_all [bI]; done) | (exfalso; simp_all; done))
    · skip
      refine zw_run 2 (pc' := 31) (loc' := [some (.int c), some (.int base), some (.int (-1))]) (stk' := [.int 90, .int c]) (fun _ _ _ => rfl) ?_
      refine zw_br (c := 90 < c) (t1 := 45) (t2 := 34) (loc' := [some (.int c), some (.int base), some (.int (-1))]) (stk' := []) (fun _ _ _ => rfl) (fun c5 => ?_) (fun c5 => ?_)
      · skip
        refine zw_run 2 (pc' := 48) (loc' := [some (.int c), some (.int base), some (.int (-1))]) (stk' := [.int 97, .int c]) (fun _ _ _ => rfl) ?_
        refine zw_br (c := c < 97) (t1 := 65) (t2 := 51) (loc' := [some (.int c), some (.int base), some (.int (-1))]) (stk' := []) (fun _ _ _ => rfl) (fun c6 => ?_) (fun c6 => ?_)
        · skip
          exact J16 _ (by clear H J16; first | (simp [bI, *]; done) | (simp_all [bI]; done) | (exfalso; simp_all; done))
        · skip
          refine zw_run 2 (pc' := 54) (loc' := [some (.int c), some (.int base), some (.int (-1))]) (stk' := [.int 122, .int c]) (fun _ _ _ => rfl) ?_
          refine zw_br (c := 122 < c) (t1 := 65) (t2 := 57) (loc' := [some (.int c), some (.int base), some (.int (-1))]) (stk' := []) (fun _ _ _ => rfl) (fun c7 => ?_) (fun c7 => ?_)
          · skip
            exact J16 _ (by clear H J16; first | (simp [bI, *]; done) | (simp_all [bI]; done) | (exfalso; simp_all; done))
          · skip
            refine zw_run 6 (pc' := 65) (loc' := [some (.int c), some (.int base), some (.int ((c - 97) + 10))]) (stk' := []) (fun _ _ _ => rfl) ?_
            exact J16 _ (by clear H J16; first | (simp [bI, *]; done) | (simp_all [bI]; done) | (exfalso; simp_all; done))
      · skip
        refine zw_run 7 (pc' := 65) (loc' := [some (.int c), some (.int base), some (.int ((c - 65) + 10))]) (stk' := []) (fun _ _ _ => rfl) ?_
        exact J16 _ (by clear H J16; first | (simp [bI, *]; done) | (simp_all [bI]; done) | (exfalso; simp_all; done))
  · skip
    refine zw_run 2 (pc' := 11) (loc' := [some (.int c), some (.int base), some (.int (-1))]) (stk' := [.int 57, .int c]) (fun _ _ _ => rfl) ?_
    refine zw_br (c := 57 < c) (t1 := 22) (t2 := 14) (loc' := [some (.int c), some (.int base), some (.int (-1))]) (stk' := []) (fun _ _ _ => rfl) (fun c8 => ?_) (fun c8 => ?_)
    · skip
      refine zw_run 2 (pc' := 25) (loc' := [some (.int c), some (.int base), some (.int (-1))]) (stk' := [.int 65, .int c]) (fun _ _ _ => rfl) ?_
      refine zw_br (c := c < 65) (t1 := 45) (t2 := 28) (loc' := [some (.int c), some (.int base), some (.int (-1))]) (stk' := []) (fun _ _ _ => rfl) (fun c9 => ?_) (fun c9 => ?_)
      · skip
        refine zw_run 2 (pc' := 48) (loc' := [some (.int c), some (.int base), some (.int (-1))]) (stk' := [.int 97, .int c]) (fun _ _ _ => rfl) ?_
        refine zw_br (c := c < 97) (t1 := 65) (t2 := 51) (loc' := [some (.int c), some (.int base), some (.int (-1))]) (stk' := []) (fun _ _ _ => rfl) (fun c10 => ?_) (fun c10 => ?_)
        · skip
          exact J16 _ (by clear H J16; first | (simp [bI, *]; done) | (simp_all [bI]; done) | (exfalso; simp_all; done))
        · skip
          refine zw_run 2 (pc' := 54) (loc' := [some (.int c), some (.int base), some (.int (-1))]) (stk' := [.int 122, .int c]) (fun _ _ _ => rfl) ?_
          refine zw_br (c := 122 < c) (t1 := 65) (t2 := 57) (loc' := [some (.int c), some (.int base), some (.int (-1))]) (stk' := []) (fun _ _ _ => rfl) (fun c11 => ?_) (fun c11 => ?_)
          · skip
            exact J16 _ (by clear H J16; first | (simp [bI, *]; done) | (simp_all [bI]; done) | (exfalso; simp_all; done))
          · skip
            refine zw_run 6 (pc' := 65) (loc' := [some (.int c), some (.int base), some (.int ((c - 97) + 10))]) (stk' := []) (fun _ _ _ => rfl) ?_
            exact J16 _ (by clear H J16; first | (simp [bI, *]; done) | (simp_all [bI]; done) | (exfalso; simp_all; done))
      · skip
        refine zw_run 2 (pc' := 31) (loc' := [some (.int c), some (.int base), some (.int (-1))]) (stk' := [.int 90, .int c]) (fun _ _ _ => rfl) ?_
        refine zw_br (c := 90 < c) (t1 := 45) (t2 := 34) (loc' := [some (.int c), some (.int base), some (.int (-1))]) (stk' := []) (fun _ _ _ => rfl) (fun c12 => ?_) (fun c12 => ?_)
        · skip
          refine zw_run 2 (pc' := 48) (loc' := [some (.int c), some (.int base), some (.int (-1))]) (stk' := [.int 97, .int c]) (fun _ _ _ => rfl) ?_
          refine zw_br (c := c < 97) (t1 := 65) (t2 := 51) (loc' := [some (.int c), some (.int base), some (.int (-1))]) (stk' := []) (fun _ _ _ => rfl) (fun c13 => ?_) (fun c13 => ?_)
          · skip
            exact J16 _ (by clear H J16; first | (simp [bI, *]; done) | (simp_all [bI]; done) | (exfalso; simp_all; done))
          · skip
            refine zw_run 2 (pc' := 54) (loc' := [some (.int c), some (.int base), some (.int (-1))]) (stk' := [.int 122, .int c]) (fun _ _ _ => rfl) ?_
            refine zw_br (c := 122 < c) (t1 := 65) (t2 := 57) (loc' := [some (.int c), some (.int base), some (.int (-1))]) (stk' := []) (fun _ _ _ => rfl) (fun c14 => ?_) (fun c14 => ?_)
            · skip
              exact J16 _ (by clear H J16; first | (simp [bI, *]; done) | (simp_all [bI]; done) | (exfalso; simp_all; done))
            · skip
              refine zw_run 6 (pc' := 65) (loc' := [some (.int c), some (.int base), some (.int ((c - 97) + 10))]) (stk' := []) (fun _ _ _ => rfl) ?_
              exact J16 _ (by clear H J16; first | (simp [bI, *]; done) | (simp_all [bI]; done) | (exfalso; simp_all; done))
        · skip
          refine zw_run 7 (pc' := 65) (loc' := [some (.int c), some (.int base), some (.int ((c - 65) + 10))]) (stk' := []) (fun _ _ _ => rfl) ?_
          exact J16 _ (by clear H J16; first | (simp [bI, *]; done) | (simp_all [bI]; done) | (exfalso; simp_all; done))
    · skip
      refine zw_run 5 (pc' := 65) (loc' := [some (.int c), some (.int base), some (.int (c - 48))]) (stk' := []) (fun _ _ _ => rfl) ?_
      exact J16 _ (by clear H J16; first | (simp [bI, *]; done) | (simp_all [bI]; done) | (exfalso; simp_all; done))
theorem c_193 {fm : Value} {sx : Nat × (Nat → Int32)} {d : Nat} {Z : zr_Z} (c : Int32) (base : Int32) : zl fm sx (d + 1) 193 [.int c, .int base] Z (fun r Z' => r = some (.int (k_193 c base)) ∧ Z' = Z) := by
  refine zl_of (nL := 3) (loc0 := [some (.int c), some (.int base), none]) rfl rfl rfl (b_193 c base ?_)
  exact ⟨rfl, rfl⟩
/-- MarkInlinesModel.isWhite -/
def k_143 (c : Int32) : Bool := ((decide (c = 9)) || ((decide (c = 10)) || ((decide (c = 13)) || (decide (c = 32)))))
set_option maxRecDepth 100000 in
set_option maxHeartbeats 1000000 in
theorem b_143 {fm : Value} {sx : Nat × (Nat → Int32)} {d : Nat} {Z : zr_Z} {Q : Option Value → zr_Z → Prop} (c : Int32) (H : Q (some (.int (bI ((decide (c = 9)) || ((decide (c = 10)) || ((decide (c = 13)) || (decide (c = 32)))))))) Z) : zw fm sx (d + 0) 143 0 [some (.int c)] [] Z Q := by
  refine zw_run 2 (pc' := 3) (loc' := [some (.int c)]) (stk' := [.int 9, .int c]) (fun _ _ _ => rfl) ?_
  have J6 : ∀ (v5 : Int32), v5 = (bI ((decide (c = 9)) || ((decide (c = 10)) || ((decide (c = 13)) || (decide (c = 32)))))) → zw fm sx (d + 0) 143 29 [some (.int c)] [.int v5] Z Q := by
    intro v5 ev5
    subst ev5
    refine zw_retz rfl rfl (bI_01 _) ?_
    exact H
  refine zw_br (c := c = 9) (t1 := 24) (t2 := 6) (loc' := [some (.int c)]) (stk' := []) (fun _ _ _ => rfl) (fun c1 => ?_) (fun c1 => ?_)
  · skip
    refine zw_run 2 (pc' := 29) (loc' := [some (.int c)]) (stk' := [.int 1]) (fun _ _ _ => rfl) ?_
    exact J6 _ (by clear H J6; first | (simp [bI, *]; done) | (simp_all [bI]; done) | (exfalso; simp_all; done))
  · skip
    refine zw_run 2 (pc' := 9) (loc' := [some (.int c)]) (stk' := [.int 10, .int c]) (fun _ _ _ => rfl) ?_
    refine zw_br (c := c = 10) (t1 := 24) (t2 := 12) (loc' := [some (.int c)]) (stk' := []) (fun _ _ _ => rfl) (fun c2 => ?_) (fun c2 => ?_)
    · skip
      refine zw_run 2 (pc' := 29) (loc' := [some (.int c)]) (stk' := [.int 1]) (fun _ _ _ => rfl) ?_
      exact J6 _ (by clear H J6; first | (simp [bI, *]; done) | (simp_all [bI]; done) | (exfalso; simp_all; done))
    · skip
      refine zw_run 2 (pc' := 15) (loc' := [some (.int c)]) (stk' := [.int 13, .int c]) (fun _ _ _ => rfl) ?_
      refine zw_br (c := c = 13) (t1 := 24) (t2 := 18) (loc' := [some (.int c)]) (stk' := []) (fun _ _ _ => rfl) (fun c3 => ?_) (fun c3 => ?_)
      · skip
        refine zw_run 2 (pc' := 29) (loc' := [some (.int c)]) (stk' := [.int 1]) (fun _ _ _ => rfl) ?_
        exact J6 _ (by clear H J6; first | (simp [bI, *]; done) | (simp_all [bI]; done) | (exfalso; simp_all; done))
      · skip
        refine zw_run 2 (pc' := 21) (loc' := [some (.int c)]) (stk' := [.int 32, .int c]) (fun _ _ _ => rfl) ?_
        refine zw_br (c := ¬ c = 32) (t1 := 28) (t2 := 24) (loc' := [some (.int c)]) (stk' := []) (fun _ _ _ => rfl) (fun c4 => ?_) (fun c4 => ?_)
        · skip
          refine zw_run 1 (pc' := 29) (loc' := [some (.int c)]) (stk' := [.int 0]) (fun _ _ _ => rfl) ?_
          exact J6 _ (by clear H J6; first | (simp [bI, *]; done) | (simp_all [bI]; done) | (exfalso; simp_all; done))
        · skip
          refine zw_run 2 (pc' := 29) (loc' := [some (.int c)]) (stk' := [.int 1]) (fun _ _ _ => rfl) ?_
          exact J6 _ (by clear H J6; first | (simp [bI, *]; done) | (simp_all [bI]; done) | (exfalso; simp_all; done))
theorem c_143 {fm : Value} {sx : Nat × (Nat → Int32)} {d : Nat} {Z : zr_Z} (c : Int32) : zl fm sx (d + 1) 143 [.int c] Z (fun r Z' => r = some (.int (bI (k_143 c))) ∧ Z' = Z) := by
  refine zl_of (nL := 1) (loc0 := [some (.int c)]) rfl rfl rfl (b_143 c ?_)
  exact ⟨rfl, rfl⟩
/-- MarkInlinesModel.isLetter -/
def k_154 (c : Int32) : Bool := (bif decide (c < 65) then (!(decide (c < 97))) && (!(decide (122 < c))) else (decide (c ≤ 90)) || ((!(decide (c < 97))) && (!(decide (122 < c)))))
set_option maxRecDepth 100000 in
set_option maxHeartbeats 1000000 in
theorem b_154 {fm : Value} {sx : Nat × (Nat → Int32)} {d : Nat} {Z : zr_Z} {Q : Option Value → zr_Z → Prop} (c : Int32) (H : Q (some (.int (bI (bif decide (c < 65) then (!(decide (c < 97))) && (!(decide (122 < c))) else (decide (c ≤ 90)) || ((!(decide (c < 97))) && (!(decide (122 < c)))))))) Z) : zw fm sx (d + 0) 154 0 [some (.int c)] [] Z Q := by
  refine zw_run 2 (pc' := 3) (loc' := [some (.int c)]) (stk' := [.int 65, .int c]) (fun _ _ _ => rfl) ?_
  have J8 : ∀ (v7 : Int32), v7 = (bI (bif decide (c < 65) then (!(decide (c < 97))) && (!(decide (122 < c))) else (decide (c ≤ 90)) || ((!(decide (c < 97))) && (!(decide (122 < c)))))) → zw fm sx (d + 0) 154 29 [some (.int c)] [.int v7] Z Q := by
    intro v7 ev7
    subst ev7
    refine zw_retz rfl rfl (bI_01 _) ?_
    exact H
  refine zw_br (c := c < 65) (t1 := 12) (t2 := 6) (loc' := [some (.int c)]) (stk' := []) (fun _ _ _ => rfl) (fun c1 => ?_) (fun c1 => ?_)
  · skip
    refine zw_run 2 (pc' := 15) (loc' := [some (.int c)]) (stk' := [.int 97, .int c]) (fun _ _ _ => rfl) ?_
    refine zw_br (c := c < 97) (t1 := 28) (t2 := 18) (loc' := [some (.int c)]) (stk' := []) (fun _ _ _ => rfl) (fun c2 => ?_) (fun c2 => ?_)
    · skip
      refine zw_run 1 (pc' := 29) (loc' := [some (.int c)]) (stk' := [.int 0]) (fun _ _ _ => rfl) ?_
      exact J8 _ (by clear H J8; first | (simp [bI, *]; done) | (simp_all [bI]; done) | (exfalso; simp_all; done))
    · skip
      refine zw_run 2 (pc' := 21) (loc' := [some (.int c)]) (stk' := [.int 122, .int c]) (fun _ _ _ => rfl) ?_
      refine zw_br (c := 122 < c) (t1 := 28) (t2 := 24) (loc' := [some (.int c)]) (stk' := []) (fun _ _ _ => rfl) (fun c3 => ?_) (fun c3 => ?_)
      · skip
        refine zw_run 1 (pc' := 29) (loc' := [some (.int c)]) (stk' := [.int 0]) (fun _ _ _ => rfl) ?_
        exact J8 _ (by clear H J8; first | (simp [bI, *]; done) | (simp_all [bI]; done) | (exfalso; simp_all; done))
      · skip
        refine zw_run 2 (pc' := 29) (loc' := [some (.int c)]) (stk' := [.int 1]) (fun _ _ _ => rfl) ?_
        exact J8 _ (by clear H J8; first | (simp [bI, *]; done) | (simp_all [bI]; done) | (exfalso; simp_all; done))
  · skip
    refine zw_run 2 (pc' := 9) (loc' := [some (.int c)]) (stk' := [.int 90, .int c]) (fun _ _ _ => rfl) ?_
    refine zw_br (c := c ≤ 90) (t1 := 24) (t2 := 12) (loc' := [some (.int c)]) (stk' := []) (fun _ _ _ => rfl) (fun c4 => ?_) (fun c4 => ?_)
    · skip
      refine zw_run 2 (pc' := 29) (loc' := [some (.int c)]) (stk' := [.int 1]) (fun _ _ _ => rfl) ?_
      exact J8 _ (by clear H J8; first | (simp [bI, *]; done) | (simp_all [bI]; done) | (exfalso; simp_all; done))
    · skip
      refine zw_run 2 (pc' := 15) (loc' := [some (.int c)]) (stk' := [.int 97, .int c]) (fun _ _ _ => rfl) ?_
      refine zw_br (c := c < 97) (t1 := 28) (t2 := 18) (loc' := [some (.int c)]) (stk' := []) (fun _ _ _ => rfl) (fun c5 => ?_) (fun c5 => ?_)
      · skip
        refine zw_run 1 (pc' := 29) (loc' := [some (.int c)]) (stk' := [.int 0]) (fun _ _ _ => rfl) ?_
        exact J8 _ (by clear H J8; first | (simp [bI, *]; done) | (simp_all [bI]; done) | (exfalso; simp_all; done))
      · skip
        refine zw_run 2 (pc' := 21) (loc' := [some (.int c)]) (stk' := [.int 122, .int c]) (fun _ _ _ => rfl) ?_
        refine zw_br (c := 122 < c) (t1 := 28) (t2 := 24) (loc' := [some (.int c)]) (stk' := []) (fun _ _ _ => rfl) (fun c6 => ?_) (fun c6 => ?_)
        · skip
          refine zw_run 1 (pc' := 29) (loc' := [some (.int c)]) (stk' := [.int 0]) (fun _ _ _ => rfl) ?_
          exact J8 _ (by clear H J8; first | (simp [bI, *]; done) | (simp_all [bI]; done) | (exfalso; simp_all; done))
        · skip
          refine zw_run 2 (pc' := 29) (loc' := [some (.int c)]) (stk' := [.int 1]) (fun _ _ _ => rfl) ?_
          exact J8 _ (by clear H J8; first | (simp [bI, *]; done) | (simp_all [bI]; done) | (exfalso; simp_all; done))
theorem c_154 {fm : Value} {sx : Nat × (Nat → Int32)} {d : Nat} {Z : zr_Z} (c : Int32) : zl fm sx (d + 1) 154 [.int c] Z (fun r Z' => r = some (.int (bI (k_154 c))) ∧ Z' = Z) := by
  refine zl_of (nL := 1) (loc0 := [some (.int c)]) rfl rfl rfl (b_154 c ?_)
  exact ⟨rfl, rfl⟩
/-- MarkInlinesModel.isDigit -/
def k_165 (c : Int32) : Bool := ((!(decide (c < 48))) && (!(decide (57 < c))))
set_option maxRecDepth 100000 in
set_option maxHeartbeats 1000000 in
theorem b_165 {fm : Value} {sx : Nat × (Nat → Int32)} {d : Nat} {Z : zr_Z} {Q : Option Value → zr_Z → Prop} (c : Int32) (H : Q (some (.int (bI ((!(decide (c < 48))) && (!(decide (57 < c))))))) Z) : zw fm sx (d + 0) 165 0 [some (.int c)] [] Z Q := by
  refine zw_run 2 (pc' := 3) (loc' := [some (.int c)]) (stk' := [.int 48, .int c]) (fun _ _ _ => rfl) ?_
  have J4 : ∀ (v3 : Int32), v3 = (bI ((!(decide (c < 48))) && (!(decide (57 < c))))) → zw fm sx (d + 0) 165 17 [some (.int c)] [.int v3] Z Q := by
    intro v3 ev3
    subst ev3
    refine zw_retz rfl rfl (bI_01 _) ?_
    exact H
  refine zw_br (c := c < 48) (t1 := 16) (t2 := 6) (loc' := [some (.int c)]) (stk' := []) (fun _ _ _ => rfl) (fun c1 => ?_) (fun c1 => ?_)
  · skip
    refine zw_run 1 (pc' := 17) (loc' := [some (.int c)]) (stk' := [.int 0]) (fun _ _ _ => rfl) ?_
    exact J4 _ (by clear H J4; first | (simp [bI, *]; done) | (simp_all [bI]; done) | (exfalso; simp_all; done))
  · skip
    refine zw_run 2 (pc' := 9) (loc' := [some (.int c)]) (stk' := [.int 57, .int c]) (fun _ _ _ => rfl) ?_
    refine zw_br (c := 57 < c) (t1 := 16) (t2 := 12) (loc' := [some (.int c)]) (stk' := []) (fun _ _ _ => rfl) (fun c2 => ?_) (fun c2 => ?_)
    · skip
      refine zw_run 1 (pc' := 17) (loc' := [some (.int c)]) (stk' := [.int 0]) (fun _ _ _ => rfl) ?_
      exact J4 _ (by clear H J4; first | (simp [bI, *]; done) | (simp_all [bI]; done) | (exfalso; simp_all; done))
    · skip
      refine zw_run 2 (pc' := 17) (loc' := [some (.int c)]) (stk' := [.int 1]) (fun _ _ _ => rfl) ?_
      exact J4 _ (by clear H J4; first | (simp [bI, *]; done) | (simp_all [bI]; done) | (exfalso; simp_all; done))
theorem c_165 {fm : Value} {sx : Nat × (Nat → Int32)} {d : Nat} {Z : zr_Z} (c : Int32) : zl fm sx (d + 1) 165 [.int c] Z (fun r Z' => r = some (.int (bI (k_165 c))) ∧ Z' = Z) := by
  refine zl_of (nL := 1) (loc0 := [some (.int c)]) rfl rfl rfl (b_165 c ?_)
  exact ⟨rfl, rfl⟩
/-- MarkInlinesModel.isSign -/
def k_176 (c : Int32) : Bool := (bif decide (c < 33) then bif decide (c < 58) then bif decide (c < 91) then (!(decide (c < 123))) && (!(decide (126 < c))) else (decide (c ≤ 96)) || ((!(decide (c < 123))) && (!(decide (126 < c)))) else (decide (c ≤ 64)) || (bif decide (c < 91) then (!(decide (c < 123))) && (!(decide (126 < c))) else (decide (c ≤ 96)) || ((!(decide (c < 123))) && (!(decide (126 < c))))) else (decide (c ≤ 47)) || (bif decide (c < 58) then bif decide (c < 91) then (!(decide (c < 123))) && (!(decide (126 < c))) else (decide (c ≤ 96)) || ((!(decide (c < 123))) && (!(decide (126 < c)))) else (decide (c ≤ 64)) || (bif decide (c < 91) then (!(decide (c < 123))) && (!(decide (126 < c))) else (decide (c ≤ 96)) || ((!(decide (c < 123))) && (!(decide (126 < c)))))))
set_option maxRecDepth 100000 in
set_option maxHeartbeats 1000000 in
theorem b_176 {fm : Value} {sx : Nat × (Nat → Int32)} {d : Nat} {Z : zr_Z} {Q : Option Value → zr_Z → Prop} (c : Int32) (H : Q (some (.int (bI (bif decide (c < 33) then bif decide (c < 58) then bif decide (c < 91) then (!(decide (c < 123))) && (!(decide (126 < c))) else (decide (c ≤ 96)) || ((!(decide (c < 123))) && (!(decide (126 < c)))) else (decide (c ≤ 64)) || (bif decide (c < 91) then (!(decide (c < 123))) && (!(decide (126 < c))) else (decide (c ≤ 96)) || ((!(decide (c < 123))) && (!(decide (126 < c))))) else (decide (c ≤ 47)) || (bif decide (c < 58) then bif decide (c < 91) then (!(decide (c < 123))) && (!(decide (126 < c))) else (decide (c ≤ 96)) || ((!(decide (c < 123))) && (!(decide (126 < c)))) else (decide (c ≤ 64)) || (bif decide (c < 91) then (!(decide (c < 123))) && (!(decide (126 < c))) else (decide (c ≤ 96)) || ((!(decide (c < 123))) && (!(decide (126 < c)))))))))) Z) : zw fm sx (d + 0) 176 0 [some (.int c)] [] Z Q := by
  refine zw_run 2 (pc' := 3) (loc' := [some (.int c)]) (stk' := [.int 33, .int c]) (fun _ _ _ => rfl) ?_
  have J32 : ∀ (v31 : Int32), v31 = (bI (bif decide (c < 33) then bif decide (c < 58) then bif decide (c < 91) then (!(decide (c < 123))) && (!(decide (126 < c))) else (decide (c ≤ 96)) || ((!(decide (c < 123))) && (!(decide (126 < c)))) else (decide (c ≤ 64)) || (bif decide (c < 91) then (!(decide (c < 123))) && (!(decide (126 < c))) else (decide (c ≤ 96)) || ((!(decide (c < 123))) && (!(decide (126 < c))))) else (decide (c ≤ 47)) || (bif decide (c < 58) then bif decide (c < 91) then (!(decide (c < 123))) && (!(decide (126 < c))) else (decide (c ≤ 96)) || ((!(decide (c < 123))) && (!(decide (126 < c)))) else (decide (c ≤ 64)) || (bif decide (c < 91) then (!(decide (c < 123))) && (!(decide (126 < c))) else (decide (c ≤ 96)) || ((!(decide (c < 123))) && (!(decide (126 < c)))))))) → zw fm sx (d + 0) 176 53 [some (.int c)] [.int v31] Z Q := by
    intro v31 ev31
    subst ev31
    refine zw_retz rfl rfl (bI_01 _) ?_
    exact H
  refine zw_br (c := c < 33) (t1 := 12) (t2 := 6) (loc' := [some (.int c)]) (stk' := []) (fun _ _ _ => rfl) (fun c1 => ?_) (fun c1 => ?_)
  · skip
    refine zw_run 2 (pc' := 15) (loc' := [some (.int c)]) (stk' := [.int 58, .int c]) (fun _ _ _ => rfl) ?_
    refine zw_br (c := c < 58) (t1 := 24) (t2 := 18) (loc' := [some (.int c)]) (stk' := []) (fun _ _ _ => rfl) (fun c2 => ?_) (fun c2 => ?_)
    · skip
      refine zw_run 2 (pc' := 27) (loc' := [some (.int c)]) (stk' := [.int 91, .int c]) (fun _ _ _ => rfl) ?_
      refine zw_br (c := c < 91) (t1 := 36) (t2 := 30) (loc' := [some (.int c)]) (stk' := []) (fun _ _ _ => rfl) (fun c3 => ?_) (fun c3 => ?_)
      · skip
        refine zw_run 2 (pc' := 39) (loc' := [some (.int c)]) (stk' := [.int 123, .int c]) (fun _ _ _ => rfl) ?_
        refine zw_br (c := c < 123) (t1 := 52) (t2 := 42) (loc' := [some (.int c)]) (stk' := []) (fun _ _ _ => rfl) (fun c4 => ?_) (fun c4 => ?_)
        · skip
          refine zw_run 1 (pc' := 53) (loc' := [some (.int c)]) (stk' := [.int 0]) (fun _ _ _ => rfl) ?_
          exact J32 _ (by clear H J32; first | (simp [bI, *]; done) | (simp_all [bI]; done) | (exfalso; simp_all; done))
        · skip
          refine zw_run 2 (pc' := 45) (loc' := [some (.int c)]) (stk' := [.int 126, .int c]) (fun _ _ _ => rfl) ?_
          refine zw_br (c := 126 < c) (t1 := 52) (t2 := 48) (loc' := [some (.int c)]) (stk' := []) (fun _ _ _ => rfl) (fun c5 => ?_) (fun c5 => ?_)
          · skip
            refine zw_run 1 (pc' := 53) (loc' := [some (.int c)]) (stk' := [.int 0]) (fun _ _ _ => rfl) ?_
            exact J32 _ (by clear H J32; first | (simp [bI, *]; done) | (simp_all [bI]; done) | (exfalso; simp_all; done))
          · skip
            refine zw_run 2 (pc' := 53) (loc' := [some (.int c)]) (stk' := [.int 1]) (fun _ _ _ => rfl) ?_
            exact J32 _ (by clear H J32; first | (simp [bI, *]; done) | (simp_all [bI]; done) | (exfalso; simp_all; done))
      · skip
        refine zw_run 2 (pc' := 33) (loc' := [some (.int c)]) (stk' := [.int 96, .int c]) (fun _ _ _ => rfl) ?_
        refine zw_br (c := c ≤ 96) (t1 := 48) (t2 := 36) (loc' := [some (.int c)]) (stk' := []) (fun _ _ _ => rfl) (fun c6 => ?_) (fun c6 => ?_)
        · skip
          refine zw_run 2 (pc' := 53) (loc' := [some (.int c)]) (stk' := [.int 1]) (fun _ _ _ => rfl) ?_
          exact J32 _ (by clear H J32; first | (simp [bI, *]; done) | (simp_all [bI]; done) | (exfalso; simp_all; done))
        · skip
          refine zw_run 2 (pc' := 39) (loc' := [some (.int c)]) (stk' := [.int 123, .int c]) (fun _ _ _ => rfl) ?_
          refine zw_br (c := c < 123) (t1 := 52) (t2 := 42) (loc' := [some (.int c)]) (stk' := []) (fun _ _ _ => rfl) (fun c7 => ?_) (fun c7 => ?_)
          · skip
            refine zw_run 1 (pc' := 53) (loc' := [some (.int c)]) (stk' := [.int 0]) (fun _ _ _ => rfl) ?_
            exact J32 _ (by clear H J32; first | (simp [bI, *]; done) | (simp_all [bI]; done) | (exfalso; simp_all; done))
          · skip
            refine zw_run 2 (pc' := 45) (loc' := [some (.int c)]) (stk' := [.int 126, .int c]) (fun _ _ _ => rfl) ?_
            refine zw_br (c := 126 < c) (t1 := 52) (t2 := 48) (loc' := [some (.int c)]) (stk' := []) (fun _ _ _ => rfl) (fun c8 => ?_) (fun c8 => ?_)
            · skip
              refine zw_run 1 (pc' := 53) (loc' := [some (.int c)]) (stk' := [.int 0]) (fun _ _ _ => rfl) ?_
              exact J32 _ (by clear H J32; first | (simp [bI, *]; done) | (simp_all [bI]; done) | (exfalso; simp_all; done))
            · skip
              refine zw_run 2 (pc' := 53) (loc' := [some (.int c)]) (stk' := [.int 1]) (fun _ _ _ => rfl) ?_
              exact J32 _ (by clear H J32; first | (simp [bI, *]; done) | (simp_all [bI]; done) | (exfalso; simp_all; done))
    · skip
      refine zw_run 2 (pc' := 21) (loc' := [some (.int c)]) (stk' := [.int 64, .int c]) (fun _ _ _ => rfl) ?_
      refine zw_br (c := c ≤ 64) (t1 := 48) (t2 := 24) (loc' := [some (.int c)]) (stk' := []) (fun _ _ _ => rfl) (fun c9 => ?_) (fun c9 => ?_)
      · skip
        refine zw_run 2 (pc' := 53) (loc' := [some (.int c)]) (stk' := [.int 1]) (fun _ _ _ => rfl) ?_
        exact J32 _ (by clear H J32; first | (simp [bI, *]; done) | (simp_all [bI]; done) | (exfalso; simp_all; done))
      · skip
        refine zw_run 2 (pc' := 27) (loc' := [some (.int c)]) (stk' := [.int 91, .int c]) (fun _ _ _ => rfl) ?_
        refine zw_br (c := c < 91) (t1 := 36) (t2 := 30) (loc' := [some (.int c)]) (stk' := []) (fun _ _ _ => rfl) (fun c10 => ?_) (fun c10 => ?_)
        · skip
          refine zw_run 2 (pc' := 39) (loc' := [some (.int c)]) (stk' := [.int 123, .int c]) (fun _ _ _ => rfl) ?_
          refine zw_br (c := c < 123) (t1 := 52) (t2 := 42) (loc' := [some (.int c)]) (stk' := []) (fun _ _ _ => rfl) (fun c11 => ?_) (fun c11 => ?_)
          · skip
            refine zw_run 1 (pc' := 53) (loc' := [some (.int c)]) (stk' := [.int 0]) (fun _ _ _ => rfl) ?_
            exact J32 _ (by clear H J32; first | (simp [bI, *]; done) | (simp_all [bI]; done) | (exfalso; simp_all; done))
          · skip
            refine zw_run 2 (pc' := 45) (loc' := [some (.int c)]) (stk' := [.int 126, .int c]) (fun _ _ _ => rfl) ?_
            refine zw_br (c := 126 < c) (t1 := 52) (t2 := 48) (loc' := [some (.int c)]) (stk' := []) (fun _ _ _ => rfl) (fun c12 => ?_) (fun c12 => ?_)
            · skip
              refine zw_run 1 (pc' := 53) (loc' := [some (.int c)]) (stk' := [.int 0]) (fun _ _ _ => rfl) ?_
              exact J32 _ (by clear H J32; first | (simp [bI, *]; done) | (simp_all [bI]; done) | (exfalso; simp_all; done))
            · skip
              refine zw_run 2 (pc' := 53) (loc' := [some (.int c)]) (stk' := [.int 1]) (fun _ _ _ => rfl) ?_
              exact J32 _ (by clear H J32; first | (simp [bI, *]; done) | (simp_all [bI]; done) | (exfalso; simp_all; done))
        · skip
          refine zw_run 2 (pc' := 33) (loc' := [some (.int c)]) (stk' := [.int 96, .int c]) (fun _ _ _ => rfl) ?_
          refine zw_br (c := c ≤ 96) (t1 := 48) (t2 := 36) (loc' := [some (.int c)]) (stk' := []) (fun _ _ _ => rfl) (fun c13 => ?_) (fun c13 => ?_)
          · skip
            refine zw_run 2 (pc' := 53) (loc' := [some (.int c)]) (stk' := [.int 1]) (fun _ _ _ => rfl) ?_
            exact J32 _ (by clear H J32; first | (simp [bI, *]; done) | (simp_all [bI]; done) | (exfalso; simp_all; done))
          · skip
            refine zw_run 2 (pc' := 39) (loc' := [some (.int c)]) (stk' := [.int 123, .int c]) (fun _ _ _ => rfl) ?_
            refine zw_br (c := c < 123) (t1 := 52) (t2 := 42) (loc' := [some (.int c)]) (stk' := []) (fun _ _ _ => rfl) (fun c14 => ?_) (fun c14 => ?_)
            · skip
              refine zw_run 1 (pc' := 53) (loc' := [some (.int c)]) (stk' := [.int 0]) (fun _ _ _ => rfl) ?_
              exact J32 _ (by clear H J32; first | (simp [bI, *]; done) | (simp_all [bI]; done) | (exfalso; simp_all; done))
            · skip
              refine zw_run 2 (pc' := 45) (loc' := [some (.int c)]) (stk' := [.int 126, .int c]) (fun _ _ _ => rfl) ?_
              refine zw_br (c := 126 < c) (t1 := 52) (t2 := 48) (loc' := [some (.int c)]) (stk' := []) (fun _ _ _ => rfl) (fun c15 => ?_) (fun c15 => ?_)
              · skip
                refine zw_run 1 (pc' := 53) (loc' := [some (.int c)]) (stk' := [.int 0]) (fun _ _ _ => rfl) ?_
                exact J32 _ (by clear H J32; first | (simp [bI, *]; done) | (simp_all [bI]; done) | (exfalso; simp_all; done))
              · skip
                refine zw_run 2 (pc' := 53) (loc' := [some (.int c)]) (stk' := [.int 1]) (fun _ _ _ => rfl) ?_
                exact J32 _ (by clear H J32; first | (simp [bI, *]; done) | (simp_all [bI]; done) | (exfalso; simp_all; done))
  · skip
    refine zw_run 2 (pc' := 9) (loc' := [some (.int c)]) (stk' := [.int 47, .int c]) (fun _ _ _ => rfl) ?_
    refine zw_br (c := c ≤ 47) (t1 := 48) (t2 := 12) (loc' := [some (.int c)]) (stk' := []) (fun _ _ _ => rfl) (fun c16 => ?_) (fun c16 => ?_)
    · skip
      refine zw_run 2 (pc' := 53) (loc' := [some (.int c)]) (stk' := [.int 1]) (fun _ _ _ => rfl) ?_
      exact J32 _ (by clear H J32; first | (simp [bI, *]; done) | (simp_all [bI]; done) | (exfalso; simp_all; done))
    · skip
      refine zw_run 2 (pc' := 15) (loc' := [some (.int c)]) (stk' := [.int 58, .int c]) (fun _ _ _ => rfl) ?_
      refine zw_br (c := c < 58) (t1 := 24) (t2 := 18) (loc' := [some (.int c)]) (stk' := []) (fun _ _ _ => rfl) (fun c17 => ?_) (fun c17 => ?_)
      · skip
        refine zw_run 2 (pc' := 27) (loc' := [some (.int c)]) (stk' := [.int 91, .int c]) (fun _ _ _ => rfl) ?_
        refine zw_br (c := c < 91) (t1 := 36) (t2 := 30) (loc' := [some (.int c)]) (stk' := []) (fun _ _ _ => rfl) (fun c18 => ?_) (fun c18 => ?_)
        · skip
          refine zw_run 2 (pc' := 39) (loc' := [some (.int c)]) (stk' := [.int 123, .int c]) (fun _ _ _ => rfl) ?_
          refine zw_br (c := c < 123) (t1 := 52) (t2 := 42) (loc' := [some (.int c)]) (stk' := []) (fun _ _ _ => rfl) (fun c19 => ?_) (fun c19 => ?_)
          · skip
            refine zw_run 1 (pc' := 53) (loc' := [some (.int c)]) (stk' := [.int 0]) (fun _ _ _ => rfl) ?_
            exact J32 _ (by clear H J32; first | (simp [bI, *]; done) | (simp_all [bI]; done) | (exfalso; simp_all; done))
          · skip
            refine zw_run 2 (pc' := 45) (loc' := [some (.int c)]) (stk' := [.int 126, .int c]) (fun _ _ _ => rfl) ?_
            refine zw_br (c := 126 < c) (t1 := 52) (t2 := 48) (loc' := [some (.int c)]) (stk' := []) (fun _ _ _ => rfl) (fun c20 => ?_) (fun c20 => ?_)
            · skip
              refine zw_run 1 (pc' := 53) (loc' := [some (.int c)]) (stk' := [.int 0]) (fun _ _ _ => rfl) ?_
              exact J32 _ (by clear H J32; first | (simp [bI, *]; done) | (simp_all [bI]; done) | (exfalso; simp_all; done))
            · skip
              refine zw_run 2 (pc' := 53) (loc' := [some (.int c)]) (stk' := [.int 1]) (fun _ _ _ => rfl) ?_
              exact J32 _ (by clear H J32; first | (simp [bI, *]; done) | (simp_all [bI]; done) | (exfalso; simp_all; done))
        · skip
          refine zw_run 2 (pc' := 33) (loc' := [some (.int c)]) (stk' := [.int 96, .int c]) (fun _ _ _ => rfl) ?_
          refine zw_br (c := c ≤ 96) (t1 := 48) (t2 := 36) (loc' := [some (.int c)]) (stk' := []) (fun _ _ _ => rfl) (fun c21 => ?_) (fun c21 => ?_)
          · skip
            refine zw_run 2 (pc' := 53) (loc' := [some (.int c)]) (stk' := [.int 1]) (fun _ _ _ => rfl) ?_
            exact J32 _ (by clear H J32; first | (simp [bI, *]; done) | (simp_all [bI]; done) | (exfalso; simp_all; done))
          · skip
            refine zw_run 2 (pc' := 39) (loc' := [some (.int c)]) (stk' := [.int 123, .int c]) (fun _ _ _ => rfl) ?_
            refine zw_br (c := c < 123) (t1 := 52) (t2 := 42) (loc' := [some (.int c)]) (stk' := []) (fun _ _ _ => rfl) (fun c22 => ?_) (fun c22 => ?_)
            · skip
              refine zw_run 1 (pc' := 53) (loc' := [some (.int c)]) (stk' := [.int 0]) (fun _ _ _ => rfl) ?_
              exact J32 _ (by clear H J32; first | (simp [bI, *]; done) | (simp_all [bI]; done) | (exfalso; simp_all; done))
            · skip
              refine zw_run 2 (pc' := 45) (loc' := [some (.int c)]) (stk' := [.int 126, .int c]) (fun _ _ _ => rfl) ?_
              refine zw_br (c := 126 < c) (t1 := 52) (t2 := 48) (loc' := [some (.int c)]) (stk' := []) (fun _ _ _ => rfl) (fun c23 => ?_) (fun c23 => ?_)
              · skip
                refine zw_run 1 (pc' := 53) (loc' := [some (.int c)]) (stk' := [.int 0]) (fun _ _ _ => rfl) ?_
                exact J32 _ (by clear H J32; first | (simp [bI, *]; done) | (simp_all [bI]; done) | (exfalso; simp_all; done))
              · skip
                refine zw_run 2 (pc' := 53) (loc' := [some (.int c)]) (stk' := [.int 1]) (fun _ _ _ => rfl) ?_
                exact J32 _ (by clear H J32; first | (simp [bI, *]; done) | (simp_all [bI]; done) | (exfalso; simp_all; done))
      · skip
        refine zw_run 2 (pc' := 21) (loc' := [some (.int c)]) (stk' := [.int 64, .int c]) (fun _ _ _ => rfl) ?_
        refine zw_br (c := c ≤ 64) (t1 := 48) (t2 := 24) (loc' := [some (.int c)]) (stk' := []) (fun _ _ _ => rfl) (fun c24 => ?_) (fun c24 => ?_)
        · skip
          refine zw_run 2 (pc' := 53) (loc' := [some (.int c)]) (stk' := [.int 1]) (fun _ _ _ => rfl) ?_
          exact J32 _ (by clear H J32; first | (simp [bI, *]; done) | (simp_all [bI]; done) | (exfalso; simp_all; done))
        · skip
          refine zw_run 2 (pc' := 27) (loc' := [some (.int c)]) (stk' := [.int 91, .int c]) (fun _ _ _ => rfl) ?_
          refine zw_br (c := c < 91) (t1 := 36) (t2 := 30) (loc' := [some (.int c)]) (stk' := []) (fun _ _ _ => rfl) (fun c25 => ?_) (fun c25 => ?_)
          · skip
            refine zw_run 2 (pc' := 39) (loc' := [some (.int c)]) (stk' := [.int 123, .int c]) (fun _ _ _ => rfl) ?_
            refine zw_br (c := c < 123) (t1 := 52) (t2 := 42) (loc' := [some (.int c)]) (stk' := []) (fun _ _ _ => rfl) (fun c26 => ?_) (fun c26 => ?_)
            · skip
              refine zw_run 1 (pc' := 53) (loc' := [some (.int c)]) (stk' := [.int 0]) (fun _ _ _ => rfl) ?_
              exact J32 _ (by clear H J32; first | (simp [bI, *]; done) | (simp_all [bI]; done) | (exfalso; simp_all; done))
            · skip
              refine zw_run 2 (pc' := 45) (loc' := [some (.int c)]) (stk' := [.int 126, .int c]) (fun _ _ _ => rfl) ?_
              refine zw_br (c := 126 < c) (t1 := 52) (t2 := 48) (loc' := [some (.int c)]) (stk' := []) (fun _ _ _ => rfl) (fun c27 => ?_) (fun c27 => ?_)
              · skip
                refine zw_run 1 (pc' := 53) (loc' := [some (.int c)]) (stk' := [.int 0]) (fun _ _ _ => rfl) ?_
                exact J32 _ (by clear H J32; first | (simp [bI, *]; done) | (simp_all [bI]; done) | (exfalso; simp_all; done))
              · skip
                refine zw_run 2 (pc' := 53) (loc' := [some (.int c)]) (stk' := [.int 1]) (fun _ _ _ => rfl) ?_
                exact J32 _ (by clear H J32; first | (simp [bI, *]; done) | (simp_all [bI]; done) | (exfalso; simp_all; done))
          · skip
            refine zw_run 2 (pc' := 33) (loc' := [some (.int c)]) (stk' := [.int 96, .int c]) (fun _ _ _ => rfl) ?_
            refine zw_br (c := c ≤ 96) (t1 := 48) (t2 := 36) (loc' := [some (.int c)]) (stk' := []) (fun _ _ _ => rfl) (fun c28 => ?_) (fun c28 => ?_)
            · skip
              refine zw_run 2 (pc' := 53) (loc' := [some (.int c)]) (stk' := [.int 1]) (fun _ _ _ => rfl) ?_
              exact J32 _ (by clear H J32; first | (simp [bI, *]; done) | (simp_all [bI]; done) | (exfalso; simp_all; done))
            · skip
              refine zw_run 2 (pc' := 39) (loc' := [some (.int c)]) (stk' := [.int 123, .int c]) (fun _ _ _ => rfl) ?_
              refine zw_br (c := c < 123) (t1 := 52) (t2 := 42) (loc' := [some (.int c)]) (stk' := []) (fun _ _ _ => rfl) (fun c29 => ?_) (fun c29 => ?_)
              · skip
                refine zw_run 1 (pc' := 53) (loc' := [some (.int c)]) (stk' := [.int 0]) (fun _ _ _ => rfl) ?_
                exact J32 _ (by clear H J32; first | (simp [bI, *]; done) | (simp_all [bI]; done) | (exfalso; simp_all; done))
              · skip
                refine zw_run 2 (pc' := 45) (loc' := [some (.int c)]) (stk' := [.int 126, .int c]) (fun _ _ _ => rfl) ?_
                refine zw_br (c := 126 < c) (t1 := 52) (t2 := 48) (loc' := [some (.int c)]) (stk' := []) (fun _ _ _ => rfl) (fun c30 => ?_) (fun c30 => ?_)
                · skip
                  refine zw_run 1 (pc' := 53) (loc' := [some (.int c)]) (stk' := [.int 0]) (fun _ _ _ => rfl) ?_
                  exact J32 _ (by clear H J32; first | (simp [bI, *]; done) | (simp_all [bI]; done) | (exfalso; simp_all; done))
                · skip
                  refine zw_run 2 (pc' := 53) (loc' := [some (.int c)]) (stk' := [.int 1]) (fun _ _ _ => rfl) ?_
                  exact J32 _ (by clear H J32; first | (simp [bI, *]; done) | (simp_all [bI]; done) | (exfalso; simp_all; done))
theorem c_176 {fm : Value} {sx : Nat × (Nat → Int32)} {d : Nat} {Z : zr_Z} (c : Int32) : zl fm sx (d + 1) 176 [.int c] Z (fun r Z' => r = some (.int (bI (k_176 c))) ∧ Z' = Z) := by
  refine zl_of (nL := 1) (loc0 := [some (.int c)]) rfl rfl rfl (b_176 c ?_)
  exact ⟨rfl, rfl⟩
/-- MarkInlinesModel.isPunctuation -/
def k_181 (c : Int32) : Bool := ((k_176 c) || ((decide (c = 161)) || ((decide (c = 167)) || ((decide (c = 171)) || ((decide (c = 182)) || ((decide (c = 183)) || ((decide (c = 187)) || (decide (c = 191)))))))))
set_option maxRecDepth 100000 in
set_option maxHeartbeats 1000000 in
theorem b_181 {fm : Value} {sx : Nat × (Nat → Int32)} {d : Nat} {Z : zr_Z} {Q : Option Value → zr_Z → Prop} (c : Int32) (H : Q (some (.int (bI ((k_176 c) || ((decide (c = 161)) || ((decide (c = 167)) || ((decide (c = 171)) || ((decide (c = 182)) || ((decide (c = 183)) || ((decide (c = 187)) || (decide (c = 191)))))))))))) Z) : zw fm sx (d + 1) 181 0 [some (.int c)] [] Z Q := by
  refine zw_run 1 (pc' := 1) (loc' := [some (.int c)]) (stk' := [.int c]) (fun _ _ _ => rfl) ?_
  refine zw_callf (As := [.int c]) (rest := []) (c_176 c (d := d + 0)) rfl rfl rfl rfl ?_
  show zw fm sx (d + 1) 181 4 [some (.int c)] [.int (bI (k_176 c))] Z Q
  have J10 : ∀ (v9 : Int32), v9 = (bI ((k_176 c) || ((decide (c = 161)) || ((decide (c = 167)) || ((decide (c = 171)) || ((decide (c = 182)) || ((decide (c = 183)) || ((decide (c = 187)) || (decide (c = 191)))))))))) → zw fm sx (d + 1) 181 61 [some (.int c)] [.int v9] Z Q := by
    intro v9 ev9
    subst ev9
    refine zw_retz rfl rfl (bI_01 _) ?_
    exact H
  refine zw_b1 (b := (k_176 c)) (t1 := 56) (t2 := 7) (loc' := [some (.int c)]) (stk' := []) (fun _ _ _ => rfl) (fun c1 => ?_) (fun c1 => ?_)
  · skip
    refine zw_run 2 (pc' := 61) (loc' := [some (.int c)]) (stk' := [.int 1]) (fun _ _ _ => rfl) ?_
    exact J10 _ (by clear H J10; first | (simp [bI, *]; done) | (simp_all [bI]; done) | (exfalso; simp_all; done))
  · skip
    refine zw_run 2 (pc' := 11) (loc' := [some (.int c)]) (stk' := [.int 161, .int c]) (fun _ _ _ => rfl) ?_
    refine zw_br (c := c = 161) (t1 := 56) (t2 := 14) (loc' := [some (.int c)]) (stk' := []) (fun _ _ _ => rfl) (fun c2 => ?_) (fun c2 => ?_)
    · skip
      refine zw_run 2 (pc' := 61) (loc' := [some (.int c)]) (stk' := [.int 1]) (fun _ _ _ => rfl) ?_
      exact J10 _ (by clear H J10; first | (simp [bI, *]; done) | (simp_all [bI]; done) | (exfalso; simp_all; done))
    · skip
      refine zw_run 2 (pc' := 18) (loc' := [some (.int c)]) (stk' := [.int 167, .int c]) (fun _ _ _ => rfl) ?_
      refine zw_br (c := c = 167) (t1 := 56) (t2 := 21) (loc' := [some (.int c)]) (stk' := []) (fun _ _ _ => rfl) (fun c3 => ?_) (fun c3 => ?_)
      · skip
        refine zw_run 2 (pc' := 61) (loc' := [some (.int c)]) (stk' := [.int 1]) (fun _ _ _ => rfl) ?_
        exact J10 _ (by clear H J10; first | (simp [bI, *]; done) | (simp_all [bI]; done) | (exfalso; simp_all; done))
      · skip
        refine zw_run 2 (pc' := 25) (loc' := [some (.int c)]) (stk' := [.int 171, .int c]) (fun _ _ _ => rfl) ?_
        refine zw_br (c := c = 171) (t1 := 56) (t2 := 28) (loc' := [some (.int c)]) (stk' := []) (fun _ _ _ => rfl) (fun c4 => ?_) (fun c4 => ?_)
        · skip
          refine zw_run 2 (pc' := 61) (loc' := [some (.int c)]) (stk' := [.int 1]) (fun _ _ _ => rfl) ?_
          exact J10 _ (by clear H J10; first | (simp [bI, *]; done) | (simp_all [bI]; done) | (exfalso; simp_all; done))
        · skip
          refine zw_run 2 (pc' := 32) (loc' := [some (.int c)]) (stk' := [.int 182, .int c]) (fun _ _ _ => rfl) ?_
          refine zw_br (c := c = 182) (t1 := 56) (t2 := 35) (loc' := [some (.int c)]) (stk' := []) (fun _ _ _ => rfl) (fun c5 => ?_) (fun c5 => ?_)
          · skip
            refine zw_run 2 (pc' := 61) (loc' := [some (.int c)]) (stk' := [.int 1]) (fun _ _ _ => rfl) ?_
            exact J10 _ (by clear H J10; first | (simp [bI, *]; done) | (simp_all [bI]; done) | (exfalso; simp_all; done))
          · skip
            refine zw_run 2 (pc' := 39) (loc' := [some (.int c)]) (stk' := [.int 183, .int c]) (fun _ _ _ => rfl) ?_
            refine zw_br (c := c = 183) (t1 := 56) (t2 := 42) (loc' := [some (.int c)]) (stk' := []) (fun _ _ _ => rfl) (fun c6 => ?_) (fun c6 => ?_)
            · skip
              refine zw_run 2 (pc' := 61) (loc' := [some (.int c)]) (stk' := [.int 1]) (fun _ _ _ => rfl) ?_
              exact J10 _ (by clear H J10; first | (simp [bI, *]; done) | (simp_all [bI]; done) | (exfalso; simp_all; done))
            · skip
              refine zw_run 2 (pc' := 46) (loc' := [some (.int c)]) (stk' := [.int 187, .int c]) (fun _ _ _ => rfl) ?_
              refine zw_br (c := c = 187) (t1 := 56) (t2 := 49) (loc' := [some (.int c)]) (stk' := []) (fun _ _ _ => rfl) (fun c7 => ?_) (fun c7 => ?_)
              · skip
                refine zw_run 2 (pc' := 61) (loc' := [some (.int c)]) (stk' := [.int 1]) (fun _ _ _ => rfl) ?_
                exact J10 _ (by clear H J10; first | (simp [bI, *]; done) | (simp_all [bI]; done) | (exfalso; simp_all; done))
              · skip
                refine zw_run 2 (pc' := 53) (loc' := [some (.int c)]) (stk' := [.int 191, .int c]) (fun _ _ _ => rfl) ?_
                refine zw_br (c := ¬ c = 191) (t1 := 60) (t2 := 56) (loc' := [some (.int c)]) (stk' := []) (fun _ _ _ => rfl) (fun c8 => ?_) (fun c8 => ?_)
                · skip
                  refine zw_run 1 (pc' := 61) (loc' := [some (.int c)]) (stk' := [.int 0]) (fun _ _ _ => rfl) ?_
                  exact J10 _ (by clear H J10; first | (simp [bI, *]; done) | (simp_all [bI]; done) | (exfalso; simp_all; done))
                · skip
                  refine zw_run 2 (pc' := 61) (loc' := [some (.int c)]) (stk' := [.int 1]) (fun _ _ _ => rfl) ?_
                  exact J10 _ (by clear H J10; first | (simp [bI, *]; done) | (simp_all [bI]; done) | (exfalso; simp_all; done))
theorem c_181 {fm : Value} {sx : Nat × (Nat → Int32)} {d : Nat} {Z : zr_Z} (c : Int32) : zl fm sx (d + 2) 181 [.int c] Z (fun r Z' => r = some (.int (bI (k_181 c))) ∧ Z' = Z) := by
  refine zl_of (nL := 1) (loc0 := [some (.int c)]) rfl rfl rfl (b_181 c ?_)
  exact ⟨rfl, rfl⟩
/-- MarkInlinesModel.isForbidden -/
def k_182 (c : Int32) : Bool := (bif decide (32 ≤ c) then (decide (c = 65534)) || (decide (c = 65535)) else bif decide (c = 9) then (decide (c = 65534)) || (decide (c = 65535)) else bif decide (c = 10) then (decide (c = 65534)) || (decide (c = 65535)) else (!(decide (c = 13))) || ((decide (c = 65534)) || (decide (c = 65535))))
set_option maxRecDepth 100000 in
set_option maxHeartbeats 1000000 in
theorem b_182 {fm : Value} {sx : Nat × (Nat → Int32)} {d : Nat} {Z : zr_Z} {Q : Option Value → zr_Z → Prop} (c : Int32) (H : Q (some (.int (bI (bif decide (32 ≤ c) then (decide (c = 65534)) || (decide (c = 65535)) else bif decide (c = 9) then (decide (c = 65534)) || (decide (c = 65535)) else bif decide (c = 10) then (decide (c = 65534)) || (decide (c = 65535)) else (!(decide (c = 13))) || ((decide (c = 65534)) || (decide (c = 65535))))))) Z) : zw fm sx (d + 0) 182 0 [some (.int c)] [] Z Q := by
  refine zw_run 2 (pc' := 3) (loc' := [some (.int c)]) (stk' := [.int 32, .int c]) (fun _ _ _ => rfl) ?_
  have J14 : ∀ (v13 : Int32), v13 = (bI (bif decide (32 ≤ c) then (decide (c = 65534)) || (decide (c = 65535)) else bif decide (c = 9) then (decide (c = 65534)) || (decide (c = 65535)) else bif decide (c = 10) then (decide (c = 65534)) || (decide (c = 65535)) else (!(decide (c = 13))) || ((decide (c = 65534)) || (decide (c = 65535))))) → zw fm sx (d + 0) 182 41 [some (.int c)] [.int v13] Z Q := by
    intro v13 ev13
    subst ev13
    refine zw_retz rfl rfl (bI_01 _) ?_
    exact H
  refine zw_br (c := 32 ≤ c) (t1 := 24) (t2 := 6) (loc' := [some (.int c)]) (stk' := []) (fun _ _ _ => rfl) (fun c1 => ?_) (fun c1 => ?_)
  · skip
    refine zw_run 2 (pc' := 27) (loc' := [some (.int c)]) (stk' := [.int 65534, .int c]) (fun _ _ _ => rfl) ?_
    refine zw_br (c := c = 65534) (t1 := 36) (t2 := 30) (loc' := [some (.int c)]) (stk' := []) (fun _ _ _ => rfl) (fun c2 => ?_) (fun c2 => ?_)
    · skip
      refine zw_run 2 (pc' := 41) (loc' := [some (.int c)]) (stk' := [.int 1]) (fun _ _ _ => rfl) ?_
      exact J14 _ (by clear H J14; first | (simp [bI, *]; done) | (simp_all [bI]; done) | (exfalso; simp_all; done))
    · skip
      refine zw_run 2 (pc' := 33) (loc' := [some (.int c)]) (stk' := [.int 65535, .int c]) (fun _ _ _ => rfl) ?_
      refine zw_br (c := ¬ c = 65535) (t1 := 40) (t2 := 36) (loc' := [some (.int c)]) (stk' := []) (fun _ _ _ => rfl) (fun c3 => ?_) (fun c3 => ?_)
      · skip
        refine zw_run 1 (pc' := 41) (loc' := [some (.int c)]) (stk' := [.int 0]) (fun _ _ _ => rfl) ?_
        exact J14 _ (by clear H J14; first | (simp [bI, *]; done) | (simp_all [bI]; done) | (exfalso; simp_all; done))
      · skip
        refine zw_run 2 (pc' := 41) (loc' := [some (.int c)]) (stk' := [.int 1]) (fun _ _ _ => rfl) ?_
        exact J14 _ (by clear H J14; first | (simp [bI, *]; done) | (simp_all [bI]; done) | (exfalso; simp_all; done))
  · skip
    refine zw_run 2 (pc' := 9) (loc' := [some (.int c)]) (stk' := [.int 9, .int c]) (fun _ _ _ => rfl) ?_
    refine zw_br (c := c = 9) (t1 := 24) (t2 := 12) (loc' := [some (.int c)]) (stk' := []) (fun _ _ _ => rfl) (fun c4 => ?_) (fun c4 => ?_)
    · skip
      refine zw_run 2 (pc' := 27) (loc' := [some (.int c)]) (stk' := [.int 65534, .int c]) (fun _ _ _ => rfl) ?_
      refine zw_br (c := c = 65534) (t1 := 36) (t2 := 30) (loc' := [some (.int c)]) (stk' := []) (fun _ _ _ => rfl) (fun c5 => ?_) (fun c5 => ?_)
      · skip
        refine zw_run 2 (pc' := 41) (loc' := [some (.int c)]) (stk' := [.int 1]) (fun _ _ _ => rfl) ?_
        exact J14 _ (by clear H J14; first | (simp [bI, *]; done) | (simp_all [bI]; done) | (exfalso; simp_all; done))
      · skip
        refine zw_run 2 (pc' := 33) (loc' := [some (.int c)]) (stk' := [.int 65535, .int c]) (fun _ _ _ => rfl) ?_
        refine zw_br (c := ¬ c = 65535) (t1 := 40) (t2 := 36) (loc' := [some (.int c)]) (stk' := []) (fun _ _ _ => rfl) (fun c6 => ?_) (fun c6 => ?_)
        · skip
          refine zw_run 1 (pc' := 41) (loc' := [some (.int c)]) (stk' := [.int 0]) (fun _ _ _ => rfl) ?_
          exact J14 _ (by clear H J14; first | (simp [bI, *]; done) | (simp_all [bI]; done) | (exfalso; simp_all; done))
        · skip
          refine zw_run 2 (pc' := 41) (loc' := [some (.int c)]) (stk' := [.int 1]) (fun _ _ _ => rfl) ?_
          exact J14 _ (by clear H J14; first | (simp [bI, *]; done) | (simp_all [bI]; done) | (exfalso; simp_all; done))
    · skip
      refine zw_run 2 (pc' := 15) (loc' := [some (.int c)]) (stk' := [.int 10, .int c]) (fun _ _ _ => rfl) ?_
      refine zw_br (c := c = 10) (t1 := 24) (t2 := 18) (loc' := [some (.int c)]) (stk' := []) (fun _ _ _ => rfl) (fun c7 => ?_) (fun c7 => ?_)
      · skip
        refine zw_run 2 (pc' := 27) (loc' := [some (.int c)]) (stk' := [.int 65534, .int c]) (fun _ _ _ => rfl) ?_
        refine zw_br (c := c = 65534) (t1 := 36) (t2 := 30) (loc' := [some (.int c)]) (stk' := []) (fun _ _ _ => rfl) (fun c8 => ?_) (fun c8 => ?_)
        · skip
          refine zw_run 2 (pc' := 41) (loc' := [some (.int c)]) (stk' := [.int 1]) (fun _ _ _ => rfl) ?_
          exact J14 _ (by clear H J14; first | (simp [bI, *]; done) | (simp_all [bI]; done) | (exfalso; simp_all; done))
        · skip
          refine zw_run 2 (pc' := 33) (loc' := [some (.int c)]) (stk' := [.int 65535, .int c]) (fun _ _ _ => rfl) ?_
          refine zw_br (c := ¬ c = 65535) (t1 := 40) (t2 := 36) (loc' := [some (.int c)]) (stk' := []) (fun _ _ _ => rfl) (fun c9 => ?_) (fun c9 => ?_)
          · skip
            refine zw_run 1 (pc' := 41) (loc' := [some (.int c)]) (stk' := [.int 0]) (fun _ _ _ => rfl) ?_
            exact J14 _ (by clear H J14; first | (simp [bI, *]; done) | (simp_all [bI]; done) | (exfalso; simp_all; done))
          · skip
            refine zw_run 2 (pc' := 41) (loc' := [some (.int c)]) (stk' := [.int 1]) (fun _ _ _ => rfl) ?_
            exact J14 _ (by clear H J14; first | (simp [bI, *]; done) | (simp_all [bI]; done) | (exfalso; simp_all; done))
      · skip
        refine zw_run 2 (pc' := 21) (loc' := [some (.int c)]) (stk' := [.int 13, .int c]) (fun _ _ _ => rfl) ?_
        refine zw_br (c := ¬ c = 13) (t1 := 36) (t2 := 24) (loc' := [some (.int c)]) (stk' := []) (fun _ _ _ => rfl) (fun c10 => ?_) (fun c10 => ?_)
        · skip
          refine zw_run 2 (pc' := 41) (loc' := [some (.int c)]) (stk' := [.int 1]) (fun _ _ _ => rfl) ?_
          exact J14 _ (by clear H J14; first | (simp [bI, *]; done) | (simp_all [bI]; done) | (exfalso; simp_all; done))
        · skip
          refine zw_run 2 (pc' := 27) (loc' := [some (.int c)]) (stk' := [.int 65534, .int c]) (fun _ _ _ => rfl) ?_
          refine zw_br (c := c = 65534) (t1 := 36) (t2 := 30) (loc' := [some (.int c)]) (stk' := []) (fun _ _ _ => rfl) (fun c11 => ?_) (fun c11 => ?_)
          · skip
            refine zw_run 2 (pc' := 41) (loc' := [some (.int c)]) (stk' := [.int 1]) (fun _ _ _ => rfl) ?_
            exact J14 _ (by clear H J14; first | (simp [bI, *]; done) | (simp_all [bI]; done) | (exfalso; simp_all; done))
          · skip
            refine zw_run 2 (pc' := 33) (loc' := [some (.int c)]) (stk' := [.int 65535, .int c]) (fun _ _ _ => rfl) ?_
            refine zw_br (c := ¬ c = 65535) (t1 := 40) (t2 := 36) (loc' := [some (.int c)]) (stk' := []) (fun _ _ _ => rfl) (fun c12 => ?_) (fun c12 => ?_)
            · skip
              refine zw_run 1 (pc' := 41) (loc' := [some (.int c)]) (stk' := [.int 0]) (fun _ _ _ => rfl) ?_
              exact J14 _ (by clear H J14; first | (simp [bI, *]; done) | (simp_all [bI]; done) | (exfalso; simp_all; done))
            · skip
              refine zw_run 2 (pc' := 41) (loc' := [some (.int c)]) (stk' := [.int 1]) (fun _ _ _ => rfl) ?_
              exact J14 _ (by clear H J14; first | (simp [bI, *]; done) | (simp_all [bI]; done) | (exfalso; simp_all; done))
theorem c_182 {fm : Value} {sx : Nat × (Nat → Int32)} {d : Nat} {Z : zr_Z} (c : Int32) : zl fm sx (d + 1) 182 [.int c] Z (fun r Z' => r = some (.int (bI (k_182 c))) ∧ Z' = Z) := by
  refine zl_of (nL := 1) (loc0 := [some (.int c)]) rfl rfl rfl (b_182 c ?_)
  exact ⟨rfl, rfl⟩
/-- MarkInlinesModel.hexOf -/
def k_112 (c : Int32) : Int32 := (if (k_165 c) = true then (c - 48) else (if c < 97 then (if c < 65 then (-1) else (if 70 < c then (-1) else ((c - 65) + 10))) else (if 102 < c then (if c < 65 then (-1) else (if 70 < c then (-1) else ((c - 65) + 10))) else ((c - 97) + 10))))
set_option maxRecDepth 100000 in
set_option maxHeartbeats 1000000 in
theorem b_112 {fm : Value} {sx : Nat × (Nat → Int32)} {d : Nat} {Z : zr_Z} {Q : Option Value → zr_Z → Prop} (c : Int32) (H : Q (some (.int (if (k_165 c) = true then (c - 48) else (if c < 97 then (if c < 65 then (-1) else (if 70 < c then (-1) else ((c - 65) + 10))) else (if 102 < c then (if c < 65 then (-1) else (if 70 < c then (-1) else ((c - 65) + 10))) else ((c - 97) + 10)))))) Z) : zw fm sx (d + 1) 112 0 [some (.int c)] [] Z Q := by
  refine zw_run 1 (pc' := 1) (loc' := [some (.int c)]) (stk' := [.int c]) (fun _ _ _ => rfl) ?_
  refine zw_callf (As := [.int c]) (rest := []) (c_165 c (d := d + 0)) rfl rfl rfl rfl ?_
  show zw fm sx (d + 1) 112 4 [some (.int c)] [.int (bI (k_165 c))] Z Q
  have J9 : ∀ (v8 : Int32), v8 = (if (k_165 c) = true then (c - 48) else (if c < 97 then (if c < 65 then (-1) else (if 70 < c then (-1) else ((c - 65) + 10))) else (if 102 < c then (if c < 65 then (-1) else (if 70 < c then (-1) else ((c - 65) + 10))) else ((c - 97) + 10)))) → zw fm sx (d + 1) 112 59 [some (.int c)] [.int v8] Z Q := by
    intro v8 ev8
    subst ev8
    refine zw_reti (i := .nop) rfl rfl ?_
    exact H
  refine zw_b0 (b := (k_165 c)) (t1 := 7) (t2 := 14) (loc' := [some (.int c)]) (stk' := []) (fun _ _ _ => rfl) (fun c1 => ?_) (fun c1 => ?_)
  · skip
    refine zw_run 4 (pc' := 59) (loc' := [some (.int c)]) (stk' := [.int (c - 48)]) (fun _ _ _ => rfl) ?_
    exact J9 _ (by clear H J9; first | (simp [bI, *]; done) | (simp_all [bI]; done) | (exfalso; simp_all; done))
  · skip
    refine zw_run 2 (pc' := 17) (loc' := [some (.int c)]) (stk' := [.int 97, .int c]) (fun _ _ _ => rfl) ?_
    refine zw_br (c := c < 97) (t1 := 36) (t2 := 20) (loc' := [some (.int c)]) (stk' := []) (fun _ _ _ => rfl) (fun c2 => ?_) (fun c2 => ?_)
    · skip
      refine zw_run 2 (pc' := 39) (loc' := [some (.int c)]) (stk' := [.int 65, .int c]) (fun _ _ _ => rfl) ?_
      refine zw_br (c := c < 65) (t1 := 58) (t2 := 42) (loc' := [some (.int c)]) (stk' := []) (fun _ _ _ => rfl) (fun c3 => ?_) (fun c3 => ?_)
      · skip
        refine zw_run 1 (pc' := 59) (loc' := [some (.int c)]) (stk' := [.int (-1)]) (fun _ _ _ => rfl) ?_
        exact J9 _ (by clear H J9; first | (simp [bI, *]; done) | (simp_all [bI]; done) | (exfalso; simp_all; done))
      · skip
        refine zw_run 2 (pc' := 45) (loc' := [some (.int c)]) (stk' := [.int 70, .int c]) (fun _ _ _ => rfl) ?_
        refine zw_br (c := 70 < c) (t1 := 58) (t2 := 48) (loc' := [some (.int c)]) (stk' := []) (fun _ _ _ => rfl) (fun c4 => ?_) (fun c4 => ?_)
        · skip
          refine zw_run 1 (pc' := 59) (loc' := [some (.int c)]) (stk' := [.int (-1)]) (fun _ _ _ => rfl) ?_
          exact J9 _ (by clear H J9; first | (simp [bI, *]; done) | (simp_all [bI]; done) | (exfalso; simp_all; done))
        · skip
          refine zw_run 6 (pc' := 59) (loc' := [some (.int c)]) (stk' := [.int ((c - 65) + 10)]) (fun _ _ _ => rfl) ?_
          exact J9 _ (by clear H J9; first | (simp [bI, *]; done) | (simp_all [bI]; done) | (exfalso; simp_all; done))
    · skip
      refine zw_run 2 (pc' := 23) (loc' := [some (.int c)]) (stk' := [.int 102, .int c]) (fun _ _ _ => rfl) ?_
      refine zw_br (c := 102 < c) (t1 := 36) (t2 := 26) (loc' := [some (.int c)]) (stk' := []) (fun _ _ _ => rfl) (fun c5 => ?_) (fun c5 => ?_)
      · skip
        refine zw_run 2 (pc' := 39) (loc' := [some (.int c)]) (stk' := [.int 65, .int c]) (fun _ _ _ => rfl) ?_
        refine zw_br (c := c < 65) (t1 := 58) (t2 := 42) (loc' := [some (.int c)]) (stk' := []) (fun _ _ _ => rfl) (fun c6 => ?_) (fun c6 => ?_)
        · skip
          refine zw_run 1 (pc' := 59) (loc' := [some (.int c)]) (stk' := [.int (-1)]) (fun _ _ _ => rfl) ?_
          exact J9 _ (by clear H J9; first | (simp [bI, *]; done) | (simp_all [bI]; done) | (exfalso; simp_all; done))
        · skip
          refine zw_run 2 (pc' := 45) (loc' := [some (.int c)]) (stk' := [.int 70, .int c]) (fun _ _ _ => rfl) ?_
          refine zw_br (c := 70 < c) (t1 := 58) (t2 := 48) (loc' := [some (.int c)]) (stk' := []) (fun _ _ _ => rfl) (fun c7 => ?_) (fun c7 => ?_)
          · skip
            refine zw_run 1 (pc' := 59) (loc' := [some (.int c)]) (stk' := [.int (-1)]) (fun _ _ _ => rfl) ?_
            exact J9 _ (by clear H J9; first | (simp [bI, *]; done) | (simp_all [bI]; done) | (exfalso; simp_all; done))
          · skip
            refine zw_run 6 (pc' := 59) (loc' := [some (.int c)]) (stk' := [.int ((c - 65) + 10)]) (fun _ _ _ => rfl) ?_
            exact J9 _ (by clear H J9; first | (simp [bI, *]; done) | (simp_all [bI]; done) | (exfalso; simp_all; done))
      · skip
        refine zw_run 6 (pc' := 59) (loc' := [some (.int c)]) (stk' := [.int ((c - 97) + 10)]) (fun _ _ _ => rfl) ?_
        exact J9 _ (by clear H J9; first | (simp [bI, *]; done) | (simp_all [bI]; done) | (exfalso; simp_all; done))
theorem c_112 {fm : Value} {sx : Nat × (Nat → Int32)} {d : Nat} {Z : zr_Z} (c : Int32) : zl fm sx (d + 2) 112 [.int c] Z (fun r Z' => r = some (.int (k_112 c)) ∧ Z' = Z) := by
  refine zl_of (nL := 1) (loc0 := [some (.int c)]) rfl rfl rfl (b_112 c ?_)
  exact ⟨rfl, rfl⟩
/-- MarkInlinesModel.isMail -/
def k_141 (c : Int32) : Bool := ((k_154 c) || ((k_165 c) || ((decide (c = 46)) || ((decide (c = 45)) || ((decide (c = 95)) || (decide (c = 43)))))))
set_option maxRecDepth 100000 in
set_option maxHeartbeats 1000000 in
theorem b_141 {fm : Value} {sx : Nat × (Nat → Int32)} {d : Nat} {Z : zr_Z} {Q : Option Value → zr_Z → Prop} (c : Int32) (H : Q (some (.int (bI ((k_154 c) || ((k_165 c) || ((decide (c = 46)) || ((decide (c = 45)) || ((decide (c = 95)) || (decide (c = 43)))))))))) Z) : zw fm sx (d + 1) 141 0 [some (.int c)] [] Z Q := by
  refine zw_run 1 (pc' := 1) (loc' := [some (.int c)]) (stk' := [.int c]) (fun _ _ _ => rfl) ?_
  refine zw_callf (As := [.int c]) (rest := []) (c_154 c (d := d + 0)) rfl rfl rfl rfl ?_
  show zw fm sx (d + 1) 141 4 [some (.int c)] [.int (bI (k_154 c))] Z Q
  have J8 : ∀ (v7 : Int32), v7 = (bI ((k_154 c) || ((k_165 c) || ((decide (c = 46)) || ((decide (c = 45)) || ((decide (c = 95)) || (decide (c = 43)))))))) → zw fm sx (d + 1) 141 43 [some (.int c)] [.int v7] Z Q := by
    intro v7 ev7
    subst ev7
    refine zw_retz rfl rfl (bI_01 _) ?_
    exact H
  refine zw_b1 (b := (k_154 c)) (t1 := 38) (t2 := 7) (loc' := [some (.int c)]) (stk' := []) (fun _ _ _ => rfl) (fun c1 => ?_) (fun c1 => ?_)
  · skip
    refine zw_run 2 (pc' := 43) (loc' := [some (.int c)]) (stk' := [.int 1]) (fun _ _ _ => rfl) ?_
    exact J8 _ (by clear H J8; first | (simp [bI, *]; done) | (simp_all [bI]; done) | (exfalso; simp_all; done))
  · skip
    refine zw_run 1 (pc' := 8) (loc' := [some (.int c)]) (stk' := [.int c]) (fun _ _ _ => rfl) ?_
    refine zw_callf (As := [.int c]) (rest := []) (c_165 c (d := d + 0)) rfl rfl rfl rfl ?_
    show zw fm sx (d + 1) 141 11 [some (.int c)] [.int (bI (k_165 c))] Z Q
    refine zw_b1 (b := (k_165 c)) (t1 := 38) (t2 := 14) (loc' := [some (.int c)]) (stk' := []) (fun _ _ _ => rfl) (fun c2 => ?_) (fun c2 => ?_)
    · skip
      refine zw_run 2 (pc' := 43) (loc' := [some (.int c)]) (stk' := [.int 1]) (fun _ _ _ => rfl) ?_
      exact J8 _ (by clear H J8; first | (simp [bI, *]; done) | (simp_all [bI]; done) | (exfalso; simp_all; done))
    · skip
      refine zw_run 2 (pc' := 17) (loc' := [some (.int c)]) (stk' := [.int 46, .int c]) (fun _ _ _ => rfl) ?_
      refine zw_br (c := c = 46) (t1 := 38) (t2 := 20) (loc' := [some (.int c)]) (stk' := []) (fun _ _ _ => rfl) (fun c3 => ?_) (fun c3 => ?_)
      · skip
        refine zw_run 2 (pc' := 43) (loc' := [some (.int c)]) (stk' := [.int 1]) (fun _ _ _ => rfl) ?_
        exact J8 _ (by clear H J8; first | (simp [bI, *]; done) | (simp_all [bI]; done) | (exfalso; simp_all; done))
      · skip
        refine zw_run 2 (pc' := 23) (loc' := [some (.int c)]) (stk' := [.int 45, .int c]) (fun _ _ _ => rfl) ?_
        refine zw_br (c := c = 45) (t1 := 38) (t2 := 26) (loc' := [some (.int c)]) (stk' := []) (fun _ _ _ => rfl) (fun c4 => ?_) (fun c4 => ?_)
        · skip
          refine zw_run 2 (pc' := 43) (loc' := [some (.int c)]) (stk' := [.int 1]) (fun _ _ _ => rfl) ?_
          exact J8 _ (by clear H J8; first | (simp [bI, *]; done) | (simp_all [bI]; done) | (exfalso; simp_all; done))
        · skip
          refine zw_run 2 (pc' := 29) (loc' := [some (.int c)]) (stk' := [.int 95, .int c]) (fun _ _ _ => rfl) ?_
          refine zw_br (c := c = 95) (t1 := 38) (t2 := 32) (loc' := [some (.int c)]) (stk' := []) (fun _ _ _ => rfl) (fun c5 => ?_) (fun c5 => ?_)
          · skip
            refine zw_run 2 (pc' := 43) (loc' := [some (.int c)]) (stk' := [.int 1]) (fun _ _ _ => rfl) ?_
            exact J8 _ (by clear H J8; first | (simp [bI, *]; done) | (simp_all [bI]; done) | (exfalso; simp_all; done))
          · skip
            refine zw_run 2 (pc' := 35) (loc' := [some (.int c)]) (stk' := [.int 43, .int c]) (fun _ _ _ => rfl) ?_
            refine zw_br (c := ¬ c = 43) (t1 := 42) (t2 := 38) (loc' := [some (.int c)]) (stk' := []) (fun _ _ _ => rfl) (fun c6 => ?_) (fun c6 => ?_)
            · skip
              refine zw_run 1 (pc' := 43) (loc' := [some (.int c)]) (stk' := [.int 0]) (fun _ _ _ => rfl) ?_
              exact J8 _ (by clear H J8; first | (simp [bI, *]; done) | (simp_all [bI]; done) | (exfalso; simp_all; done))
            · skip
              refine zw_run 2 (pc' := 43) (loc' := [some (.int c)]) (stk' := [.int 1]) (fun _ _ _ => rfl) ?_
              exact J8 _ (by clear H J8; first | (simp [bI, *]; done) | (simp_all [bI]; done) | (exfalso; simp_all; done))
theorem c_141 {fm : Value} {sx : Nat × (Nat → Int32)} {d : Nat} {Z : zr_Z} (c : Int32) : zl fm sx (d + 2) 141 [.int c] Z (fun r Z' => r = some (.int (bI (k_141 c))) ∧ Z' = Z) := by
  refine zl_of (nL := 1) (loc0 := [some (.int c)]) rfl rfl rfl (b_141 c ?_)
  exact ⟨rfl, rfl⟩
/-- MarkInlinesModel.leans -/
def k_136 (p : Bool) (q : Bool) (t : Bool) (s : Bool) : Bool := ((!p) && ((!q) || (t || s)))
set_option maxRecDepth 100000 in
set_option maxHeartbeats 1000000 in
theorem b_136 {fm : Value} {sx : Nat × (Nat → Int32)} {d : Nat} {Z : zr_Z} {Q : Option Value → zr_Z → Prop} (p : Bool) (q : Bool) (t : Bool) (s : Bool) (H : Q (some (.int (bI ((!p) && ((!q) || (t || s)))))) Z) : zw fm sx (d + 0) 136 0 [some (.int (bI p)), some (.int (bI q)), some (.int (bI t)), some (.int (bI s))] [] Z Q := by
  refine zw_run 1 (pc' := 1) (loc' := [some (.int (bI p)), some (.int (bI q)), some (.int (bI t)), some (.int (bI s))]) (stk' := [.int (bI p)]) (fun _ _ _ => rfl) ?_
  have J6 : ∀ (v5 : Int32), v5 = (bI ((!p) && ((!q) || (t || s)))) → zw fm sx (d + 0) 136 21 [some (.int (bI p)), some (.int (bI q)), some (.int (bI t)), some (.int (bI s))] [.int v5] Z Q := by
    intro v5 ev5
    subst ev5
    refine zw_retz rfl rfl (bI_01 _) ?_
    exact H
  refine zw_b1 (b := p) (t1 := 20) (t2 := 4) (loc' := [some (.int (bI p)), some (.int (bI q)), some (.int (bI t)), some (.int (bI s))]) (stk' := []) (fun _ _ _ => rfl) (fun c1 => ?_) (fun c1 => ?_)
  · skip
    refine zw_run 1 (pc' := 21) (loc' := [some (.int (bI p)), some (.int (bI q)), some (.int (bI t)), some (.int (bI s))]) (stk' := [.int 0]) (fun _ _ _ => rfl) ?_
    exact J6 _ (by clear H J6; first | (simp [bI, *]; done) | (simp_all [bI]; done) | (exfalso; simp_all; done))
  · skip
    refine zw_run 1 (pc' := 5) (loc' := [some (.int (bI p)), some (.int (bI q)), some (.int (bI t)), some (.int (bI s))]) (stk' := [.int (bI q)]) (fun _ _ _ => rfl) ?_
    refine zw_b0 (b := q) (t1 := 8) (t2 := 16) (loc' := [some (.int (bI p)), some (.int (bI q)), some (.int (bI t)), some (.int (bI s))]) (stk' := []) (fun _ _ _ => rfl) (fun c2 => ?_) (fun c2 => ?_)
    · skip
      refine zw_run 1 (pc' := 9) (loc' := [some (.int (bI p)), some (.int (bI q)), some (.int (bI t)), some (.int (bI s))]) (stk' := [.int (bI t)]) (fun _ _ _ => rfl) ?_
      refine zw_b1 (b := t) (t1 := 16) (t2 := 12) (loc' := [some (.int (bI p)), some (.int (bI q)), some (.int (bI t)), some (.int (bI s))]) (stk' := []) (fun _ _ _ => rfl) (fun c3 => ?_) (fun c3 => ?_)
      · skip
        refine zw_run 2 (pc' := 21) (loc' := [some (.int (bI p)), some (.int (bI q)), some (.int (bI t)), some (.int (bI s))]) (stk' := [.int 1]) (fun _ _ _ => rfl) ?_
        exact J6 _ (by clear H J6; first | (simp [bI, *]; done) | (simp_all [bI]; done) | (exfalso; simp_all; done))
      · skip
        refine zw_run 1 (pc' := 13) (loc' := [some (.int (bI p)), some (.int (bI q)), some (.int (bI t)), some (.int (bI s))]) (stk' := [.int (bI s)]) (fun _ _ _ => rfl) ?_
        refine zw_b0 (b := s) (t1 := 16) (t2 := 20) (loc' := [some (.int (bI p)), some (.int (bI q)), some (.int (bI t)), some (.int (bI s))]) (stk' := []) (fun _ _ _ => rfl) (fun c4 => ?_) (fun c4 => ?_)
        · skip
          refine zw_run 2 (pc' := 21) (loc' := [some (.int (bI p)), some (.int (bI q)), some (.int (bI t)), some (.int (bI s))]) (stk' := [.int 1]) (fun _ _ _ => rfl) ?_
          exact J6 _ (by clear H J6; first | (simp [bI, *]; done) | (simp_all [bI]; done) | (exfalso; simp_all; done))
        · skip
          refine zw_run 1 (pc' := 21) (loc' := [some (.int (bI p)), some (.int (bI q)), some (.int (bI t)), some (.int (bI s))]) (stk' := [.int 0]) (fun _ _ _ => rfl) ?_
          exact J6 _ (by clear H J6; first | (simp [bI, *]; done) | (simp_all [bI]; done) | (exfalso; simp_all; done))
    · skip
      refine zw_run 2 (pc' := 21) (loc' := [some (.int (bI p)), some (.int (bI q)), some (.int (bI t)), some (.int (bI s))]) (stk' := [.int 1]) (fun _ _ _ => rfl) ?_
      exact J6 _ (by clear H J6; first | (simp [bI, *]; done) | (simp_all [bI]; done) | (exfalso; simp_all; done))
theorem c_136 {fm : Value} {sx : Nat × (Nat → Int32)} {d : Nat} {Z : zr_Z} (p : Bool) (q : Bool) (t : Bool) (s : Bool) : zl fm sx (d + 1) 136 [.int (bI p), .int (bI q), .int (bI t), .int (bI s)] Z (fun r Z' => r = some (.int (bI (k_136 p q t s))) ∧ Z' = Z) := by
  refine zl_of (nL := 4) (loc0 := [some (.int (bI p)), some (.int (bI q)), some (.int (bI t)), some (.int (bI s))]) rfl rfl rfl (b_136 p q t s ?_)
  exact ⟨rfl, rfl⟩
