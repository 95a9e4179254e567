/-! walks into Option; written by wip/whole/gen_opt.py -/
/-! functions into Option: none where an index is out of range or the fuel is gone -/
def oF : Nat := 1000000
def oq {α : Type} (F : Option α) (P : α → Prop) : Prop := ∃ x, F = some x ∧ P x
def olet {α β : Type} (a : α) (k : α → β) : β := k a
theorem oq_ob {α : Type} {c : Prop} [Decidable c] {F : Option α} {P : α → Prop} (h : oq (if c then F else none) P) : c ∧ oq F P := by
  by_cases hc : c
  · rw [if_pos hc] at h; exact ⟨hc, h⟩
  · rw [if_neg hc] at h; obtain ⟨x, h, _⟩ := h; cases h
theorem oq_bind {α β : Type} {F : Option α} {k : α → Option β} {P : β → Prop} (h : oq (Option.bind F k) P) : ∃ x, F = some x ∧ oq (k x) P := by
  cases F with
  | none => obtain ⟨x, h, _⟩ := h; cases h
  | some x => exact ⟨x, rfl, h⟩
theorem oq_let {α β : Type} {a : α} {k : α → Option β} {P : β → Prop} (h : oq (olet a k) P) (x : α) (hx : x = a) : oq (k x) P := by
  subst hx; exact h
theorem oq_some {α : Type} {x : α} {P : α → Prop} (h : oq (some x) P) : P x := by
  obtain ⟨y, h, p⟩ := h
  cases h; exact p
theorem oq_none {α : Type} {P : α → Prop} : ¬ oq (none : Option α) P := by
  rintro ⟨x, h, _⟩; cases h
abbrev inq (j : Nat) (i : Int32) : Prop := ¬ (i < 0 ∨ zr_alen j ≤ i.toNatClampNeg)
/-- the reference's tape is no longer than its array -/
abbrev sok (Z : zr_Z) : Prop := (zf Z 3).toInt ≤ 1500
/-- an index of a string -/
abbrev sci (j : Nat) (i : Int32) : Prop := ¬ i < 0 ∧ i.toNatClampNeg < (am_byt.getD j []).length
def sch (j : Nat) (i : Int32) : Int32 := (am_byt.getD j []).getD i.toNatClampNeg 0
def sln (j : Nat) : Int32 := nI (am_byt.getD j []).length
theorem zr_ci_str : ∀ j, j < 27 → zr_ci (2 + 2 * j) = some 12 := by decide +kernel
theorem zr_cal_187 (i : Nat) (v : Value) {j : Nat} (hj : j < 27) : zr_cal (.invokevirtual i, 3, 187, 0, v) [.ref (2 + 2 * j)] = true := by
  unfold zr_cal
  dsimp only
  rw [zr_ci_str j hj]
  rfl
theorem zr_cal_188 (i : Nat) (v : Value) {j : Nat} (hj : j < 27) : zr_cal (.invokevirtual i, 3, 188, 0, v) [.ref (2 + 2 * j)] = true := by
  unfold zr_cal
  dsimp only
  rw [zr_ci_str j hj]
  rfl
theorem zr_cal_189 (i : Nat) (v : Value) (k : Int32) {j : Nat} (hj : j < 27) : zr_cal (.invokevirtual i, 3, 189, 1, v) [.ref (2 + 2 * j), .int k] = true := by
  unfold zr_cal
  dsimp only
  rw [zr_ci_str j hj]
  rfl
theorem c_sch {fm : Value} {sx : Nat × (Nat → Int32)} {d : Nat} {Z : zr_Z} (hu : fm = .null ∨ ∃ q, fm = .ref q) (j : Nat) (hj : j < 27) (i : Int32) (hb : sci j i) : zl fm sx (d + 4) 189 [.ref (2 + 2 * j), .int i] Z (fun r Z' => r = some (.int (sch j i)) ∧ Z' = Z) := by
  obtain ⟨k, hk, e, hc⟩ := nI_of_nn hb.1
  subst e
  have h2 := hb.2
  rw [hc] at h2
  have := c_str_charAt (fm := fm) (sx := sx) (d := d) (Z := Z) j hj k h2 hu
  unfold sch
  rw [hc]
  exact this
theorem c_sln {fm : Value} {sx : Nat × (Nat → Int32)} {d : Nat} {Z : zr_Z} (j : Nat) (hj : j < 27) : zl fm sx (d + 2) 187 [.ref (2 + 2 * j)] Z (fun r Z' => r = some (.int (sln j)) ∧ Z' = Z) := c_str_len j hj
theorem zw_max {fm : Value} {sx : Nat × (Nat → Int32)} {d y pc : Nat} {loc : am_L} {Z : zr_Z} {Q : Option Value → zr_Z → Prop} {i n b : Nat} {u : Value} {a x : Int32} {rest : List Value} (ho : am_ops y pc = some (.invokestatic i, n, 206, b, u)) (hsum : Nat.ble (rest.map fun v => v.category).sum 8 = true) (kk : zw fm sx d y (pc + 3) loc (.int (zmax x a) :: rest) Z Q) : zw fm sx d y pc loc (.int a :: .int x :: rest) Z Q := zw_mm ho (Or.inl rfl) hsum kk
theorem zw_min {fm : Value} {sx : Nat × (Nat → Int32)} {d y pc : Nat} {loc : am_L} {Z : zr_Z} {Q : Option Value → zr_Z → Prop} {i n b : Nat} {u : Value} {a x : Int32} {rest : List Value} (ho : am_ops y pc = some (.invokestatic i, n, 207, b, u)) (hsum : Nat.ble (rest.map fun v => v.category).sum 8 = true) (kk : zw fm sx d y (pc + 3) loc (.int (zmin x a) :: rest) Z Q) : zw fm sx d y pc loc (.int a :: .int x :: rest) Z Q := zw_mm ho (Or.inr rfl) hsum kk
def sem (j : Nat) : Bool := decide ((am_byt.getD j []).length = 0)
theorem c_sem {fm : Value} {sx : Nat × (Nat → Int32)} {d : Nat} {Z : zr_Z} (j : Nat) (hj : j < 27) : zl fm sx (d + 1) 188 [.ref (2 + 2 * j)] Z (fun r Z' => r = some (.int (bI (sem j))) ∧ Z' = Z) := c_str_empty j hj
set_option maxRecDepth 100000 in
set_option maxHeartbeats 1000000 in
theorem b_183 {fm : Value} {sx : Nat × (Nat → Int32)} {d : Nat} {Z : zr_Z} {Q : Option Value → zr_Z → Prop} (k : Int32) (H : ((if k < 0 then True else (if k < (zf Z 3) then (inq 137 k ∧ True) else True)) ∧ Q (some (.int (if k < 0 then (-1) else (if k < (zf Z 3) then (zv Z 137 k) else (-1) : Int32) : Int32))) Z)) : zw fm sx (d + 0) 183 0 [some (.ref 136), some (.int k)] [] Z Q := by
  refine zw_run 1 (pc' := 1) (loc' := [some (.ref 136), some (.int k)]) (stk' := [.int k]) (fun _ _ _ => rfl) ?_
  obtain ⟨HR, H⟩ := H
  have J5 : ∀ (v4 : Int32), v4 = (if k < 0 then (-1) else (if k < (zf Z 3) then (zv Z 137 k) else (-1) : Int32) : Int32) → zw fm sx (d + 0) 183 22 [some (.ref 136), some (.int k)] [.int v4] Z Q := by
    intro v4 ev4
    subst ev4
    refine zw_reti (i := .nop) rfl rfl ?_
    exact H
  clear H
  have H := HR
  refine zw_br (c := k < 0) (t1 := 12) (t2 := 4) (loc' := [some (.ref 136), some (.int k)]) (stk' := []) (fun _ _ _ => rfl) (fun c1 => ?_) (fun c1 => ?_)
  · rw [if_pos c1] at H
    refine zw_run 2 (pc' := 22) (loc' := [some (.ref 136), some (.int k)]) (stk' := [.int (-1)]) (fun _ _ _ => rfl) ?_
    exact J5 _ (by first | (rw [if_pos c1]; done) | (rw [if_pos c1]; rfl) | (clear H J5; simp_all [bI]; done))
  · rw [if_neg c1] at H
    refine zw_run 2 (pc' := 6) (loc' := [some (.ref 136), some (.int k)]) (stk' := [.ref 136, .int k]) (fun _ _ _ => rfl) ?_
    refine zw_mget (v := .int (zf Z 3)) rfl rfl ?_
    refine zw_br (c := k < (zf Z 3)) (t1 := 16) (t2 := 12) (loc' := [some (.ref 136), some (.int k)]) (stk' := []) (fun _ _ _ => rfl) (fun c2 => ?_) (fun c2 => ?_)
    · rw [if_pos c2] at H
      refine zw_run 1 (pc' := 17) (loc' := [some (.ref 136), some (.int k)]) (stk' := [.ref 136]) (fun _ _ _ => rfl) ?_
      refine zw_mget (v := .ref 137) rfl rfl ?_
      refine zw_run 1 (pc' := 21) (loc' := [some (.ref 136), some (.int k)]) (stk' := [.int k, .ref 137]) (fun _ _ _ => rfl) ?_
      obtain ⟨b3, H⟩ := H
      refine zw_iald (j := 137) rfl (by decide) (by decide) rfl b3 ?_
      exact J5 _ (by first | (rw [if_neg c1, if_pos c2]; done) | (rw [if_neg c1, if_pos c2]; rfl) | (clear H J5; simp_all [bI]; done))
    · rw [if_neg c2] at H
      refine zw_run 2 (pc' := 22) (loc' := [some (.ref 136), some (.int k)]) (stk' := [.int (-1)]) (fun _ _ _ => rfl) ?_
      exact J5 _ (by first | (rw [if_neg c1, if_neg c2]; done) | (rw [if_neg c1, if_neg c2]; rfl) | (clear H J5; simp_all [bI]; done))
/-- the reference's look at its tape -/
def ra (Z : zr_Z) (k : Int32) : Int32 := if k < 0 then -1 else if k < zf Z 3 then zv Z 137 k else -1
theorem c_183 {fm : Value} {sx : Nat × (Nat → Int32)} {d : Nat} {Z : zr_Z} (hS : sok Z) (k : Int32) : zl fm sx (d + 1) 183 [.ref 136, .int k] Z (fun r Z' => r = some (.int (ra Z k)) ∧ Z' = Z) := by
  refine zl_of (nL := 2) (loc0 := [some (.ref 136), some (.int k)]) rfl rfl rfl (b_183 k ⟨?_, rfl, rfl⟩)
  by_cases h1 : k < 0
  · rw [if_pos h1]; trivial
  · rw [if_neg h1]
    by_cases h2 : k < zf Z 3
    · rw [if_pos h2]
      refine ⟨?_, trivial⟩
      obtain ⟨j, hj, e, hc⟩ := nI_of_nn h1
      have q := i32_lt.mp h2
      unfold inq
      rw [hc]
      subst e
      have q2 := nI_toInt (n := j) (by omega)
      rintro (z | z)
      · exact h1 z
      · have : zr_alen 137 = 1500 := rfl
        omega
    · rw [if_neg h2]; trivial
set_option maxRecDepth 100000 in
set_option maxHeartbeats 1000000 in
theorem b_111 {fm : Value} {sx : Nat × (Nat → Int32)} {d : Nat} {Z : zr_Z} {Q : Option Value → zr_Z → Prop} (k : Int32) (hS : sok Z) (H : Q (some (.int (bI ((decide ((ra Z k) = 92)) && (k_176 (ra Z (k + 1))))))) Z) : zw fm sx (d + 1) 111 0 [some (.ref 136), some (.int k)] [] Z Q := by
  refine zw_run 2 (pc' := 2) (loc' := [some (.ref 136), some (.int k)]) (stk' := [.int k, .ref 136]) (fun _ _ _ => rfl) ?_
  refine zw_callf (As := [.ref 136, .int k]) (rest := []) (c_183 (Z := Z) hS k (d := d + 0)) rfl rfl rfl rfl ?_
  show zw fm sx (d + 1) 111 5 [some (.ref 136), some (.int k)] [.int (ra Z k)] Z Q
  refine zw_run 1 (pc' := 7) (loc' := [some (.ref 136), some (.int k)]) (stk' := [.int 92, .int (ra Z k)]) (fun _ _ _ => rfl) ?_
  have J4 : ∀ (v3 : Int32), v3 = (bI ((decide ((ra Z k) = 92)) && (k_176 (ra Z (k + 1))))) → zw fm sx (d + 1) 111 28 [some (.ref 136), some (.int k)] [.int v3] Z Q := by
    intro v3 ev3
    subst ev3
    refine zw_retz rfl rfl (bI_01 _) ?_
    exact H
  refine zw_br (c := ¬ (ra Z k) = 92) (t1 := 27) (t2 := 10) (loc' := [some (.ref 136), some (.int k)]) (stk' := []) (fun _ _ _ => rfl) (fun c1 => ?_) (fun c1 => ?_)
  · skip
    refine zw_run 1 (pc' := 28) (loc' := [some (.ref 136), some (.int k)]) (stk' := [.int 0]) (fun _ _ _ => rfl) ?_
    exact J4 _ (by clear H J4; first | (simp [bI, c1]; done) | (simp [bI, *]; done) | (simp_all [bI]; done) | (exfalso; simp_all; done))
  · skip
    refine zw_run 4 (pc' := 14) (loc' := [some (.ref 136), some (.int k)]) (stk' := [.int (k + 1), .ref 136]) (fun _ _ _ => rfl) ?_
    refine zw_callf (As := [.ref 136, .int (k + 1)]) (rest := []) (c_183 (Z := Z) hS (k + 1) (d := d + 0)) rfl rfl rfl rfl ?_
    show zw fm sx (d + 1) 111 17 [some (.ref 136), some (.int k)] [.int (ra Z (k + 1))] Z Q
    refine zw_callf (As := [.int (ra Z (k + 1))]) (rest := []) (c_176 (ra Z (k + 1)) (d := d + 0)) rfl rfl rfl rfl ?_
    show zw fm sx (d + 1) 111 20 [some (.ref 136), some (.int k)] [.int (bI (k_176 (ra Z (k + 1))))] Z Q
    refine zw_b0 (b := (k_176 (ra Z (k + 1)))) (t1 := 23) (t2 := 27) (loc' := [some (.ref 136), some (.int k)]) (stk' := []) (fun _ _ _ => rfl) (fun c2 => ?_) (fun c2 => ?_)
    · skip
      refine zw_run 2 (pc' := 28) (loc' := [some (.ref 136), some (.int k)]) (stk' := [.int 1]) (fun _ _ _ => rfl) ?_
      exact J4 _ (by clear H J4; first | (simp [bI, c1, c2]; done) | (simp [bI, *]; done) | (simp_all [bI]; done) | (exfalso; simp_all; done))
    · skip
      refine zw_run 1 (pc' := 28) (loc' := [some (.ref 136), some (.int k)]) (stk' := [.int 0]) (fun _ _ _ => rfl) ?_
      exact J4 _ (by clear H J4; first | (simp [bI, c1, c2]; done) | (simp [bI, *]; done) | (simp_all [bI]; done) | (exfalso; simp_all; done))
/-- an escape, as the reference sees it -/
def rp (Z : zr_Z) (k : Int32) : Bool := (decide ((ra Z k) = 92)) && (k_176 (ra Z (k + 1)))
theorem c_111 {fm : Value} {sx : Nat × (Nat → Int32)} {d : Nat} {Z : zr_Z} (hS : sok Z) (k : Int32) : zl fm sx (d + 2) 111 [.ref 136, .int k] Z (fun r Z' => r = some (.int (bI (rp Z k))) ∧ Z' = Z) :=
  zl_of (nL := 2) (loc0 := [some (.ref 136), some (.int k)]) rfl rfl rfl (b_111 k hS ⟨rfl, rfl⟩)
/-- MarkInlinesModel.isBlank -/
def k_135 (c : Int32) : Bool := ((decide (c = (-1))) || ((k_143 c) || (decide (c = 160))))
set_option maxRecDepth 100000 in
set_option maxHeartbeats 1000000 in
theorem b_135 {fm : Value} {sx : Nat × (Nat → Int32)} {d : Nat} {Z : zr_Z} {Q : Option Value → zr_Z → Prop} (c : Int32) (H : Q (some (.int (bI ((decide (c = (-1))) || ((k_143 c) || (decide (c = 160))))))) Z) : zw fm sx (d + 1) 135 0 [some (.ref 136), some (.int c)] [] Z Q := by
  refine zw_run 2 (pc' := 2) (loc' := [some (.ref 136), some (.int c)]) (stk' := [.int (-1), .int c]) (fun _ _ _ => rfl) ?_
  have J5 : ∀ (v4 : Int32), v4 = (bI ((decide (c = (-1))) || ((k_143 c) || (decide (c = 160))))) → zw fm sx (d + 1) 135 24 [some (.ref 136), some (.int c)] [.int v4] Z Q := by
    intro v4 ev4
    subst ev4
    refine zw_retz rfl rfl (bI_01 _) ?_
    exact H
  refine zw_br (c := c = (-1)) (t1 := 19) (t2 := 5) (loc' := [some (.ref 136), some (.int c)]) (stk' := []) (fun _ _ _ => rfl) (fun c1 => ?_) (fun c1 => ?_)
  · skip
    refine zw_run 2 (pc' := 24) (loc' := [some (.ref 136), some (.int c)]) (stk' := [.int 1]) (fun _ _ _ => rfl) ?_
    exact J5 _ (by clear H J5; first | (simp [bI, c1]; done) | (simp [bI, *]; done) | (simp_all [bI]; done) | (exfalso; simp_all; done))
  · skip
    refine zw_run 1 (pc' := 6) (loc' := [some (.ref 136), some (.int c)]) (stk' := [.int c]) (fun _ _ _ => rfl) ?_
    refine zw_callf (As := [.int c]) (rest := []) (c_143 c (d := d + 0)) rfl rfl rfl rfl ?_
    show zw fm sx (d + 1) 135 9 [some (.ref 136), some (.int c)] [.int (bI (k_143 c))] Z Q
    refine zw_b1 (b := (k_143 c)) (t1 := 19) (t2 := 12) (loc' := [some (.ref 136), some (.int c)]) (stk' := []) (fun _ _ _ => rfl) (fun c2 => ?_) (fun c2 => ?_)
    · skip
      refine zw_run 2 (pc' := 24) (loc' := [some (.ref 136), some (.int c)]) (stk' := [.int 1]) (fun _ _ _ => rfl) ?_
      exact J5 _ (by clear H J5; first | (simp [bI, c1, c2]; done) | (simp [bI, *]; done) | (simp_all [bI]; done) | (exfalso; simp_all; done))
    · skip
      refine zw_run 2 (pc' := 16) (loc' := [some (.ref 136), some (.int c)]) (stk' := [.int 160, .int c]) (fun _ _ _ => rfl) ?_
      refine zw_br (c := ¬ c = 160) (t1 := 23) (t2 := 19) (loc' := [some (.ref 136), some (.int c)]) (stk' := []) (fun _ _ _ => rfl) (fun c3 => ?_) (fun c3 => ?_)
      · skip
        refine zw_run 1 (pc' := 24) (loc' := [some (.ref 136), some (.int c)]) (stk' := [.int 0]) (fun _ _ _ => rfl) ?_
        exact J5 _ (by clear H J5; first | (simp [bI, c1, c2, c3]; done) | (simp [bI, *]; done) | (simp_all [bI]; done) | (exfalso; simp_all; done))
      · skip
        refine zw_run 2 (pc' := 24) (loc' := [some (.ref 136), some (.int c)]) (stk' := [.int 1]) (fun _ _ _ => rfl) ?_
        exact J5 _ (by clear H J5; first | (simp [bI, c1, c2, c3]; done) | (simp [bI, *]; done) | (simp_all [bI]; done) | (exfalso; simp_all; done))
theorem c_135 {fm : Value} {sx : Nat × (Nat → Int32)} {d : Nat} {Z : zr_Z} (c : Int32) : zl fm sx (d + 2) 135 [.ref 136, .int c] Z (fun r Z' => r = some (.int (bI (k_135 c))) ∧ Z' = Z) := by
  refine zl_of (nL := 2) (loc0 := [some (.ref 136), some (.int c)]) rfl rfl rfl (b_135 c ?_)
  exact ⟨rfl, rfl⟩
/-- MarkInlinesModel.isNode -/
def f_161 (Z : zr_Z) (k : Int32) : Bool := ((!(decide (k < 0))) && (!(decide ((zf Z 45) ≤ k))))
set_option maxRecDepth 100000 in
set_option maxHeartbeats 1000000 in
theorem b_161 {fm : Value} {sx : Nat × (Nat → Int32)} {d : Nat} {Z : zr_Z} {Q : Option Value → zr_Z → Prop} (k : Int32) (H : Q (some (.int (bI ((!(decide (k < 0))) && (!(decide ((zf Z 45) ≤ k))))))) Z) : zw fm sx (d + 0) 161 0 [some (.ref 136), some (.int k)] [] Z Q := by
  refine zw_run 1 (pc' := 1) (loc' := [some (.ref 136), some (.int k)]) (stk' := [.int k]) (fun _ _ _ => rfl) ?_
  have J4 : ∀ (v3 : Int32), v3 = (bI ((!(decide (k < 0))) && (!(decide ((zf Z 45) ≤ k))))) → zw fm sx (d + 0) 161 17 [some (.ref 136), some (.int k)] [.int v3] Z Q := by
    intro v3 ev3
    subst ev3
    refine zw_retz rfl rfl (bI_01 _) ?_
    exact H
  refine zw_br (c := k < 0) (t1 := 16) (t2 := 4) (loc' := [some (.ref 136), some (.int k)]) (stk' := []) (fun _ _ _ => rfl) (fun c1 => ?_) (fun c1 => ?_)
  · skip
    refine zw_run 1 (pc' := 17) (loc' := [some (.ref 136), some (.int k)]) (stk' := [.int 0]) (fun _ _ _ => rfl) ?_
    exact J4 _ (by clear H J4; first | (simp [bI, c1]; done) | (simp [bI, *]; done) | (simp_all [bI]; done) | (exfalso; simp_all; done))
  · skip
    refine zw_run 2 (pc' := 6) (loc' := [some (.ref 136), some (.int k)]) (stk' := [.ref 136, .int k]) (fun _ _ _ => rfl) ?_
    refine zw_mget (v := .int (zf Z 45)) rfl rfl ?_
    refine zw_br (c := (zf Z 45) ≤ k) (t1 := 16) (t2 := 12) (loc' := [some (.ref 136), some (.int k)]) (stk' := []) (fun _ _ _ => rfl) (fun c2 => ?_) (fun c2 => ?_)
    · skip
      refine zw_run 1 (pc' := 17) (loc' := [some (.ref 136), some (.int k)]) (stk' := [.int 0]) (fun _ _ _ => rfl) ?_
      exact J4 _ (by clear H J4; first | (simp [bI, c1, c2]; done) | (simp [bI, *]; done) | (simp_all [bI]; done) | (exfalso; simp_all; done))
    · skip
      refine zw_run 2 (pc' := 17) (loc' := [some (.ref 136), some (.int k)]) (stk' := [.int 1]) (fun _ _ _ => rfl) ?_
      exact J4 _ (by clear H J4; first | (simp [bI, c1, c2]; done) | (simp [bI, *]; done) | (simp_all [bI]; done) | (exfalso; simp_all; done))
theorem c_161 {fm : Value} {sx : Nat × (Nat → Int32)} {d : Nat} {Z : zr_Z} (k : Int32) : zl fm sx (d + 1) 161 [.ref 136, .int k] Z (fun r Z' => r = some (.int (bI (f_161 Z k))) ∧ Z' = Z) := by
  refine zl_of (nL := 2) (loc0 := [some (.ref 136), some (.int k)]) rfl rfl rfl (b_161 k ?_)
  exact ⟨rfl, rfl⟩
/-- MarkInlines$References.numberEnd, its loop at 6 -/
def g_64_6 : Nat → zr_Z → Int32 → Int32 → Int32 → Int32 → Int32 → Option (Int32 × zr_Z)
  | 0, _, _, _, _, _, _ => none
  | n + 1, Z, a, base, most, x4, x5 => (if (a + most) ≤ x5 then (if x5 = a then some ((-1), Z) else (if (zt Z 61 x5) = 59 then (olet (((decide (x4 = 0)) || ((decide (1114111 < x4)) || ((!(decide (x4 < 55296))) && (!(decide (57343 < x4)))))) : Bool) fun y10 => some (x5 + 1, zsc Z 0 (if y10 = true then 65533 else x4 : Int32))) else some ((-1), Z))) else (if (k_193 (zt Z 61 x5) base) = (-1) then (if x5 = a then some ((-1), Z) else (if (zt Z 61 x5) = 59 then (olet (((decide (x4 = 0)) || ((decide (1114111 < x4)) || ((!(decide (x4 < 55296))) && (!(decide (57343 < x4)))))) : Bool) fun y23 => some (x5 + 1, zsc Z 0 (if y23 = true then 65533 else x4 : Int32))) else some ((-1), Z))) else (olet ((x4 * base) + (k_193 (zt Z 61 x5) base) : Int32) fun x27 => g_64_6 n Z a base most x27 (x5 + 1))))
set_option maxRecDepth 100000 in
set_option maxHeartbeats 4000000 in
theorem l_64_6 {fm : Value} {sx : Nat × (Nat → Int32)} {d : Nat} {Q : Option Value → zr_Z → Prop} (hu : fm = .null ∨ ∃ q, fm = .ref q) (a : Int32) (base : Int32) (most : Int32) : ∀ (n : Nat) (Z : zr_Z) (x4 : Int32) (x5 : Int32), oq (g_64_6 n Z a base most x4 x5) (fun x => Q (some (.int x.1)) x.2) → zw fm sx (d + 1) 64 6 [some (.ref 64), some (.int a), some (.int base), some (.int most), some (.int x4), some (.int x5), none] [] Z Q := by
  intro n
  induction n with
  | zero => intro Z x4 x5 H; exact absurd H oq_none
  | succ n ih =>
    intro Z x4 x5 H
    unfold g_64_6 at H
    refine zw_run 4 (pc' := 11) (loc' := [some (.ref 64), some (.int a), some (.int base), some (.int most), some (.int x4), some (.int x5), none]) (stk' := [.int (a + most), .int x5]) (fun _ _ _ => rfl) ?_
    refine zw_br (c := (a + most) ≤ x5) (t1 := 57) (t2 := 14) (loc' := [some (.ref 64), some (.int a), some (.int base), some (.int most), some (.int x4), some (.int x5), none]) (stk' := []) (fun _ _ _ => rfl) (fun c1 => ?_) (fun c1 => ?_)
    · rw [if_pos c1] at H
      refine zw_run 2 (pc' := 60) (loc' := [some (.ref 64), some (.int a), some (.int base), some (.int most), some (.int x4), some (.int x5), none]) (stk' := [.int a, .int x5]) (fun _ _ _ => rfl) ?_
      refine zw_br (c := x5 = a) (t1 := 77) (t2 := 63) (loc' := [some (.ref 64), some (.int a), some (.int base), some (.int most), some (.int x4), some (.int x5), none]) (stk' := []) (fun _ _ _ => rfl) (fun c2 => ?_) (fun c2 => ?_)
      · rw [if_pos c2] at H
        refine zw_run 1 (pc' := 78) (loc' := [some (.ref 64), some (.int a), some (.int base), some (.int most), some (.int x4), some (.int x5), none]) (stk' := [.int (-1)]) (fun _ _ _ => rfl) ?_
        refine zw_reti (i := .nop) rfl rfl ?_
        have H := oq_some H
        exact H
      · rw [if_neg c2] at H
        refine zw_run 1 (pc' := 64) (loc' := [some (.ref 64), some (.int a), some (.int base), some (.int most), some (.int x4), some (.int x5), none]) (stk' := [.ref 64]) (fun _ _ _ => rfl) ?_
        refine zw_get (v := .ref 61) rfl rfl rfl ?_
        refine zw_run 1 (pc' := 69) (loc' := [some (.ref 64), some (.int a), some (.int base), some (.int most), some (.int x4), some (.int x5), none]) (stk' := [.int x5, .ref 61]) (fun _ _ _ => rfl) ?_
        refine zw_callf (As := [.ref 61, .int x5]) (rest := []) (c_row_at (id := 61) (by decide) x5 (d := d + 0)) rfl rfl rfl rfl ?_
        show zw fm sx (d + 1) 64 72 [some (.ref 64), some (.int a), some (.int base), some (.int most), some (.int x4), some (.int x5), none] [.int (zt Z 61 x5)] Z Q
        refine zw_run 1 (pc' := 74) (loc' := [some (.ref 64), some (.int a), some (.int base), some (.int most), some (.int x4), some (.int x5), none]) (stk' := [.int 59, .int (zt Z 61 x5)]) (fun _ _ _ => rfl) ?_
        refine zw_br (c := (zt Z 61 x5) = 59) (t1 := 79) (t2 := 77) (loc' := [some (.ref 64), some (.int a), some (.int base), some (.int most), some (.int x4), some (.int x5), none]) (stk' := []) (fun _ _ _ => rfl) (fun c3 => ?_) (fun c3 => ?_)
        · rw [if_pos c3] at H
          refine zw_run 1 (pc' := 81) (loc' := [some (.ref 64), some (.int a), some (.int base), some (.int most), some (.int x4), some (.int x5), none]) (stk' := [.int x4]) (fun _ _ _ => rfl) ?_
          have J9 : ∀ (v8 : Int32), v8 = (bI ((decide (x4 = 0)) || ((decide (1114111 < x4)) || ((!(decide (x4 < 55296))) && (!(decide (57343 < x4))))))) → zw fm sx (d + 1) 64 110 [some (.ref 64), some (.int a), some (.int base), some (.int most), some (.int x4), some (.int x5), none] [.int v8] Z Q := by
            intro v8 ev8
            subst ev8
            refine zw_run 1 (pc' := 112) (loc' := [some (.ref 64), some (.int a), some (.int base), some (.int most), some (.int x4), some (.int x5), some (.int (bI ((decide (x4 = 0)) || ((decide (1114111 < x4)) || ((!(decide (x4 < 55296))) && (!(decide (57343 < x4))))))))]) (stk' := []) (fun _ _ _ => rfl) ?_
            obtain ⟨y10, hy10⟩ : ∃ w : Bool, w = ((decide (x4 = 0)) || ((decide (1114111 < x4)) || ((!(decide (x4 < 55296))) && (!(decide (57343 < x4)))))) := ⟨_, rfl⟩
            rw [← hy10]
            have H := oq_let H y10 hy10
            refine zw_run 2 (pc' := 115) (loc' := [some (.ref 64), some (.int a), some (.int base), some (.int most), some (.int x4), some (.int x5), some (.int (bI y10))]) (stk' := [.int (bI y10), .ref 64]) (fun _ _ _ => rfl) ?_
            have J13 : ∀ (v12 : Int32), v12 = (if y10 = true then 65533 else x4 : Int32) → zw fm sx (d + 1) 64 125 [some (.ref 64), some (.int a), some (.int base), some (.int most), some (.int x4), some (.int x5), some (.int (bI y10))] [.int v12, .ref 64] Z Q := by
              intro v12 ev12
              subst ev12
              refine zw_put (j := 0) rfl rfl rfl rfl (zr_obup0 _ _) ?_
              show zw fm sx (d + 1) 64 128 [some (.ref 64), some (.int a), some (.int base), some (.int most), some (.int x4), some (.int x5), some (.int (bI y10))] [] (zsc Z 0 (if y10 = true then 65533 else x4 : Int32)) Q
              refine zw_run 3 (pc' := 132) (loc' := [some (.ref 64), some (.int a), some (.int base), some (.int most), some (.int x4), some (.int x5), some (.int (bI y10))]) (stk' := [.int (x5 + 1)]) (fun _ _ _ => rfl) ?_
              refine zw_reti (i := .nop) rfl rfl ?_
              have H := oq_some H
              exact H
            refine zw_b0 (b := y10) (t1 := 118) (t2 := 123) (loc' := [some (.ref 64), some (.int a), some (.int base), some (.int most), some (.int x4), some (.int x5), some (.int (bI y10))]) (stk' := [.ref 64]) (fun _ _ _ => rfl) (fun c11 => ?_) (fun c11 => ?_)
            · skip
              refine zw_run 2 (pc' := 125) (loc' := [some (.ref 64), some (.int a), some (.int base), some (.int most), some (.int x4), some (.int x5), some (.int (bI y10))]) (stk' := [.int 65533, .ref 64]) (fun _ _ _ => rfl) ?_
              exact J13 _ (by first | (rw [if_pos c11]; done) | (rw [if_pos c11]; rfl) | (clear H J13; simp_all [bI]; done))
            · skip
              refine zw_run 1 (pc' := 125) (loc' := [some (.ref 64), some (.int a), some (.int base), some (.int most), some (.int x4), some (.int x5), some (.int (bI y10))]) (stk' := [.int x4, .ref 64]) (fun _ _ _ => rfl) ?_
              exact J13 _ (by first | (rw [if_neg c11]; done) | (rw [if_neg c11]; rfl) | (clear H J13; simp_all [bI]; done))
          refine zw_br (c := x4 = 0) (t1 := 105) (t2 := 84) (loc' := [some (.ref 64), some (.int a), some (.int base), some (.int most), some (.int x4), some (.int x5), none]) (stk' := []) (fun _ _ _ => rfl) (fun c4 => ?_) (fun c4 => ?_)
          · skip
            refine zw_run 2 (pc' := 110) (loc' := [some (.ref 64), some (.int a), some (.int base), some (.int most), some (.int x4), some (.int x5), none]) (stk' := [.int 1]) (fun _ _ _ => rfl) ?_
            exact J9 _ (by clear H J9; first | (simp [bI, c4]; done) | (simp [bI, *]; done) | (simp_all [bI]; done) | (exfalso; simp_all; done))
          · skip
            refine zw_run 2 (pc' := 88) (loc' := [some (.ref 64), some (.int a), some (.int base), some (.int most), some (.int x4), some (.int x5), none]) (stk' := [.int 1114111, .int x4]) (fun _ _ _ => rfl) ?_
            refine zw_br (c := 1114111 < x4) (t1 := 105) (t2 := 91) (loc' := [some (.ref 64), some (.int a), some (.int base), some (.int most), some (.int x4), some (.int x5), none]) (stk' := []) (fun _ _ _ => rfl) (fun c5 => ?_) (fun c5 => ?_)
            · skip
              refine zw_run 2 (pc' := 110) (loc' := [some (.ref 64), some (.int a), some (.int base), some (.int most), some (.int x4), some (.int x5), none]) (stk' := [.int 1]) (fun _ _ _ => rfl) ?_
              exact J9 _ (by clear H J9; first | (simp [bI, c4, c5]; done) | (simp [bI, *]; done) | (simp_all [bI]; done) | (exfalso; simp_all; done))
            · skip
              refine zw_run 2 (pc' := 95) (loc' := [some (.ref 64), some (.int a), some (.int base), some (.int most), some (.int x4), some (.int x5), none]) (stk' := [.int 55296, .int x4]) (fun _ _ _ => rfl) ?_
              refine zw_br (c := x4 < 55296) (t1 := 109) (t2 := 98) (loc' := [some (.ref 64), some (.int a), some (.int base), some (.int most), some (.int x4), some (.int x5), none]) (stk' := []) (fun _ _ _ => rfl) (fun c6 => ?_) (fun c6 => ?_)
              · skip
                refine zw_run 1 (pc' := 110) (loc' := [some (.ref 64), some (.int a), some (.int base), some (.int most), some (.int x4), some (.int x5), none]) (stk' := [.int 0]) (fun _ _ _ => rfl) ?_
                exact J9 _ (by clear H J9; first | (simp [bI, c4, c5, c6]; done) | (simp [bI, *]; done) | (simp_all [bI]; done) | (exfalso; simp_all; done))
              · skip
                refine zw_run 2 (pc' := 102) (loc' := [some (.ref 64), some (.int a), some (.int base), some (.int most), some (.int x4), some (.int x5), none]) (stk' := [.int 57343, .int x4]) (fun _ _ _ => rfl) ?_
                refine zw_br (c := 57343 < x4) (t1 := 109) (t2 := 105) (loc' := [some (.ref 64), some (.int a), some (.int base), some (.int most), some (.int x4), some (.int x5), none]) (stk' := []) (fun _ _ _ => rfl) (fun c7 => ?_) (fun c7 => ?_)
                · skip
                  refine zw_run 1 (pc' := 110) (loc' := [some (.ref 64), some (.int a), some (.int base), some (.int most), some (.int x4), some (.int x5), none]) (stk' := [.int 0]) (fun _ _ _ => rfl) ?_
                  exact J9 _ (by clear H J9; first | (simp [bI, c4, c5, c6, c7]; done) | (simp [bI, *]; done) | (simp_all [bI]; done) | (exfalso; simp_all; done))
                · skip
                  refine zw_run 2 (pc' := 110) (loc' := [some (.ref 64), some (.int a), some (.int base), some (.int most), some (.int x4), some (.int x5), none]) (stk' := [.int 1]) (fun _ _ _ => rfl) ?_
                  exact J9 _ (by clear H J9; first | (simp [bI, c4, c5, c6, c7]; done) | (simp [bI, *]; done) | (simp_all [bI]; done) | (exfalso; simp_all; done))
        · rw [if_neg c3] at H
          refine zw_run 1 (pc' := 78) (loc' := [some (.ref 64), some (.int a), some (.int base), some (.int most), some (.int x4), some (.int x5), none]) (stk' := [.int (-1)]) (fun _ _ _ => rfl) ?_
          refine zw_reti (i := .nop) rfl rfl ?_
          have H := oq_some H
          exact H
    · rw [if_neg c1] at H
      refine zw_run 1 (pc' := 15) (loc' := [some (.ref 64), some (.int a), some (.int base), some (.int most), some (.int x4), some (.int x5), none]) (stk' := [.ref 64]) (fun _ _ _ => rfl) ?_
      refine zw_get (v := .ref 61) rfl rfl rfl ?_
      refine zw_run 1 (pc' := 20) (loc' := [some (.ref 64), some (.int a), some (.int base), some (.int most), some (.int x4), some (.int x5), none]) (stk' := [.int x5, .ref 61]) (fun _ _ _ => rfl) ?_
      refine zw_callf (As := [.ref 61, .int x5]) (rest := []) (c_row_at (id := 61) (by decide) x5 (d := d + 0)) rfl rfl rfl rfl ?_
      show zw fm sx (d + 1) 64 23 [some (.ref 64), some (.int a), some (.int base), some (.int most), some (.int x4), some (.int x5), none] [.int (zt Z 61 x5)] Z Q
      refine zw_run 1 (pc' := 24) (loc' := [some (.ref 64), some (.int a), some (.int base), some (.int most), some (.int x4), some (.int x5), none]) (stk' := [.int base, .int (zt Z 61 x5)]) (fun _ _ _ => rfl) ?_
      refine zw_callf (As := [.int (zt Z 61 x5), .int base]) (rest := []) (c_193 (zt Z 61 x5) base (d := d + 0)) rfl rfl rfl rfl ?_
      show zw fm sx (d + 1) 64 27 [some (.ref 64), some (.int a), some (.int base), some (.int most), some (.int x4), some (.int x5), none] [.int (k_193 (zt Z 61 x5) base)] Z Q
      refine zw_run 1 (pc' := 28) (loc' := [some (.ref 64), some (.int a), some (.int base), some (.int most), some (.int x4), some (.int x5), none]) (stk' := [.int (-1), .int (k_193 (zt Z 61 x5) base)]) (fun _ _ _ => rfl) ?_
      refine zw_br (c := (k_193 (zt Z 61 x5) base) = (-1)) (t1 := 57) (t2 := 31) (loc' := [some (.ref 64), some (.int a), some (.int base), some (.int most), some (.int x4), some (.int x5), none]) (stk' := []) (fun _ _ _ => rfl) (fun c14 => ?_) (fun c14 => ?_)
      · rw [if_pos c14] at H
        refine zw_run 2 (pc' := 60) (loc' := [some (.ref 64), some (.int a), some (.int base), some (.int most), some (.int x4), some (.int x5), none]) (stk' := [.int a, .int x5]) (fun _ _ _ => rfl) ?_
        refine zw_br (c := x5 = a) (t1 := 77) (t2 := 63) (loc' := [some (.ref 64), some (.int a), some (.int base), some (.int most), some (.int x4), some (.int x5), none]) (stk' := []) (fun _ _ _ => rfl) (fun c15 => ?_) (fun c15 => ?_)
        · rw [if_pos c15] at H
          refine zw_run 1 (pc' := 78) (loc' := [some (.ref 64), some (.int a), some (.int base), some (.int most), some (.int x4), some (.int x5), none]) (stk' := [.int (-1)]) (fun _ _ _ => rfl) ?_
          refine zw_reti (i := .nop) rfl rfl ?_
          have H := oq_some H
          exact H
        · rw [if_neg c15] at H
          refine zw_run 1 (pc' := 64) (loc' := [some (.ref 64), some (.int a), some (.int base), some (.int most), some (.int x4), some (.int x5), none]) (stk' := [.ref 64]) (fun _ _ _ => rfl) ?_
          refine zw_get (v := .ref 61) rfl rfl rfl ?_
          refine zw_run 1 (pc' := 69) (loc' := [some (.ref 64), some (.int a), some (.int base), some (.int most), some (.int x4), some (.int x5), none]) (stk' := [.int x5, .ref 61]) (fun _ _ _ => rfl) ?_
          refine zw_callf (As := [.ref 61, .int x5]) (rest := []) (c_row_at (id := 61) (by decide) x5 (d := d + 0)) rfl rfl rfl rfl ?_
          show zw fm sx (d + 1) 64 72 [some (.ref 64), some (.int a), some (.int base), some (.int most), some (.int x4), some (.int x5), none] [.int (zt Z 61 x5)] Z Q
          refine zw_run 1 (pc' := 74) (loc' := [some (.ref 64), some (.int a), some (.int base), some (.int most), some (.int x4), some (.int x5), none]) (stk' := [.int 59, .int (zt Z 61 x5)]) (fun _ _ _ => rfl) ?_
          refine zw_br (c := (zt Z 61 x5) = 59) (t1 := 79) (t2 := 77) (loc' := [some (.ref 64), some (.int a), some (.int base), some (.int most), some (.int x4), some (.int x5), none]) (stk' := []) (fun _ _ _ => rfl) (fun c16 => ?_) (fun c16 => ?_)
          · rw [if_pos c16] at H
            refine zw_run 1 (pc' := 81) (loc' := [some (.ref 64), some (.int a), some (.int base), some (.int most), some (.int x4), some (.int x5), none]) (stk' := [.int x4]) (fun _ _ _ => rfl) ?_
            have J22 : ∀ (v21 : Int32), v21 = (bI ((decide (x4 = 0)) || ((decide (1114111 < x4)) || ((!(decide (x4 < 55296))) && (!(decide (57343 < x4))))))) → zw fm sx (d + 1) 64 110 [some (.ref 64), some (.int a), some (.int base), some (.int most), some (.int x4), some (.int x5), none] [.int v21] Z Q := by
              intro v21 ev21
              subst ev21
              refine zw_run 1 (pc' := 112) (loc' := [some (.ref 64), some (.int a), some (.int base), some (.int most), some (.int x4), some (.int x5), some (.int (bI ((decide (x4 = 0)) || ((decide (1114111 < x4)) || ((!(decide (x4 < 55296))) && (!(decide (57343 < x4))))))))]) (stk' := []) (fun _ _ _ => rfl) ?_
              obtain ⟨y23, hy23⟩ : ∃ w : Bool, w = ((decide (x4 = 0)) || ((decide (1114111 < x4)) || ((!(decide (x4 < 55296))) && (!(decide (57343 < x4)))))) := ⟨_, rfl⟩
              rw [← hy23]
              have H := oq_let H y23 hy23
              refine zw_run 2 (pc' := 115) (loc' := [some (.ref 64), some (.int a), some (.int base), some (.int most), some (.int x4), some (.int x5), some (.int (bI y23))]) (stk' := [.int (bI y23), .ref 64]) (fun _ _ _ => rfl) ?_
              have J26 : ∀ (v25 : Int32), v25 = (if y23 = true then 65533 else x4 : Int32) → zw fm sx (d + 1) 64 125 [some (.ref 64), some (.int a), some (.int base), some (.int most), some (.int x4), some (.int x5), some (.int (bI y23))] [.int v25, .ref 64] Z Q := by
                intro v25 ev25
                subst ev25
                refine zw_put (j := 0) rfl rfl rfl rfl (zr_obup0 _ _) ?_
                show zw fm sx (d + 1) 64 128 [some (.ref 64), some (.int a), some (.int base), some (.int most), some (.int x4), some (.int x5), some (.int (bI y23))] [] (zsc Z 0 (if y23 = true then 65533 else x4 : Int32)) Q
                refine zw_run 3 (pc' := 132) (loc' := [some (.ref 64), some (.int a), some (.int base), some (.int most), some (.int x4), some (.int x5), some (.int (bI y23))]) (stk' := [.int (x5 + 1)]) (fun _ _ _ => rfl) ?_
                refine zw_reti (i := .nop) rfl rfl ?_
                have H := oq_some H
                exact H
              refine zw_b0 (b := y23) (t1 := 118) (t2 := 123) (loc' := [some (.ref 64), some (.int a), some (.int base), some (.int most), some (.int x4), some (.int x5), some (.int (bI y23))]) (stk' := [.ref 64]) (fun _ _ _ => rfl) (fun c24 => ?_) (fun c24 => ?_)
              · skip
                refine zw_run 2 (pc' := 125) (loc' := [some (.ref 64), some (.int a), some (.int base), some (.int most), some (.int x4), some (.int x5), some (.int (bI y23))]) (stk' := [.int 65533, .ref 64]) (fun _ _ _ => rfl) ?_
                exact J26 _ (by first | (rw [if_pos c24]; done) | (rw [if_pos c24]; rfl) | (clear H J26; simp_all [bI]; done))
              · skip
                refine zw_run 1 (pc' := 125) (loc' := [some (.ref 64), some (.int a), some (.int base), some (.int most), some (.int x4), some (.int x5), some (.int (bI y23))]) (stk' := [.int x4, .ref 64]) (fun _ _ _ => rfl) ?_
                exact J26 _ (by first | (rw [if_neg c24]; done) | (rw [if_neg c24]; rfl) | (clear H J26; simp_all [bI]; done))
            refine zw_br (c := x4 = 0) (t1 := 105) (t2 := 84) (loc' := [some (.ref 64), some (.int a), some (.int base), some (.int most), some (.int x4), some (.int x5), none]) (stk' := []) (fun _ _ _ => rfl) (fun c17 => ?_) (fun c17 => ?_)
            · skip
              refine zw_run 2 (pc' := 110) (loc' := [some (.ref 64), some (.int a), some (.int base), some (.int most), some (.int x4), some (.int x5), none]) (stk' := [.int 1]) (fun _ _ _ => rfl) ?_
              exact J22 _ (by clear H J22; first | (simp [bI, c17]; done) | (simp [bI, *]; done) | (simp_all [bI]; done) | (exfalso; simp_all; done))
            · skip
              refine zw_run 2 (pc' := 88) (loc' := [some (.ref 64), some (.int a), some (.int base), some (.int most), some (.int x4), some (.int x5), none]) (stk' := [.int 1114111, .int x4]) (fun _ _ _ => rfl) ?_
              refine zw_br (c := 1114111 < x4) (t1 := 105) (t2 := 91) (loc' := [some (.ref 64), some (.int a), some (.int base), some (.int most), some (.int x4), some (.int x5), none]) (stk' := []) (fun _ _ _ => rfl) (fun c18 => ?_) (fun c18 => ?_)
              · skip
                refine zw_run 2 (pc' := 110) (loc' := [some (.ref 64), some (.int a), some (.int base), some (.int most), some (.int x4), some (.int x5), none]) (stk' := [.int 1]) (fun _ _ _ => rfl) ?_
                exact J22 _ (by clear H J22; first | (simp [bI, c17, c18]; done) | (simp [bI, *]; done) | (simp_all [bI]; done) | (exfalso; simp_all; done))
              · skip
                refine zw_run 2 (pc' := 95) (loc' := [some (.ref 64), some (.int a), some (.int base), some (.int most), some (.int x4), some (.int x5), none]) (stk' := [.int 55296, .int x4]) (fun _ _ _ => rfl) ?_
                refine zw_br (c := x4 < 55296) (t1 := 109) (t2 := 98) (loc' := [some (.ref 64), some (.int a), some (.int base), some (.int most), some (.int x4), some (.int x5), none]) (stk' := []) (fun _ _ _ => rfl) (fun c19 => ?_) (fun c19 => ?_)
                · skip
                  refine zw_run 1 (pc' := 110) (loc' := [some (.ref 64), some (.int a), some (.int base), some (.int most), some (.int x4), some (.int x5), none]) (stk' := [.int 0]) (fun _ _ _ => rfl) ?_
                  exact J22 _ (by clear H J22; first | (simp [bI, c17, c18, c19]; done) | (simp [bI, *]; done) | (simp_all [bI]; done) | (exfalso; simp_all; done))
                · skip
                  refine zw_run 2 (pc' := 102) (loc' := [some (.ref 64), some (.int a), some (.int base), some (.int most), some (.int x4), some (.int x5), none]) (stk' := [.int 57343, .int x4]) (fun _ _ _ => rfl) ?_
                  refine zw_br (c := 57343 < x4) (t1 := 109) (t2 := 105) (loc' := [some (.ref 64), some (.int a), some (.int base), some (.int most), some (.int x4), some (.int x5), none]) (stk' := []) (fun _ _ _ => rfl) (fun c20 => ?_) (fun c20 => ?_)
                  · skip
                    refine zw_run 1 (pc' := 110) (loc' := [some (.ref 64), some (.int a), some (.int base), some (.int most), some (.int x4), some (.int x5), none]) (stk' := [.int 0]) (fun _ _ _ => rfl) ?_
                    exact J22 _ (by clear H J22; first | (simp [bI, c17, c18, c19, c20]; done) | (simp [bI, *]; done) | (simp_all [bI]; done) | (exfalso; simp_all; done))
                  · skip
                    refine zw_run 2 (pc' := 110) (loc' := [some (.ref 64), some (.int a), some (.int base), some (.int most), some (.int x4), some (.int x5), none]) (stk' := [.int 1]) (fun _ _ _ => rfl) ?_
                    exact J22 _ (by clear H J22; first | (simp [bI, c17, c18, c19, c20]; done) | (simp [bI, *]; done) | (simp_all [bI]; done) | (exfalso; simp_all; done))
          · rw [if_neg c16] at H
            refine zw_run 1 (pc' := 78) (loc' := [some (.ref 64), some (.int a), some (.int base), some (.int most), some (.int x4), some (.int x5), none]) (stk' := [.int (-1)]) (fun _ _ _ => rfl) ?_
            refine zw_reti (i := .nop) rfl rfl ?_
            have H := oq_some H
            exact H
      · rw [if_neg c14] at H
        refine zw_run 4 (pc' := 36) (loc' := [some (.ref 64), some (.int a), some (.int base), some (.int most), some (.int x4), some (.int x5), none]) (stk' := [.ref 64, .int (x4 * base)]) (fun _ _ _ => rfl) ?_
        refine zw_get (v := .ref 61) rfl rfl rfl ?_
        refine zw_run 1 (pc' := 41) (loc' := [some (.ref 64), some (.int a), some (.int base), some (.int most), some (.int x4), some (.int x5), none]) (stk' := [.int x5, .ref 61, .int (x4 * base)]) (fun _ _ _ => rfl) ?_
        refine zw_callf (As := [.ref 61, .int x5]) (rest := [.int (x4 * base)]) (c_row_at (id := 61) (by decide) x5 (d := d + 0)) rfl rfl rfl rfl ?_
        show zw fm sx (d + 1) 64 44 [some (.ref 64), some (.int a), some (.int base), some (.int most), some (.int x4), some (.int x5), none] [.int (zt Z 61 x5), .int (x4 * base)] Z Q
        refine zw_run 1 (pc' := 45) (loc' := [some (.ref 64), some (.int a), some (.int base), some (.int most), some (.int x4), some (.int x5), none]) (stk' := [.int base, .int (zt Z 61 x5), .int (x4 * base)]) (fun _ _ _ => rfl) ?_
        refine zw_callf (As := [.int (zt Z 61 x5), .int base]) (rest := [.int (x4 * base)]) (c_193 (zt Z 61 x5) base (d := d + 0)) rfl rfl rfl rfl ?_
        show zw fm sx (d + 1) 64 48 [some (.ref 64), some (.int a), some (.int base), some (.int most), some (.int x4), some (.int x5), none] [.int (k_193 (zt Z 61 x5) base), .int (x4 * base)] Z Q
        refine zw_run 2 (pc' := 51) (loc' := [some (.ref 64), some (.int a), some (.int base), some (.int most), some (.int ((x4 * base) + (k_193 (zt Z 61 x5) base))), some (.int x5), none]) (stk' := []) (fun _ _ _ => rfl) ?_
        obtain ⟨x27, hx27⟩ : ∃ w : Int32, w = (x4 * base) + (k_193 (zt Z 61 x5) base) := ⟨_, rfl⟩
        rw [← hx27]
        have H := oq_let H x27 hx27
        refine zw_run 2 (pc' := 6) (loc' := [some (.ref 64), some (.int a), some (.int base), some (.int most), some (.int x27), some (.int (x5 + 1)), none]) (stk' := []) (fun _ _ _ => rfl) ?_
        exact ih Z x27 (x5 + 1) H
/-- MarkInlines$References.numberEnd -/
def o_64 (Z : zr_Z) (a : Int32) (base : Int32) (most : Int32) : Option (Int32 × zr_Z) := g_64_6 oF Z a base most 0 a
set_option maxRecDepth 100000 in
set_option maxHeartbeats 4000000 in
theorem t_64 {fm : Value} {sx : Nat × (Nat → Int32)} {d : Nat} {Z : zr_Z} {Q : Option Value → zr_Z → Prop} (hu : fm = .null ∨ ∃ q, fm = .ref q) (a : Int32) (base : Int32) (most : Int32) (H : oq (o_64 Z a base most) (fun x => Q (some (.int x.1)) x.2)) : zw fm sx (d + 1) 64 0 [some (.ref 64), some (.int a), some (.int base), some (.int most), none, none, none] [] Z Q := by
  unfold o_64 at H
  refine zw_run 4 (pc' := 6) (loc' := [some (.ref 64), some (.int a), some (.int base), some (.int most), some (.int 0), some (.int a), none]) (stk' := []) (fun _ _ _ => rfl) ?_
  exact l_64_6 hu a base most _ Z 0 a H
theorem c_64 {fm : Value} {sx : Nat × (Nat → Int32)} {d : Nat} {Z : zr_Z} (hu : fm = .null ∨ ∃ q, fm = .ref q) (a : Int32) (base : Int32) (most : Int32) {x : Int32 × zr_Z} (hx : o_64 Z a base most = some x) : zl fm sx (d + 2) 64 [.ref 64, .int a, .int base, .int most] Z (fun r Z' => r = some (.int x.1) ∧ Z' = x.2) :=
  zl_of (nL := 7) (loc0 := [some (.ref 64), some (.int a), some (.int base), some (.int most), none, none, none]) rfl rfl rfl (t_64 hu a base most ⟨x, hx, rfl, rfl⟩)
/-- MarkInlines$References.nameEnd, its loop at 10 -/
def g_65_10 : Nat → zr_Z → Int32 → Int32 → Int32 → Bool → Int32 → Option (Int32 × zr_Z)
  | 0, _, _, _, _, _, _ => none
  | n + 1, Z, a, x2, x3, y4, x5 => (if (sln 2) ≤ x5 then some ((-1), Z) else (if (nI 16) ≤ x2 then some ((-1), Z) else (if (if y4 = true then (sci 2 x5 ∧ (if ¬ (zt Z 61 x3) = (sch 2 x5) then True else True)) else True) then (olet ((y4 && (decide ((zt Z 61 x3) = (sch 2 x5)))) : Bool) fun y9 => (if sci 2 x5 then (if ¬ (sch 2 x5) = 59 then g_65_10 n Z a x2 (x3 + 1) y9 (x5 + 1) else (if y9 = true then (if ¬ (x2 < 0 ∨ 16 ≤ x2.toNatClampNeg) then some (x3 + 1, zsc Z 0 (znm x2)) else none) else g_65_10 n Z a (x2 + 1) a true (x5 + 1))) else none)) else none)))
set_option maxRecDepth 100000 in
set_option maxHeartbeats 4000000 in
theorem l_65_10 {fm : Value} {sx : Nat × (Nat → Int32)} {d : Nat} {Q : Option Value → zr_Z → Prop} (hu : fm = .null ∨ ∃ q, fm = .ref q) (a : Int32) : ∀ (n : Nat) (Z : zr_Z) (x2 : Int32) (x3 : Int32) (y4 : Bool) (x5 : Int32), oq (g_65_10 n Z a x2 x3 y4 x5) (fun x => Q (some (.int x.1)) x.2) → zw fm sx (d + 4) 65 10 [some (.ref 64), some (.int a), some (.int x2), some (.int x3), some (.int (bI y4)), some (.int x5)] [] Z Q := by
  intro n
  induction n with
  | zero => intro Z x2 x3 y4 x5 H; exact absurd H oq_none
  | succ n ih =>
    intro Z x2 x3 y4 x5 H
    unfold g_65_10 at H
    refine zw_run 2 (pc' := 14) (loc' := [some (.ref 64), some (.int a), some (.int x2), some (.int x3), some (.int (bI y4)), some (.int x5)]) (stk' := [.ref 6, .int x5]) (fun _ _ _ => rfl) ?_
    refine zw_callf (As := [.ref 6]) (rest := [.int x5]) (c_sln 2 (by decide) (d := d + 2)) rfl rfl rfl rfl ?_
    show zw fm sx (d + 4) 65 17 [some (.ref 64), some (.int a), some (.int x2), some (.int x3), some (.int (bI y4)), some (.int x5)] [.int (sln 2), .int x5] Z Q
    refine zw_br (c := (sln 2) ≤ x5) (t1 := 103) (t2 := 20) (loc' := [some (.ref 64), some (.int a), some (.int x2), some (.int x3), some (.int (bI y4)), some (.int x5)]) (stk' := []) (fun _ _ _ => rfl) (fun c2 => ?_) (fun c2 => ?_)
    · rw [if_pos c2] at H
      refine zw_run 1 (pc' := 104) (loc' := [some (.ref 64), some (.int a), some (.int x2), some (.int x3), some (.int (bI y4)), some (.int x5)]) (stk' := [.int (-1)]) (fun _ _ _ => rfl) ?_
      refine zw_reti (i := .nop) rfl rfl ?_
      have H := oq_some H
      exact H
    · rw [if_neg c2] at H
      refine zw_run 2 (pc' := 24) (loc' := [some (.ref 64), some (.int a), some (.int x2), some (.int x3), some (.int (bI y4)), some (.int x5)]) (stk' := [.ref 1, .int x2]) (fun _ _ _ => rfl) ?_
      refine zw_nalen rfl ?_
      refine zw_br (c := (nI 16) ≤ x2) (t1 := 103) (t2 := 28) (loc' := [some (.ref 64), some (.int a), some (.int x2), some (.int x3), some (.int (bI y4)), some (.int x5)]) (stk' := []) (fun _ _ _ => rfl) (fun c3 => ?_) (fun c3 => ?_)
      · rw [if_pos c3] at H
        refine zw_run 1 (pc' := 104) (loc' := [some (.ref 64), some (.int a), some (.int x2), some (.int x3), some (.int (bI y4)), some (.int x5)]) (stk' := [.int (-1)]) (fun _ _ _ => rfl) ?_
        refine zw_reti (i := .nop) rfl rfl ?_
        have H := oq_some H
        exact H
      · rw [if_neg c3] at H
        refine zw_run 1 (pc' := 30) (loc' := [some (.ref 64), some (.int a), some (.int x2), some (.int x3), some (.int (bI y4)), some (.int x5)]) (stk' := [.int (bI y4)]) (fun _ _ _ => rfl) ?_
        obtain ⟨HR, H⟩ := oq_ob H
        have J8 : ∀ (v7 : Int32), v7 = (bI (y4 && (decide ((zt Z 61 x3) = (sch 2 x5))))) → zw fm sx (d + 4) 65 56 [some (.ref 64), some (.int a), some (.int x2), some (.int x3), some (.int (bI y4)), some (.int x5)] [.int v7] Z Q := by
          intro v7 ev7
          subst ev7
          refine zw_run 1 (pc' := 58) (loc' := [some (.ref 64), some (.int a), some (.int x2), some (.int x3), some (.int (bI (y4 && (decide ((zt Z 61 x3) = (sch 2 x5)))))), some (.int x5)]) (stk' := []) (fun _ _ _ => rfl) ?_
          obtain ⟨y9, hy9⟩ : ∃ w : Bool, w = (y4 && (decide ((zt Z 61 x3) = (sch 2 x5)))) := ⟨_, rfl⟩
          rw [← hy9]
          have H := oq_let H y9 hy9
          refine zw_run 3 (pc' := 65) (loc' := [some (.ref 64), some (.int a), some (.int x2), some (.int (x3 + 1)), some (.int (bI y9)), some (.int x5)]) (stk' := [.int x5, .ref 6]) (fun _ _ _ => rfl) ?_
          obtain ⟨b10, H⟩ := oq_ob H
          refine zw_callf (As := [.ref 6, .int x5]) (rest := []) (c_sch hu 2 (by decide) x5 b10 (d := d + 0)) rfl rfl rfl rfl ?_
          show zw fm sx (d + 4) 65 68 [some (.ref 64), some (.int a), some (.int x2), some (.int (x3 + 1)), some (.int (bI y9)), some (.int x5)] [.int (sch 2 x5)] Z Q
          refine zw_run 1 (pc' := 70) (loc' := [some (.ref 64), some (.int a), some (.int x2), some (.int (x3 + 1)), some (.int (bI y9)), some (.int x5)]) (stk' := [.int 59, .int (sch 2 x5)]) (fun _ _ _ => rfl) ?_
          refine zw_br (c := ¬ (sch 2 x5) = 59) (t1 := 97) (t2 := 73) (loc' := [some (.ref 64), some (.int a), some (.int x2), some (.int (x3 + 1)), some (.int (bI y9)), some (.int x5)]) (stk' := []) (fun _ _ _ => rfl) (fun c11 => ?_) (fun c11 => ?_)
          · rw [if_pos c11] at H
            refine zw_run 2 (pc' := 10) (loc' := [some (.ref 64), some (.int a), some (.int x2), some (.int (x3 + 1)), some (.int (bI y9)), some (.int (x5 + 1))]) (stk' := []) (fun _ _ _ => rfl) ?_
            exact ih Z x2 (x3 + 1) y9 (x5 + 1) H
          · rw [if_neg c11] at H
            refine zw_run 1 (pc' := 75) (loc' := [some (.ref 64), some (.int a), some (.int x2), some (.int (x3 + 1)), some (.int (bI y9)), some (.int x5)]) (stk' := [.int (bI y9)]) (fun _ _ _ => rfl) ?_
            refine zw_b0 (b := y9) (t1 := 78) (t2 := 89) (loc' := [some (.ref 64), some (.int a), some (.int x2), some (.int (x3 + 1)), some (.int (bI y9)), some (.int x5)]) (stk' := []) (fun _ _ _ => rfl) (fun c12 => ?_) (fun c12 => ?_)
            · rw [if_pos c12] at H
              refine zw_run 3 (pc' := 83) (loc' := [some (.ref 64), some (.int a), some (.int x2), some (.int (x3 + 1)), some (.int (bI y9)), some (.int x5)]) (stk' := [.int x2, .ref 1, .ref 64]) (fun _ _ _ => rfl) ?_
              obtain ⟨b13, H⟩ := oq_ob H
              refine zw_nald rfl b13 ?_
              refine zw_put (j := 0) rfl rfl rfl rfl (zr_obup0 _ _) ?_
              show zw fm sx (d + 4) 65 87 [some (.ref 64), some (.int a), some (.int x2), some (.int (x3 + 1)), some (.int (bI y9)), some (.int x5)] [] (zsc Z 0 (znm x2)) Q
              refine zw_run 1 (pc' := 88) (loc' := [some (.ref 64), some (.int a), some (.int x2), some (.int (x3 + 1)), some (.int (bI y9)), some (.int x5)]) (stk' := [.int (x3 + 1)]) (fun _ _ _ => rfl) ?_
              refine zw_reti (i := .nop) rfl rfl ?_
              have H := oq_some H
              exact H
            · rw [if_neg c12] at H
              refine zw_run 7 (pc' := 10) (loc' := [some (.ref 64), some (.int a), some (.int (x2 + 1)), some (.int a), some (.int 1), some (.int (x5 + 1))]) (stk' := []) (fun _ _ _ => rfl) ?_
              exact ih Z (x2 + 1) a true (x5 + 1) H
        clear H
        have H := HR
        refine zw_b0 (b := y4) (t1 := 33) (t2 := 55) (loc' := [some (.ref 64), some (.int a), some (.int x2), some (.int x3), some (.int (bI y4)), some (.int x5)]) (stk' := []) (fun _ _ _ => rfl) (fun c4 => ?_) (fun c4 => ?_)
        · rw [if_pos c4] at H
          refine zw_run 1 (pc' := 34) (loc' := [some (.ref 64), some (.int a), some (.int x2), some (.int x3), some (.int (bI y4)), some (.int x5)]) (stk' := [.ref 64]) (fun _ _ _ => rfl) ?_
          refine zw_get (v := .ref 61) rfl rfl rfl ?_
          refine zw_run 1 (pc' := 38) (loc' := [some (.ref 64), some (.int a), some (.int x2), some (.int x3), some (.int (bI y4)), some (.int x5)]) (stk' := [.int x3, .ref 61]) (fun _ _ _ => rfl) ?_
          refine zw_callf (As := [.ref 61, .int x3]) (rest := []) (c_row_at (id := 61) (by decide) x3 (d := d + 3)) rfl rfl rfl rfl ?_
          show zw fm sx (d + 4) 65 41 [some (.ref 64), some (.int a), some (.int x2), some (.int x3), some (.int (bI y4)), some (.int x5)] [.int (zt Z 61 x3)] Z Q
          refine zw_run 2 (pc' := 45) (loc' := [some (.ref 64), some (.int a), some (.int x2), some (.int x3), some (.int (bI y4)), some (.int x5)]) (stk' := [.int x5, .ref 6, .int (zt Z 61 x3)]) (fun _ _ _ => rfl) ?_
          obtain ⟨b5, H⟩ := H
          refine zw_callf (As := [.ref 6, .int x5]) (rest := [.int (zt Z 61 x3)]) (c_sch hu 2 (by decide) x5 b5 (d := d + 0)) rfl rfl rfl rfl ?_
          show zw fm sx (d + 4) 65 48 [some (.ref 64), some (.int a), some (.int x2), some (.int x3), some (.int (bI y4)), some (.int x5)] [.int (sch 2 x5), .int (zt Z 61 x3)] Z Q
          refine zw_br (c := ¬ (zt Z 61 x3) = (sch 2 x5)) (t1 := 55) (t2 := 51) (loc' := [some (.ref 64), some (.int a), some (.int x2), some (.int x3), some (.int (bI y4)), some (.int x5)]) (stk' := []) (fun _ _ _ => rfl) (fun c6 => ?_) (fun c6 => ?_)
          · rw [if_pos c6] at H
            refine zw_run 1 (pc' := 56) (loc' := [some (.ref 64), some (.int a), some (.int x2), some (.int x3), some (.int (bI y4)), some (.int x5)]) (stk' := [.int 0]) (fun _ _ _ => rfl) ?_
            exact J8 _ (by clear H J8; first | (simp [bI, c4, c6]; done) | (simp [bI, *]; done) | (simp_all [bI]; done) | (exfalso; simp_all; done))
          · rw [if_neg c6] at H
            refine zw_run 2 (pc' := 56) (loc' := [some (.ref 64), some (.int a), some (.int x2), some (.int x3), some (.int (bI y4)), some (.int x5)]) (stk' := [.int 1]) (fun _ _ _ => rfl) ?_
            exact J8 _ (by clear H J8; first | (simp [bI, c4, c6]; done) | (simp [bI, *]; done) | (simp_all [bI]; done) | (exfalso; simp_all; done))
        · rw [if_neg c4] at H
          refine zw_run 1 (pc' := 56) (loc' := [some (.ref 64), some (.int a), some (.int x2), some (.int x3), some (.int (bI y4)), some (.int x5)]) (stk' := [.int 0]) (fun _ _ _ => rfl) ?_
          exact J8 _ (by clear H J8; first | (simp [bI, c4]; done) | (simp [bI, *]; done) | (simp_all [bI]; done) | (exfalso; simp_all; done))
/-- MarkInlines$References.nameEnd -/
def o_65 (Z : zr_Z) (a : Int32) : Option (Int32 × zr_Z) := g_65_10 oF Z a 0 a true 0
set_option maxRecDepth 100000 in
set_option maxHeartbeats 4000000 in
theorem t_65 {fm : Value} {sx : Nat × (Nat → Int32)} {d : Nat} {Z : zr_Z} {Q : Option Value → zr_Z → Prop} (hu : fm = .null ∨ ∃ q, fm = .ref q) (a : Int32) (H : oq (o_65 Z a) (fun x => Q (some (.int x.1)) x.2)) : zw fm sx (d + 4) 65 0 [some (.ref 64), some (.int a), none, none, none, none] [] Z Q := by
  unfold o_65 at H
  refine zw_run 8 (pc' := 10) (loc' := [some (.ref 64), some (.int a), some (.int 0), some (.int a), some (.int 1), some (.int 0)]) (stk' := []) (fun _ _ _ => rfl) ?_
  exact l_65_10 hu a _ Z 0 a true 0 H
theorem c_65 {fm : Value} {sx : Nat × (Nat → Int32)} {d : Nat} {Z : zr_Z} (hu : fm = .null ∨ ∃ q, fm = .ref q) (a : Int32) {x : Int32 × zr_Z} (hx : o_65 Z a = some x) : zl fm sx (d + 5) 65 [.ref 64, .int a] Z (fun r Z' => r = some (.int x.1) ∧ Z' = x.2) :=
  zl_of (nL := 6) (loc0 := [some (.ref 64), some (.int a), none, none, none, none]) rfl rfl rfl (t_65 hu a ⟨x, hx, rfl, rfl⟩)
/-- MarkInlines$References.endAt -/
def o_63 (Z : zr_Z) (p : Int32) : Option (Int32 × zr_Z) := (if (zt Z 61 p) = 38 then (if (zt Z 61 (p + 1)) = 35 then (olet (((decide ((zt Z 61 (p + 2)) = 120)) || (decide ((zt Z 61 (p + 2)) = 88))) : Bool) fun y7 => (if y7 = true then (Option.bind (o_64 Z (p + 3) 16 6) fun u9 => some (u9.1, u9.2)) else (Option.bind (o_64 Z (p + 2) 10 7) fun u10 => some (u10.1, u10.2)))) else (Option.bind (o_65 Z (p + 1)) fun u11 => some (u11.1, u11.2))) else some ((-1), Z))
set_option maxRecDepth 100000 in
set_option maxHeartbeats 4000000 in
theorem t_63 {fm : Value} {sx : Nat × (Nat → Int32)} {d : Nat} {Z : zr_Z} {Q : Option Value → zr_Z → Prop} (hu : fm = .null ∨ ∃ q, fm = .ref q) (p : Int32) (H : oq (o_63 Z p) (fun x => Q (some (.int x.1)) x.2)) : zw fm sx (d + 5) 63 0 [some (.ref 64), some (.int p), none] [] Z Q := by
  unfold o_63 at H
  refine zw_run 1 (pc' := 1) (loc' := [some (.ref 64), some (.int p), none]) (stk' := [.ref 64]) (fun _ _ _ => rfl) ?_
  refine zw_get (v := .ref 61) rfl rfl rfl ?_
  refine zw_run 1 (pc' := 5) (loc' := [some (.ref 64), some (.int p), none]) (stk' := [.int p, .ref 61]) (fun _ _ _ => rfl) ?_
  refine zw_callf (As := [.ref 61, .int p]) (rest := []) (c_row_at (id := 61) (by decide) p (d := d + 4)) rfl rfl rfl rfl ?_
  show zw fm sx (d + 5) 63 8 [some (.ref 64), some (.int p), none] [.int (zt Z 61 p)] Z Q
  refine zw_run 1 (pc' := 10) (loc' := [some (.ref 64), some (.int p), none]) (stk' := [.int 38, .int (zt Z 61 p)]) (fun _ _ _ => rfl) ?_
  refine zw_br (c := (zt Z 61 p) = 38) (t1 := 15) (t2 := 13) (loc' := [some (.ref 64), some (.int p), none]) (stk' := []) (fun _ _ _ => rfl) (fun c1 => ?_) (fun c1 => ?_)
  · rw [if_pos c1] at H
    refine zw_run 1 (pc' := 16) (loc' := [some (.ref 64), some (.int p), none]) (stk' := [.ref 64]) (fun _ _ _ => rfl) ?_
    refine zw_get (v := .ref 61) rfl rfl rfl ?_
    refine zw_run 3 (pc' := 22) (loc' := [some (.ref 64), some (.int p), none]) (stk' := [.int (p + 1), .ref 61]) (fun _ _ _ => rfl) ?_
    refine zw_callf (As := [.ref 61, .int (p + 1)]) (rest := []) (c_row_at (id := 61) (by decide) (p + 1) (d := d + 4)) rfl rfl rfl rfl ?_
    show zw fm sx (d + 5) 63 25 [some (.ref 64), some (.int p), none] [.int (zt Z 61 (p + 1))] Z Q
    refine zw_run 1 (pc' := 27) (loc' := [some (.ref 64), some (.int p), none]) (stk' := [.int 35, .int (zt Z 61 (p + 1))]) (fun _ _ _ => rfl) ?_
    refine zw_br (c := (zt Z 61 (p + 1)) = 35) (t1 := 38) (t2 := 30) (loc' := [some (.ref 64), some (.int p), none]) (stk' := []) (fun _ _ _ => rfl) (fun c2 => ?_) (fun c2 => ?_)
    · rw [if_pos c2] at H
      refine zw_run 1 (pc' := 39) (loc' := [some (.ref 64), some (.int p), none]) (stk' := [.ref 64]) (fun _ _ _ => rfl) ?_
      refine zw_get (v := .ref 61) rfl rfl rfl ?_
      refine zw_run 3 (pc' := 45) (loc' := [some (.ref 64), some (.int p), none]) (stk' := [.int (p + 2), .ref 61]) (fun _ _ _ => rfl) ?_
      refine zw_callf (As := [.ref 61, .int (p + 2)]) (rest := []) (c_row_at (id := 61) (by decide) (p + 2) (d := d + 4)) rfl rfl rfl rfl ?_
      show zw fm sx (d + 5) 63 48 [some (.ref 64), some (.int p), none] [.int (zt Z 61 (p + 2))] Z Q
      refine zw_run 1 (pc' := 50) (loc' := [some (.ref 64), some (.int p), none]) (stk' := [.int 120, .int (zt Z 61 (p + 2))]) (fun _ _ _ => rfl) ?_
      have J6 : ∀ (v5 : Int32), v5 = (bI ((decide ((zt Z 61 (p + 2)) = 120)) || (decide ((zt Z 61 (p + 2)) = 88)))) → zw fm sx (d + 5) 63 73 [some (.ref 64), some (.int p), none] [.int v5] Z Q := by
        intro v5 ev5
        subst ev5
        refine zw_run 1 (pc' := 74) (loc' := [some (.ref 64), some (.int p), some (.int (bI ((decide ((zt Z 61 (p + 2)) = 120)) || (decide ((zt Z 61 (p + 2)) = 88)))))]) (stk' := []) (fun _ _ _ => rfl) ?_
        obtain ⟨y7, hy7⟩ : ∃ w : Bool, w = ((decide ((zt Z 61 (p + 2)) = 120)) || (decide ((zt Z 61 (p + 2)) = 88))) := ⟨_, rfl⟩
        rw [← hy7]
        have H := oq_let H y7 hy7
        refine zw_run 1 (pc' := 75) (loc' := [some (.ref 64), some (.int p), some (.int (bI y7))]) (stk' := [.int (bI y7)]) (fun _ _ _ => rfl) ?_
        refine zw_b0 (b := y7) (t1 := 78) (t2 := 92) (loc' := [some (.ref 64), some (.int p), some (.int (bI y7))]) (stk' := []) (fun _ _ _ => rfl) (fun c8 => ?_) (fun c8 => ?_)
        · rw [if_pos c8] at H
          refine zw_run 6 (pc' := 86) (loc' := [some (.ref 64), some (.int p), some (.int (bI y7))]) (stk' := [.int 6, .int 16, .int (p + 3), .ref 64]) (fun _ _ _ => rfl) ?_
          obtain ⟨u9, hu9, H⟩ := oq_bind H
          refine zw_callf (As := [.ref 64, .int (p + 3), .int 16, .int 6]) (rest := []) (c_64 hu (p + 3) 16 6 hu9 (d := d + 3)) rfl rfl rfl rfl ?_
          show zw fm sx (d + 5) 63 89 [some (.ref 64), some (.int p), some (.int (bI y7))] [.int u9.1] u9.2 Q
          refine zw_run 1 (pc' := 103) (loc' := [some (.ref 64), some (.int p), some (.int (bI y7))]) (stk' := [.int u9.1]) (fun _ _ _ => rfl) ?_
          refine zw_reti (i := .nop) rfl rfl ?_
          have H := oq_some H
          exact H
        · rw [if_neg c8] at H
          refine zw_run 6 (pc' := 100) (loc' := [some (.ref 64), some (.int p), some (.int (bI y7))]) (stk' := [.int 7, .int 10, .int (p + 2), .ref 64]) (fun _ _ _ => rfl) ?_
          obtain ⟨u10, hu10, H⟩ := oq_bind H
          refine zw_callf (As := [.ref 64, .int (p + 2), .int 10, .int 7]) (rest := []) (c_64 hu (p + 2) 10 7 hu10 (d := d + 3)) rfl rfl rfl rfl ?_
          show zw fm sx (d + 5) 63 103 [some (.ref 64), some (.int p), some (.int (bI y7))] [.int u10.1] u10.2 Q
          refine zw_reti (i := .nop) rfl rfl ?_
          have H := oq_some H
          exact H
      refine zw_br (c := (zt Z 61 (p + 2)) = 120) (t1 := 68) (t2 := 53) (loc' := [some (.ref 64), some (.int p), none]) (stk' := []) (fun _ _ _ => rfl) (fun c3 => ?_) (fun c3 => ?_)
      · skip
        refine zw_run 2 (pc' := 73) (loc' := [some (.ref 64), some (.int p), none]) (stk' := [.int 1]) (fun _ _ _ => rfl) ?_
        exact J6 _ (by clear H J6; first | (simp [bI, c3]; done) | (simp [bI, *]; done) | (simp_all [bI]; done) | (exfalso; simp_all; done))
      · skip
        refine zw_run 1 (pc' := 54) (loc' := [some (.ref 64), some (.int p), none]) (stk' := [.ref 64]) (fun _ _ _ => rfl) ?_
        refine zw_get (v := .ref 61) rfl rfl rfl ?_
        refine zw_run 3 (pc' := 60) (loc' := [some (.ref 64), some (.int p), none]) (stk' := [.int (p + 2), .ref 61]) (fun _ _ _ => rfl) ?_
        refine zw_callf (As := [.ref 61, .int (p + 2)]) (rest := []) (c_row_at (id := 61) (by decide) (p + 2) (d := d + 4)) rfl rfl rfl rfl ?_
        show zw fm sx (d + 5) 63 63 [some (.ref 64), some (.int p), none] [.int (zt Z 61 (p + 2))] Z Q
        refine zw_run 1 (pc' := 65) (loc' := [some (.ref 64), some (.int p), none]) (stk' := [.int 88, .int (zt Z 61 (p + 2))]) (fun _ _ _ => rfl) ?_
        refine zw_br (c := ¬ (zt Z 61 (p + 2)) = 88) (t1 := 72) (t2 := 68) (loc' := [some (.ref 64), some (.int p), none]) (stk' := []) (fun _ _ _ => rfl) (fun c4 => ?_) (fun c4 => ?_)
        · skip
          refine zw_run 1 (pc' := 73) (loc' := [some (.ref 64), some (.int p), none]) (stk' := [.int 0]) (fun _ _ _ => rfl) ?_
          exact J6 _ (by clear H J6; first | (simp [bI, c3, c4]; done) | (simp [bI, *]; done) | (simp_all [bI]; done) | (exfalso; simp_all; done))
        · skip
          refine zw_run 2 (pc' := 73) (loc' := [some (.ref 64), some (.int p), none]) (stk' := [.int 1]) (fun _ _ _ => rfl) ?_
          exact J6 _ (by clear H J6; first | (simp [bI, c3, c4]; done) | (simp [bI, *]; done) | (simp_all [bI]; done) | (exfalso; simp_all; done))
    · rw [if_neg c2] at H
      refine zw_run 4 (pc' := 34) (loc' := [some (.ref 64), some (.int p), none]) (stk' := [.int (p + 1), .ref 64]) (fun _ _ _ => rfl) ?_
      obtain ⟨u11, hu11, H⟩ := oq_bind H
      refine zw_callf (As := [.ref 64, .int (p + 1)]) (rest := []) (c_65 hu (p + 1) hu11 (d := d + 0)) rfl rfl rfl rfl ?_
      show zw fm sx (d + 5) 63 37 [some (.ref 64), some (.int p), none] [.int u11.1] u11.2 Q
      refine zw_reti (i := .nop) rfl rfl ?_
      have H := oq_some H
      exact H
  · rw [if_neg c1] at H
    refine zw_run 1 (pc' := 14) (loc' := [some (.ref 64), some (.int p), none]) (stk' := [.int (-1)]) (fun _ _ _ => rfl) ?_
    refine zw_reti (i := .nop) rfl rfl ?_
    have H := oq_some H
    exact H
theorem c_63 {fm : Value} {sx : Nat × (Nat → Int32)} {d : Nat} {Z : zr_Z} (hu : fm = .null ∨ ∃ q, fm = .ref q) (p : Int32) {x : Int32 × zr_Z} (hx : o_63 Z p = some x) : zl fm sx (d + 6) 63 [.ref 64, .int p] Z (fun r Z' => r = some (.int x.1) ∧ Z' = x.2) :=
  zl_of (nL := 3) (loc0 := [some (.ref 64), some (.int p), none]) rfl rfl rfl (t_63 hu p ⟨x, hx, rfl, rfl⟩)
/-- MarkInlines$References.addUnescaped, its loop at 3 -/
def g_66_3 : Nat → zr_Z → Int32 → Int32 → Int32 → Option zr_Z
  | 0, _, _, _, _ => none
  | n + 1, Z, a, b, x4 => (if b ≤ x4 then some Z else (Option.bind (o_63 Z x4) fun u2 => (if ¬ (zt u2.2 61 x4) = 92 then (if u2.1 ≤ x4 then g_66_3 n (zadd u2.2 131 (zt u2.2 61 x4)) a b (x4 + 1) else (olet (zadd u2.2 131 (if (k_200 (zc u2.2 0)) = true then 65533 else (zc u2.2 0) : Int32) : zr_Z) fun Z8 => g_66_3 n Z8 a b u2.1)) else (if b ≤ (x4 + 1) then (if u2.1 ≤ x4 then g_66_3 n (zadd u2.2 131 (zt u2.2 61 x4)) a b (x4 + 1) else (olet (zadd u2.2 131 (if (k_200 (zc u2.2 0)) = true then 65533 else (zc u2.2 0) : Int32) : zr_Z) fun Z14 => g_66_3 n Z14 a b u2.1)) else (if (k_198 (zt u2.2 61 (x4 + 1))) = true then g_66_3 n (zadd u2.2 131 (zt u2.2 61 (x4 + 1))) a b (x4 + 2) else (if u2.1 ≤ x4 then g_66_3 n (zadd u2.2 131 (zt u2.2 61 x4)) a b (x4 + 1) else (olet (zadd u2.2 131 (if (k_200 (zc u2.2 0)) = true then 65533 else (zc u2.2 0) : Int32) : zr_Z) fun Z20 => g_66_3 n Z20 a b u2.1)))))))
set_option maxRecDepth 100000 in
set_option maxHeartbeats 4000000 in
theorem l_66_3 {fm : Value} {sx : Nat × (Nat → Int32)} {d : Nat} {Q : Option Value → zr_Z → Prop} (hu : fm = .null ∨ ∃ q, fm = .ref q) (a : Int32) (b : Int32) : ∀ (n : Nat) (Z : zr_Z) (x4 : Int32), oq (g_66_3 n Z a b x4) (fun x => Q none x) → zw fm sx (d + 6) 66 3 [some (.ref 64), none, some (.int b), some (.ref 131), some (.int x4), none] [] Z Q := by
  intro n
  induction n with
  | zero => intro Z x4 H; exact absurd H oq_none
  | succ n ih =>
    intro Z x4 H
    unfold g_66_3 at H
    refine zw_run 2 (pc' := 6) (loc' := [some (.ref 64), none, some (.int b), some (.ref 131), some (.int x4), none]) (stk' := [.int b, .int x4]) (fun _ _ _ => rfl) ?_
    refine zw_br (c := b ≤ x4) (t1 := 133) (t2 := 9) (loc' := [some (.ref 64), none, some (.int b), some (.ref 131), some (.int x4), none]) (stk' := []) (fun _ _ _ => rfl) (fun c1 => ?_) (fun c1 => ?_)
    · rw [if_pos c1] at H
      refine zw_retv rfl rfl ?_
      have H := oq_some H
      exact H
    · rw [if_neg c1] at H
      refine zw_run 2 (pc' := 12) (loc' := [some (.ref 64), none, some (.int b), some (.ref 131), some (.int x4), none]) (stk' := [.int x4, .ref 64]) (fun _ _ _ => rfl) ?_
      obtain ⟨u2, hu2, H⟩ := oq_bind H
      refine zw_callf (As := [.ref 64, .int x4]) (rest := []) (c_63 hu x4 hu2 (d := d + 0)) rfl rfl rfl rfl ?_
      show zw fm sx (d + 6) 66 15 [some (.ref 64), none, some (.int b), some (.ref 131), some (.int x4), none] [.int u2.1] u2.2 Q
      refine zw_run 2 (pc' := 18) (loc' := [some (.ref 64), none, some (.int b), some (.ref 131), some (.int x4), some (.int u2.1)]) (stk' := [.ref 64]) (fun _ _ _ => rfl) ?_
      refine zw_get (v := .ref 61) rfl rfl rfl ?_
      refine zw_run 1 (pc' := 23) (loc' := [some (.ref 64), none, some (.int b), some (.ref 131), some (.int x4), some (.int u2.1)]) (stk' := [.int x4, .ref 61]) (fun _ _ _ => rfl) ?_
      refine zw_callf (As := [.ref 61, .int x4]) (rest := []) (c_row_at (id := 61) (by decide) x4 (d := d + 5)) rfl rfl rfl rfl ?_
      show zw fm sx (d + 6) 66 26 [some (.ref 64), none, some (.int b), some (.ref 131), some (.int x4), some (.int u2.1)] [.int (zt u2.2 61 x4)] u2.2 Q
      refine zw_run 1 (pc' := 28) (loc' := [some (.ref 64), none, some (.int b), some (.ref 131), some (.int x4), some (.int u2.1)]) (stk' := [.int 92, .int (zt u2.2 61 x4)]) (fun _ _ _ => rfl) ?_
      refine zw_br (c := ¬ (zt u2.2 61 x4) = 92) (t1 := 77) (t2 := 31) (loc' := [some (.ref 64), none, some (.int b), some (.ref 131), some (.int x4), some (.int u2.1)]) (stk' := []) (fun _ _ _ => rfl) (fun c3 => ?_) (fun c3 => ?_)
      · rw [if_pos c3] at H
        refine zw_run 2 (pc' := 81) (loc' := [some (.ref 64), none, some (.int b), some (.ref 131), some (.int x4), some (.int u2.1)]) (stk' := [.int x4, .int u2.1]) (fun _ _ _ => rfl) ?_
        refine zw_br (c := u2.1 ≤ x4) (t1 := 114) (t2 := 84) (loc' := [some (.ref 64), none, some (.int b), some (.ref 131), some (.int x4), some (.int u2.1)]) (stk' := []) (fun _ _ _ => rfl) (fun c4 => ?_) (fun c4 => ?_)
        · rw [if_pos c4] at H
          refine zw_run 2 (pc' := 116) (loc' := [some (.ref 64), none, some (.int b), some (.ref 131), some (.int x4), some (.int u2.1)]) (stk' := [.ref 64, .ref 131]) (fun _ _ _ => rfl) ?_
          refine zw_get (v := .ref 61) rfl rfl rfl ?_
          refine zw_run 1 (pc' := 121) (loc' := [some (.ref 64), none, some (.int b), some (.ref 131), some (.int x4), some (.int u2.1)]) (stk' := [.int x4, .ref 61, .ref 131]) (fun _ _ _ => rfl) ?_
          refine zw_callf (As := [.ref 61, .int x4]) (rest := [.ref 131]) (c_row_at (id := 61) (by decide) x4 (d := d + 5)) rfl rfl rfl rfl ?_
          show zw fm sx (d + 6) 66 124 [some (.ref 64), none, some (.int b), some (.ref 131), some (.int x4), some (.int u2.1)] [.int (zt u2.2 61 x4), .ref 131] u2.2 Q
          refine zw_callf (As := [.ref 131, .int (zt u2.2 61 x4)]) (rest := []) (c_row_add (id := 131) (by decide) (zt u2.2 61 x4) (d := d + 4)) rfl rfl rfl rfl ?_
          show zw fm sx (d + 6) 66 127 [some (.ref 64), none, some (.int b), some (.ref 131), some (.int x4), some (.int u2.1)] [] (zadd u2.2 131 (zt u2.2 61 x4)) Q
          refine zw_run 2 (pc' := 3) (loc' := [some (.ref 64), none, some (.int b), some (.ref 131), some (.int (x4 + 1)), some (.int u2.1)]) (stk' := []) (fun _ _ _ => rfl) ?_
          refine zw_fgt [true, false, true, true, true, false] rfl ?_
          exact ih (zadd u2.2 131 (zt u2.2 61 x4)) (x4 + 1) H
        · rw [if_neg c4] at H
          refine zw_run 2 (pc' := 86) (loc' := [some (.ref 64), none, some (.int b), some (.ref 131), some (.int x4), some (.int u2.1)]) (stk' := [.ref 64, .ref 131]) (fun _ _ _ => rfl) ?_
          refine zw_get (v := .int (zc u2.2 0)) rfl rfl rfl ?_
          refine zw_callf (As := [.int (zc u2.2 0)]) (rest := [.ref 131]) (c_200 (zc u2.2 0) (d := d + 5)) rfl rfl rfl rfl ?_
          show zw fm sx (d + 6) 66 92 [some (.ref 64), none, some (.int b), some (.ref 131), some (.int x4), some (.int u2.1)] [.int (bI (k_200 (zc u2.2 0))), .ref 131] u2.2 Q
          have J7 : ∀ (v6 : Int32), v6 = (if (k_200 (zc u2.2 0)) = true then 65533 else (zc u2.2 0) : Int32) → zw fm sx (d + 6) 66 104 [some (.ref 64), none, some (.int b), some (.ref 131), some (.int x4), some (.int u2.1)] [.int v6, .ref 131] u2.2 Q := by
            intro v6 ev6
            subst ev6
            refine zw_callf (As := [.ref 131, .int (if (k_200 (zc u2.2 0)) = true then 65533 else (zc u2.2 0) : Int32)]) (rest := []) (c_row_add (id := 131) (by decide) (if (k_200 (zc u2.2 0)) = true then 65533 else (zc u2.2 0) : Int32) (d := d + 4)) rfl rfl rfl rfl ?_
            show zw fm sx (d + 6) 66 107 [some (.ref 64), none, some (.int b), some (.ref 131), some (.int x4), some (.int u2.1)] [] (zadd u2.2 131 (if (k_200 (zc u2.2 0)) = true then 65533 else (zc u2.2 0) : Int32)) Q
            obtain ⟨Z8, hZ8⟩ : ∃ w : zr_Z, w = zadd u2.2 131 (if (k_200 (zc u2.2 0)) = true then 65533 else (zc u2.2 0) : Int32) := ⟨_, rfl⟩
            rw [← hZ8]
            have H := oq_let H Z8 hZ8
            refine zw_run 4 (pc' := 3) (loc' := [some (.ref 64), none, some (.int b), some (.ref 131), some (.int u2.1), some (.int u2.1)]) (stk' := []) (fun _ _ _ => rfl) ?_
            refine zw_fgt [true, false, true, true, true, false] rfl ?_
            exact ih Z8 u2.1 H
          refine zw_b0 (b := (k_200 (zc u2.2 0))) (t1 := 95) (t2 := 100) (loc' := [some (.ref 64), none, some (.int b), some (.ref 131), some (.int x4), some (.int u2.1)]) (stk' := [.ref 131]) (fun _ _ _ => rfl) (fun c5 => ?_) (fun c5 => ?_)
          · skip
            refine zw_run 2 (pc' := 104) (loc' := [some (.ref 64), none, some (.int b), some (.ref 131), some (.int x4), some (.int u2.1)]) (stk' := [.int 65533, .ref 131]) (fun _ _ _ => rfl) ?_
            exact J7 _ (by first | (rw [if_pos c5]; done) | (rw [if_pos c5]; rfl) | (clear H J7; simp_all [bI]; done))
          · skip
            refine zw_run 1 (pc' := 101) (loc' := [some (.ref 64), none, some (.int b), some (.ref 131), some (.int x4), some (.int u2.1)]) (stk' := [.ref 64, .ref 131]) (fun _ _ _ => rfl) ?_
            refine zw_get (v := .int (zc u2.2 0)) rfl rfl rfl ?_
            exact J7 _ (by first | (rw [if_neg c5]; done) | (rw [if_neg c5]; rfl) | (clear H J7; simp_all [bI]; done))
      · rw [if_neg c3] at H
        refine zw_run 4 (pc' := 36) (loc' := [some (.ref 64), none, some (.int b), some (.ref 131), some (.int x4), some (.int u2.1)]) (stk' := [.int b, .int (x4 + 1)]) (fun _ _ _ => rfl) ?_
        refine zw_br (c := b ≤ (x4 + 1)) (t1 := 77) (t2 := 39) (loc' := [some (.ref 64), none, some (.int b), some (.ref 131), some (.int x4), some (.int u2.1)]) (stk' := []) (fun _ _ _ => rfl) (fun c9 => ?_) (fun c9 => ?_)
        · rw [if_pos c9] at H
          refine zw_run 2 (pc' := 81) (loc' := [some (.ref 64), none, some (.int b), some (.ref 131), some (.int x4), some (.int u2.1)]) (stk' := [.int x4, .int u2.1]) (fun _ _ _ => rfl) ?_
          refine zw_br (c := u2.1 ≤ x4) (t1 := 114) (t2 := 84) (loc' := [some (.ref 64), none, some (.int b), some (.ref 131), some (.int x4), some (.int u2.1)]) (stk' := []) (fun _ _ _ => rfl) (fun c10 => ?_) (fun c10 => ?_)
          · rw [if_pos c10] at H
            refine zw_run 2 (pc' := 116) (loc' := [some (.ref 64), none, some (.int b), some (.ref 131), some (.int x4), some (.int u2.1)]) (stk' := [.ref 64, .ref 131]) (fun _ _ _ => rfl) ?_
            refine zw_get (v := .ref 61) rfl rfl rfl ?_
            refine zw_run 1 (pc' := 121) (loc' := [some (.ref 64), none, some (.int b), some (.ref 131), some (.int x4), some (.int u2.1)]) (stk' := [.int x4, .ref 61, .ref 131]) (fun _ _ _ => rfl) ?_
            refine zw_callf (As := [.ref 61, .int x4]) (rest := [.ref 131]) (c_row_at (id := 61) (by decide) x4 (d := d + 5)) rfl rfl rfl rfl ?_
            show zw fm sx (d + 6) 66 124 [some (.ref 64), none, some (.int b), some (.ref 131), some (.int x4), some (.int u2.1)] [.int (zt u2.2 61 x4), .ref 131] u2.2 Q
            refine zw_callf (As := [.ref 131, .int (zt u2.2 61 x4)]) (rest := []) (c_row_add (id := 131) (by decide) (zt u2.2 61 x4) (d := d + 4)) rfl rfl rfl rfl ?_
            show zw fm sx (d + 6) 66 127 [some (.ref 64), none, some (.int b), some (.ref 131), some (.int x4), some (.int u2.1)] [] (zadd u2.2 131 (zt u2.2 61 x4)) Q
            refine zw_run 2 (pc' := 3) (loc' := [some (.ref 64), none, some (.int b), some (.ref 131), some (.int (x4 + 1)), some (.int u2.1)]) (stk' := []) (fun _ _ _ => rfl) ?_
            refine zw_fgt [true, false, true, true, true, false] rfl ?_
            exact ih (zadd u2.2 131 (zt u2.2 61 x4)) (x4 + 1) H
          · rw [if_neg c10] at H
            refine zw_run 2 (pc' := 86) (loc' := [some (.ref 64), none, some (.int b), some (.ref 131), some (.int x4), some (.int u2.1)]) (stk' := [.ref 64, .ref 131]) (fun _ _ _ => rfl) ?_
            refine zw_get (v := .int (zc u2.2 0)) rfl rfl rfl ?_
            refine zw_callf (As := [.int (zc u2.2 0)]) (rest := [.ref 131]) (c_200 (zc u2.2 0) (d := d + 5)) rfl rfl rfl rfl ?_
            show zw fm sx (d + 6) 66 92 [some (.ref 64), none, some (.int b), some (.ref 131), some (.int x4), some (.int u2.1)] [.int (bI (k_200 (zc u2.2 0))), .ref 131] u2.2 Q
            have J13 : ∀ (v12 : Int32), v12 = (if (k_200 (zc u2.2 0)) = true then 65533 else (zc u2.2 0) : Int32) → zw fm sx (d + 6) 66 104 [some (.ref 64), none, some (.int b), some (.ref 131), some (.int x4), some (.int u2.1)] [.int v12, .ref 131] u2.2 Q := by
              intro v12 ev12
              subst ev12
              refine zw_callf (As := [.ref 131, .int (if (k_200 (zc u2.2 0)) = true then 65533 else (zc u2.2 0) : Int32)]) (rest := []) (c_row_add (id := 131) (by decide) (if (k_200 (zc u2.2 0)) = true then 65533 else (zc u2.2 0) : Int32) (d := d + 4)) rfl rfl rfl rfl ?_
              show zw fm sx (d + 6) 66 107 [some (.ref 64), none, some (.int b), some (.ref 131), some (.int x4), some (.int u2.1)] [] (zadd u2.2 131 (if (k_200 (zc u2.2 0)) = true then 65533 else (zc u2.2 0) : Int32)) Q
              obtain ⟨Z14, hZ14⟩ : ∃ w : zr_Z, w = zadd u2.2 131 (if (k_200 (zc u2.2 0)) = true then 65533 else (zc u2.2 0) : Int32) := ⟨_, rfl⟩
              rw [← hZ14]
              have H := oq_let H Z14 hZ14
              refine zw_run 4 (pc' := 3) (loc' := [some (.ref 64), none, some (.int b), some (.ref 131), some (.int u2.1), some (.int u2.1)]) (stk' := []) (fun _ _ _ => rfl) ?_
              refine zw_fgt [true, false, true, true, true, false] rfl ?_
              exact ih Z14 u2.1 H
            refine zw_b0 (b := (k_200 (zc u2.2 0))) (t1 := 95) (t2 := 100) (loc' := [some (.ref 64), none, some (.int b), some (.ref 131), some (.int x4), some (.int u2.1)]) (stk' := [.ref 131]) (fun _ _ _ => rfl) (fun c11 => ?_) (fun c11 => ?_)
            · skip
              refine zw_run 2 (pc' := 104) (loc' := [some (.ref 64), none, some (.int b), some (.ref 131), some (.int x4), some (.int u2.1)]) (stk' := [.int 65533, .ref 131]) (fun _ _ _ => rfl) ?_
              exact J13 _ (by first | (rw [if_pos c11]; done) | (rw [if_pos c11]; rfl) | (clear H J13; simp_all [bI]; done))
            · skip
              refine zw_run 1 (pc' := 101) (loc' := [some (.ref 64), none, some (.int b), some (.ref 131), some (.int x4), some (.int u2.1)]) (stk' := [.ref 64, .ref 131]) (fun _ _ _ => rfl) ?_
              refine zw_get (v := .int (zc u2.2 0)) rfl rfl rfl ?_
              exact J13 _ (by first | (rw [if_neg c11]; done) | (rw [if_neg c11]; rfl) | (clear H J13; simp_all [bI]; done))
        · rw [if_neg c9] at H
          refine zw_run 1 (pc' := 40) (loc' := [some (.ref 64), none, some (.int b), some (.ref 131), some (.int x4), some (.int u2.1)]) (stk' := [.ref 64]) (fun _ _ _ => rfl) ?_
          refine zw_get (v := .ref 61) rfl rfl rfl ?_
          refine zw_run 3 (pc' := 47) (loc' := [some (.ref 64), none, some (.int b), some (.ref 131), some (.int x4), some (.int u2.1)]) (stk' := [.int (x4 + 1), .ref 61]) (fun _ _ _ => rfl) ?_
          refine zw_callf (As := [.ref 61, .int (x4 + 1)]) (rest := []) (c_row_at (id := 61) (by decide) (x4 + 1) (d := d + 5)) rfl rfl rfl rfl ?_
          show zw fm sx (d + 6) 66 50 [some (.ref 64), none, some (.int b), some (.ref 131), some (.int x4), some (.int u2.1)] [.int (zt u2.2 61 (x4 + 1))] u2.2 Q
          refine zw_callf (As := [.int (zt u2.2 61 (x4 + 1))]) (rest := []) (c_198 (zt u2.2 61 (x4 + 1)) (d := d + 5)) rfl rfl rfl rfl ?_
          show zw fm sx (d + 6) 66 53 [some (.ref 64), none, some (.int b), some (.ref 131), some (.int x4), some (.int u2.1)] [.int (bI (k_198 (zt u2.2 61 (x4 + 1))))] u2.2 Q
          refine zw_b0 (b := (k_198 (zt u2.2 61 (x4 + 1)))) (t1 := 56) (t2 := 77) (loc' := [some (.ref 64), none, some (.int b), some (.ref 131), some (.int x4), some (.int u2.1)]) (stk' := []) (fun _ _ _ => rfl) (fun c15 => ?_) (fun c15 => ?_)
          · rw [if_pos c15] at H
            refine zw_run 2 (pc' := 58) (loc' := [some (.ref 64), none, some (.int b), some (.ref 131), some (.int x4), some (.int u2.1)]) (stk' := [.ref 64, .ref 131]) (fun _ _ _ => rfl) ?_
            refine zw_get (v := .ref 61) rfl rfl rfl ?_
            refine zw_run 3 (pc' := 65) (loc' := [some (.ref 64), none, some (.int b), some (.ref 131), some (.int x4), some (.int u2.1)]) (stk' := [.int (x4 + 1), .ref 61, .ref 131]) (fun _ _ _ => rfl) ?_
            refine zw_callf (As := [.ref 61, .int (x4 + 1)]) (rest := [.ref 131]) (c_row_at (id := 61) (by decide) (x4 + 1) (d := d + 5)) rfl rfl rfl rfl ?_
            show zw fm sx (d + 6) 66 68 [some (.ref 64), none, some (.int b), some (.ref 131), some (.int x4), some (.int u2.1)] [.int (zt u2.2 61 (x4 + 1)), .ref 131] u2.2 Q
            refine zw_callf (As := [.ref 131, .int (zt u2.2 61 (x4 + 1))]) (rest := []) (c_row_add (id := 131) (by decide) (zt u2.2 61 (x4 + 1)) (d := d + 4)) rfl rfl rfl rfl ?_
            show zw fm sx (d + 6) 66 71 [some (.ref 64), none, some (.int b), some (.ref 131), some (.int x4), some (.int u2.1)] [] (zadd u2.2 131 (zt u2.2 61 (x4 + 1))) Q
            refine zw_run 3 (pc' := 3) (loc' := [some (.ref 64), none, some (.int b), some (.ref 131), some (.int (x4 + 2)), some (.int u2.1)]) (stk' := []) (fun _ _ _ => rfl) ?_
            refine zw_fgt [true, false, true, true, true, false] rfl ?_
            exact ih (zadd u2.2 131 (zt u2.2 61 (x4 + 1))) (x4 + 2) H
          · rw [if_neg c15] at H
            refine zw_run 2 (pc' := 81) (loc' := [some (.ref 64), none, some (.int b), some (.ref 131), some (.int x4), some (.int u2.1)]) (stk' := [.int x4, .int u2.1]) (fun _ _ _ => rfl) ?_
            refine zw_br (c := u2.1 ≤ x4) (t1 := 114) (t2 := 84) (loc' := [some (.ref 64), none, some (.int b), some (.ref 131), some (.int x4), some (.int u2.1)]) (stk' := []) (fun _ _ _ => rfl) (fun c16 => ?_) (fun c16 => ?_)
            · rw [if_pos c16] at H
              refine zw_run 2 (pc' := 116) (loc' := [some (.ref 64), none, some (.int b), some (.ref 131), some (.int x4), some (.int u2.1)]) (stk' := [.ref 64, .ref 131]) (fun _ _ _ => rfl) ?_
              refine zw_get (v := .ref 61) rfl rfl rfl ?_
              refine zw_run 1 (pc' := 121) (loc' := [some (.ref 64), none, some (.int b), some (.ref 131), some (.int x4), some (.int u2.1)]) (stk' := [.int x4, .ref 61, .ref 131]) (fun _ _ _ => rfl) ?_
              refine zw_callf (As := [.ref 61, .int x4]) (rest := [.ref 131]) (c_row_at (id := 61) (by decide) x4 (d := d + 5)) rfl rfl rfl rfl ?_
              show zw fm sx (d + 6) 66 124 [some (.ref 64), none, some (.int b), some (.ref 131), some (.int x4), some (.int u2.1)] [.int (zt u2.2 61 x4), .ref 131] u2.2 Q
              refine zw_callf (As := [.ref 131, .int (zt u2.2 61 x4)]) (rest := []) (c_row_add (id := 131) (by decide) (zt u2.2 61 x4) (d := d + 4)) rfl rfl rfl rfl ?_
              show zw fm sx (d + 6) 66 127 [some (.ref 64), none, some (.int b), some (.ref 131), some (.int x4), some (.int u2.1)] [] (zadd u2.2 131 (zt u2.2 61 x4)) Q
              refine zw_run 2 (pc' := 3) (loc' := [some (.ref 64), none, some (.int b), some (.ref 131), some (.int (x4 + 1)), some (.int u2.1)]) (stk' := []) (fun _ _ _ => rfl) ?_
              refine zw_fgt [true, false, true, true, true, false] rfl ?_
              exact ih (zadd u2.2 131 (zt u2.2 61 x4)) (x4 + 1) H
            · rw [if_neg c16] at H
              refine zw_run 2 (pc' := 86) (loc' := [some (.ref 64), none, some (.int b), some (.ref 131), some (.int x4), some (.int u2.1)]) (stk' := [.ref 64, .ref 131]) (fun _ _ _ => rfl) ?_
              refine zw_get (v := .int (zc u2.2 0)) rfl rfl rfl ?_
              refine zw_callf (As := [.int (zc u2.2 0)]) (rest := [.ref 131]) (c_200 (zc u2.2 0) (d := d + 5)) rfl rfl rfl rfl ?_
              show zw fm sx (d + 6) 66 92 [some (.ref 64), none, some (.int b), some (.ref 131), some (.int x4), some (.int u2.1)] [.int (bI (k_200 (zc u2.2 0))), .ref 131] u2.2 Q
              have J19 : ∀ (v18 : Int32), v18 = (if (k_200 (zc u2.2 0)) = true then 65533 else (zc u2.2 0) : Int32) → zw fm sx (d + 6) 66 104 [some (.ref 64), none, some (.int b), some (.ref 131), some (.int x4), some (.int u2.1)] [.int v18, .ref 131] u2.2 Q := by
                intro v18 ev18
                subst ev18
                refine zw_callf (As := [.ref 131, .int (if (k_200 (zc u2.2 0)) = true then 65533 else (zc u2.2 0) : Int32)]) (rest := []) (c_row_add (id := 131) (by decide) (if (k_200 (zc u2.2 0)) = true then 65533 else (zc u2.2 0) : Int32) (d := d + 4)) rfl rfl rfl rfl ?_
                show zw fm sx (d + 6) 66 107 [some (.ref 64), none, some (.int b), some (.ref 131), some (.int x4), some (.int u2.1)] [] (zadd u2.2 131 (if (k_200 (zc u2.2 0)) = true then 65533 else (zc u2.2 0) : Int32)) Q
                obtain ⟨Z20, hZ20⟩ : ∃ w : zr_Z, w = zadd u2.2 131 (if (k_200 (zc u2.2 0)) = true then 65533 else (zc u2.2 0) : Int32) := ⟨_, rfl⟩
                rw [← hZ20]
                have H := oq_let H Z20 hZ20
                refine zw_run 4 (pc' := 3) (loc' := [some (.ref 64), none, some (.int b), some (.ref 131), some (.int u2.1), some (.int u2.1)]) (stk' := []) (fun _ _ _ => rfl) ?_
                refine zw_fgt [true, false, true, true, true, false] rfl ?_
                exact ih Z20 u2.1 H
              refine zw_b0 (b := (k_200 (zc u2.2 0))) (t1 := 95) (t2 := 100) (loc' := [some (.ref 64), none, some (.int b), some (.ref 131), some (.int x4), some (.int u2.1)]) (stk' := [.ref 131]) (fun _ _ _ => rfl) (fun c17 => ?_) (fun c17 => ?_)
              · skip
                refine zw_run 2 (pc' := 104) (loc' := [some (.ref 64), none, some (.int b), some (.ref 131), some (.int x4), some (.int u2.1)]) (stk' := [.int 65533, .ref 131]) (fun _ _ _ => rfl) ?_
                exact J19 _ (by first | (rw [if_pos c17]; done) | (rw [if_pos c17]; rfl) | (clear H J19; simp_all [bI]; done))
              · skip
                refine zw_run 1 (pc' := 101) (loc' := [some (.ref 64), none, some (.int b), some (.ref 131), some (.int x4), some (.int u2.1)]) (stk' := [.ref 64, .ref 131]) (fun _ _ _ => rfl) ?_
                refine zw_get (v := .int (zc u2.2 0)) rfl rfl rfl ?_
                exact J19 _ (by first | (rw [if_neg c17]; done) | (rw [if_neg c17]; rfl) | (clear H J19; simp_all [bI]; done))
/-- MarkInlines$References.addUnescaped -/
def o_66 (Z : zr_Z) (a : Int32) (b : Int32) : Option zr_Z := g_66_3 oF Z a b a
set_option maxRecDepth 100000 in
set_option maxHeartbeats 4000000 in
theorem t_66 {fm : Value} {sx : Nat × (Nat → Int32)} {d : Nat} {Z : zr_Z} {Q : Option Value → zr_Z → Prop} (hu : fm = .null ∨ ∃ q, fm = .ref q) (a : Int32) (b : Int32) (H : oq (o_66 Z a b) (fun x => Q none x)) : zw fm sx (d + 6) 66 0 [some (.ref 64), some (.int a), some (.int b), some (.ref 131), none, none] [] Z Q := by
  unfold o_66 at H
  refine zw_run 2 (pc' := 3) (loc' := [some (.ref 64), some (.int a), some (.int b), some (.ref 131), some (.int a), none]) (stk' := []) (fun _ _ _ => rfl) ?_
  refine zw_fgt [true, false, true, true, true, false] rfl ?_
  exact l_66_3 hu a b _ Z a H
theorem c_66 {fm : Value} {sx : Nat × (Nat → Int32)} {d : Nat} {Z : zr_Z} (hu : fm = .null ∨ ∃ q, fm = .ref q) (a : Int32) (b : Int32) {x : zr_Z} (hx : o_66 Z a b = some x) : zl fm sx (d + 7) 66 [.ref 64, .int a, .int b, .ref 131] Z (fun r Z' => r = none ∧ Z' = x) :=
  zl_of (nL := 6) (loc0 := [some (.ref 64), some (.int a), some (.int b), some (.ref 131), none, none]) rfl rfl rfl (t_66 hu a b ⟨x, hx, rfl, rfl⟩)
