/-! the reference's constructor -/
def MH (f0 : Nat → Option am_C) (c : Nat) (fs : List Value) (f : Nat → Option am_C) : Prop := f 136 = some (.inr (11, fs)) ∧ (∀ j, 137 ≤ j → j < c → f j = some (.inl (zr_akd j, zr_alen j, .inl (fun _ => 0)))) ∧ (∀ j, j < 136 → f j = f0 j)
theorem MH_136 {f0 f : Nat → Option am_C} {c : Nat} {fs : List Value} {x : am_C} (h : MH f0 c fs f) (hc : 136 ≠ c := by decide) : (am_new (f, c) x).1 136 = some (.inr (11, fs)) := by
  show (if 136 = c then some x else f 136) = _
  rw [if_neg hc]; exact h.1
section
variable {fm : Value} {d pc : Nat} {loc : am_L} {stk rest : List Value} {Q : Option Value → am_H → Nat → Nat → Prop} {f0 f : Nat → Option am_C} {c : Nat} {fs fs' : List Value}
theorem hm_start {f : Nat → Option am_C} (hfs : am_fs 11 = fs) (kk : ∀ f', MH f 137 fs f' → hw fm d 121 pc loc stk (f', 137) Q) : hw fm d 121 pc loc stk (am_new (f, 136) (.inr (11, am_fs 11))) Q := by
  refine kk _ ⟨?_, fun j h1 h2 => absurd h2 (by omega), fun j hj => ?_⟩
  · show (if 136 = 136 then _ else _) = _
    rw [if_pos rfl, hfs]
  · show (if j = 136 then _ else f j) = _
    rw [if_neg (by omega)]
theorem hm_next {q n k : Nat} {v : Value} (hM : MH f0 c fs f) (hc : 137 ≤ c) (hq : zr_akd c = q) (hn : zr_alen c = n) (hs : fs.set k v = fs') (kk : ∀ f', MH f0 (c + 1) fs' f' → hw fm d 121 pc loc stk (f', c + 1) Q) :
    hw fm d 121 pc loc stk (am_up (am_new (f, c) (.inl (q, n, .inl (fun _ => 0)))) 136 (.inr (11, fs.set k v))) Q := by
  refine kk _ ⟨?_, fun j h1 h2 => ?_, fun j hj => ?_⟩
  · show (if 136 = 136 then _ else _) = _
    rw [if_pos rfl, hs]
  · show (if j = 136 then _ else if j = c then _ else f j) = _
    rw [if_neg (by omega)]
    by_cases e : j = c
    · rw [if_pos e, e, hq, hn]
    · rw [if_neg e]; exact hM.2.1 j h1 (by omega)
  · show (if j = 136 then _ else if j = c then _ else f j) = _
    rw [if_neg (by omega), if_neg (by omega)]; exact hM.2.2 j hj
theorem hm_same {k : Nat} {v : Value} (hM : MH f0 c fs f) (hs : fs.set k v = fs') (kk : ∀ f', MH f0 c fs' f' → hw fm d 121 pc loc stk (f', c) Q) :
    hw fm d 121 pc loc stk (am_up (f, c) 136 (.inr (11, fs.set k v))) Q := by
  refine kk _ ⟨?_, fun j h1 h2 => ?_, fun j hj => ?_⟩
  · show (if 136 = 136 then _ else _) = _
    rw [if_pos rfl, hs]
  · show (if j = 136 then _ else f j) = _
    rw [if_neg (by omega)]; exact hM.2.1 j h1 h2
  · show (if j = 136 then _ else f j) = _
    rw [if_neg (by omega)]; exact hM.2.2 j hj
/-- the names, as far as they are written -/
def NH (g : Nat → Int32) (f : Nat → Option am_C) : am_H := am_up (f, 174) 173 (.inl (0, 97, .inl g))
theorem hn_start (kk : ∀ g : Nat → Int32, (∀ j, j < 0 → g j = zr_names.getD j 0) → hw fm d 121 pc loc stk (NH g f) Q) : hw fm d 121 pc loc stk (am_new (f, 173) (.inl (0, 97, .inl (fun _ => 0)))) Q :=
  kk _ (fun j hj => absurd hj (by omega))
theorem hn_ast {n cc b p : Nat} {u : Value} {i x : Int32} {g : Nat → Int32} (ho : am_ops 121 pc = some (.iastore, n, cc, b, u)) (hg : ∀ j, j < p → g j = zr_names.getD j 0) (hi : ¬ (i < 0 ∨ 97 ≤ i.toNatClampNeg)) (hp : i.toNatClampNeg = p) (hx : x = zr_names.getD p 0)
    (kk : ∀ g' : Nat → Int32, (∀ j, j < p + 1 → g' j = zr_names.getD j 0) → hw fm d 121 (pc + 1) loc rest (NH g' f) Q) : hw fm d 121 pc loc (.int x :: .int i :: .ref 173 :: rest) (NH g f) Q := by
  refine hw_iast ho (show (NH g f).1 173 = some (.inl (0, 97, .inl g)) from rfl) (by decide) hi ?_
  have e : am_up (NH g f) 173 (.inl (0, 97, .inl (upd g i.toNatClampNeg x))) = NH (upd g i.toNatClampNeg x) f := am_up_up _ _ _ _
  rw [e]
  refine kk _ (fun j hj => ?_)
  unfold upd
  by_cases h : j = i.toNatClampNeg
  · rw [if_pos h, hx, h, hp]
  · rw [if_neg h]; exact hg j (by omega)
theorem NH_136 {g : Nat → Int32} (h : MH f0 173 fs f) : (NH g f).1 136 = some (.inr (11, fs)) := h.1
/-- the reference as it is made -/
def MR (f0 f' : Nat → Option am_C) (g : Nat → Int32) : Prop := f' 136 = some (.inr (11, [.int 0, .ref 137, .ref 138, .int 0, .ref 139, .ref 140, .ref 141, .int 0, .int 0, .ref 142, .int 0, .ref 143, .ref 144, .ref 145, .ref 146, .ref 147, .ref 148, .ref 149, .ref 150, .ref 151, .int 0, .int 0, .ref 152, .ref 153, .ref 154, .ref 155, .ref 156, .ref 157, .int 0, .ref 158, .ref 159, .ref 160, .ref 161, .ref 162, .ref 163, .int 0, .int 0, .ref 164, .ref 165, .ref 166, .ref 167, .ref 168, .ref 169, .ref 170, .ref 171, .int (-1), .int 0, .int (-1), .ref 172, .int 0, .int 0, .int 0, .int 0, .int 0, .int 0, .int 0, .int 0, .ref 173])) ∧ (∀ j, 137 ≤ j → j < 173 → f' j = some (.inl (zr_akd j, zr_alen j, .inl (fun _ => 0)))) ∧ f' 173 = some (.inl (0, 97, .inl g)) ∧ (∀ j, j < 136 → f' j = f0 j) ∧ ∀ j, j < 97 → g j = zr_names.getD j 0
theorem MR_end {g : Nat → Int32} (hM : MH f0 173 fs f) (hg : ∀ j, j < 97 → g j = zr_names.getD j 0) : MR f0 (am_up (NH g f) 136 (.inr (11, [.int 0, .ref 137, .ref 138, .int 0, .ref 139, .ref 140, .ref 141, .int 0, .int 0, .ref 142, .int 0, .ref 143, .ref 144, .ref 145, .ref 146, .ref 147, .ref 148, .ref 149, .ref 150, .ref 151, .int 0, .int 0, .ref 152, .ref 153, .ref 154, .ref 155, .ref 156, .ref 157, .int 0, .ref 158, .ref 159, .ref 160, .ref 161, .ref 162, .ref 163, .int 0, .int 0, .ref 164, .ref 165, .ref 166, .ref 167, .ref 168, .ref 169, .ref 170, .ref 171, .int (-1), .int 0, .int (-1), .ref 172, .int 0, .int 0, .int 0, .int 0, .int 0, .int 0, .int 0, .int 0, .ref 173]))).1 g := by
  refine ⟨rfl, fun j h1 h2 => ?_, rfl, fun j hj => ?_, hg⟩
  · show (if j = 136 then _ else if j = 173 then _ else f j) = _
    rw [if_neg (by omega), if_neg (by omega)]; exact hM.2.1 j h1 (by omega)
  · show (if j = 136 then _ else if j = 173 then _ else f j) = _
    rw [if_neg (by omega), if_neg (by omega)]; exact hM.2.2 j hj
end

set_option maxRecDepth 100000 in
set_option maxHeartbeats 8000000 in
theorem k_121 {fm : Value} {d : Nat} (f : Nat → Option am_C) : ∃ f' g, am_R fm (d + 1) 121 [.ref 136] (am_new (f, 136) (.inr (11, am_fs 11))) none (f', 174) 37 175737 ∧ MR f f' g := by
  obtain ⟨r, h', mc, ms, q1, q2, q3, q4, f', g, q5, q6⟩ := hw_R (fm := fm) (d := d) (y := 121) (As := [.ref 136]) (h := am_new (f, 136) (.inr (11, am_fs 11))) (nL := 1) (loc0 := [some (.ref 136)]) (P := fun r h' mc ms => r = none ∧ mc = 37 ∧ ms = 175737 ∧ ∃ f' g, h' = (f', 174) ∧ MR f f' g) rfl rfl rfl (by
    refine hm_start (fs := [.int 0, .null, .null, .int 0, .null, .null, .null, .int 0, .int 0, .null, .int 0, .null, .null, .null, .null, .null, .null, .null, .null, .null, .int 0, .int 0, .null, .null, .null, .null, .null, .null, .int 0, .null, .null, .null, .null, .null, .null, .int 0, .int 0, .null, .null, .null, .null, .null, .null, .null, .null, .int 0, .int 0, .int 0, .null, .int 0, .int 0, .int 0, .int 0, .int 0, .int 0, .int 0, .int 0, .null]) rfl ?_
    intro f137 hM137
    refine hw_run 4 (pc' := 8) (loc' := [some (.ref 136)]) (stk' := [.int 1500, .ref 136]) (fun _ _ => rfl) ?_
    refine hw_newa rfl (by decide) (by decide) ?_
    refine hw_put (fs := [.int 0, .null, .null, .int 0, .null, .null, .null, .int 0, .int 0, .null, .int 0, .null, .null, .null, .null, .null, .null, .null, .null, .null, .int 0, .int 0, .null, .null, .null, .null, .null, .null, .int 0, .null, .null, .null, .null, .null, .null, .int 0, .int 0, .null, .null, .null, .null, .null, .null, .null, .null, .int 0, .int 0, .int 0, .null, .int 0, .int 0, .int 0, .int 0, .int 0, .int 0, .int 0, .int 0, .null]) rfl (MH_136 hM137) (by decide) (Nat.le_of_ble_eq_true rfl) rfl ?_
    refine hm_next (fs' := [.int 0, .ref 137, .null, .int 0, .null, .null, .null, .int 0, .int 0, .null, .int 0, .null, .null, .null, .null, .null, .null, .null, .null, .null, .int 0, .int 0, .null, .null, .null, .null, .null, .null, .int 0, .null, .null, .null, .null, .null, .null, .int 0, .int 0, .null, .null, .null, .null, .null, .null, .null, .null, .int 0, .int 0, .int 0, .null, .int 0, .int 0, .int 0, .int 0, .int 0, .int 0, .int 0, .int 0, .null]) hM137 (by decide) rfl rfl rfl ?_
    intro f138 hM138
    refine hw_run 2 (pc' := 16) (loc' := [some (.ref 136)]) (stk' := [.int 20, .ref 136]) (fun _ _ => rfl) ?_
    refine hw_newa rfl (by decide) (by decide) ?_
    refine hw_put (fs := [.int 0, .ref 137, .null, .int 0, .null, .null, .null, .int 0, .int 0, .null, .int 0, .null, .null, .null, .null, .null, .null, .null, .null, .null, .int 0, .int 0, .null, .null, .null, .null, .null, .null, .int 0, .null, .null, .null, .null, .null, .null, .int 0, .int 0, .null, .null, .null, .null, .null, .null, .null, .null, .int 0, .int 0, .int 0, .null, .int 0, .int 0, .int 0, .int 0, .int 0, .int 0, .int 0, .int 0, .null]) rfl (MH_136 hM138) (by decide) (Nat.le_of_ble_eq_true rfl) rfl ?_
    refine hm_next (fs' := [.int 0, .ref 137, .ref 138, .int 0, .null, .null, .null, .int 0, .int 0, .null, .int 0, .null, .null, .null, .null, .null, .null, .null, .null, .null, .int 0, .int 0, .null, .null, .null, .null, .null, .null, .int 0, .null, .null, .null, .null, .null, .null, .int 0, .int 0, .null, .null, .null, .null, .null, .null, .null, .null, .int 0, .int 0, .int 0, .null, .int 0, .int 0, .int 0, .int 0, .int 0, .int 0, .int 0, .int 0, .null]) hM138 (by decide) rfl rfl rfl ?_
    intro f139 hM139
    refine hw_run 2 (pc' := 25) (loc' := [some (.ref 136)]) (stk' := [.int 2000, .ref 136]) (fun _ _ => rfl) ?_
    refine hw_newa rfl (by decide) (by decide) ?_
    refine hw_put (fs := [.int 0, .ref 137, .ref 138, .int 0, .null, .null, .null, .int 0, .int 0, .null, .int 0, .null, .null, .null, .null, .null, .null, .null, .null, .null, .int 0, .int 0, .null, .null, .null, .null, .null, .null, .int 0, .null, .null, .null, .null, .null, .null, .int 0, .int 0, .null, .null, .null, .null, .null, .null, .null, .null, .int 0, .int 0, .int 0, .null, .int 0, .int 0, .int 0, .int 0, .int 0, .int 0, .int 0, .int 0, .null]) rfl (MH_136 hM139) (by decide) (Nat.le_of_ble_eq_true rfl) rfl ?_
    refine hm_next (fs' := [.int 0, .ref 137, .ref 138, .int 0, .ref 139, .null, .null, .int 0, .int 0, .null, .int 0, .null, .null, .null, .null, .null, .null, .null, .null, .null, .int 0, .int 0, .null, .null, .null, .null, .null, .null, .int 0, .null, .null, .null, .null, .null, .null, .int 0, .int 0, .null, .null, .null, .null, .null, .null, .null, .null, .int 0, .int 0, .int 0, .null, .int 0, .int 0, .int 0, .int 0, .int 0, .int 0, .int 0, .int 0, .null]) hM139 (by decide) rfl rfl rfl ?_
    intro f140 hM140
    refine hw_run 2 (pc' := 33) (loc' := [some (.ref 136)]) (stk' := [.int 20, .ref 136]) (fun _ _ => rfl) ?_
    refine hw_newa rfl (by decide) (by decide) ?_
    refine hw_put (fs := [.int 0, .ref 137, .ref 138, .int 0, .ref 139, .null, .null, .int 0, .int 0, .null, .int 0, .null, .null, .null, .null, .null, .null, .null, .null, .null, .int 0, .int 0, .null, .null, .null, .null, .null, .null, .int 0, .null, .null, .null, .null, .null, .null, .int 0, .int 0, .null, .null, .null, .null, .null, .null, .null, .null, .int 0, .int 0, .int 0, .null, .int 0, .int 0, .int 0, .int 0, .int 0, .int 0, .int 0, .int 0, .null]) rfl (MH_136 hM140) (by decide) (Nat.le_of_ble_eq_true rfl) rfl ?_
    refine hm_next (fs' := [.int 0, .ref 137, .ref 138, .int 0, .ref 139, .ref 140, .null, .int 0, .int 0, .null, .int 0, .null, .null, .null, .null, .null, .null, .null, .null, .null, .int 0, .int 0, .null, .null, .null, .null, .null, .null, .int 0, .null, .null, .null, .null, .null, .null, .int 0, .int 0, .null, .null, .null, .null, .null, .null, .null, .null, .int 0, .int 0, .int 0, .null, .int 0, .int 0, .int 0, .int 0, .int 0, .int 0, .int 0, .int 0, .null]) hM140 (by decide) rfl rfl rfl ?_
    intro f141 hM141
    refine hw_run 2 (pc' := 41) (loc' := [some (.ref 136)]) (stk' := [.int 100, .ref 136]) (fun _ _ => rfl) ?_
    refine hw_newa rfl (by decide) (by decide) ?_
    refine hw_put (fs := [.int 0, .ref 137, .ref 138, .int 0, .ref 139, .ref 140, .null, .int 0, .int 0, .null, .int 0, .null, .null, .null, .null, .null, .null, .null, .null, .null, .int 0, .int 0, .null, .null, .null, .null, .null, .null, .int 0, .null, .null, .null, .null, .null, .null, .int 0, .int 0, .null, .null, .null, .null, .null, .null, .null, .null, .int 0, .int 0, .int 0, .null, .int 0, .int 0, .int 0, .int 0, .int 0, .int 0, .int 0, .int 0, .null]) rfl (MH_136 hM141) (by decide) (Nat.le_of_ble_eq_true rfl) rfl ?_
    refine hm_next (fs' := [.int 0, .ref 137, .ref 138, .int 0, .ref 139, .ref 140, .ref 141, .int 0, .int 0, .null, .int 0, .null, .null, .null, .null, .null, .null, .null, .null, .null, .int 0, .int 0, .null, .null, .null, .null, .null, .null, .int 0, .null, .null, .null, .null, .null, .null, .int 0, .int 0, .null, .null, .null, .null, .null, .null, .null, .null, .int 0, .int 0, .int 0, .null, .int 0, .int 0, .int 0, .int 0, .int 0, .int 0, .int 0, .int 0, .null]) hM141 (by decide) rfl rfl rfl ?_
    intro f142 hM142
    refine hw_run 2 (pc' := 50) (loc' := [some (.ref 136)]) (stk' := [.int 20000, .ref 136]) (fun _ _ => rfl) ?_
    refine hw_newa rfl (by decide) (by decide) ?_
    refine hw_put (fs := [.int 0, .ref 137, .ref 138, .int 0, .ref 139, .ref 140, .ref 141, .int 0, .int 0, .null, .int 0, .null, .null, .null, .null, .null, .null, .null, .null, .null, .int 0, .int 0, .null, .null, .null, .null, .null, .null, .int 0, .null, .null, .null, .null, .null, .null, .int 0, .int 0, .null, .null, .null, .null, .null, .null, .null, .null, .int 0, .int 0, .int 0, .null, .int 0, .int 0, .int 0, .int 0, .int 0, .int 0, .int 0, .int 0, .null]) rfl (MH_136 hM142) (by decide) (Nat.le_of_ble_eq_true rfl) rfl ?_
    refine hm_next (fs' := [.int 0, .ref 137, .ref 138, .int 0, .ref 139, .ref 140, .ref 141, .int 0, .int 0, .ref 142, .int 0, .null, .null, .null, .null, .null, .null, .null, .null, .null, .int 0, .int 0, .null, .null, .null, .null, .null, .null, .int 0, .null, .null, .null, .null, .null, .null, .int 0, .int 0, .null, .null, .null, .null, .null, .null, .null, .null, .int 0, .int 0, .int 0, .null, .int 0, .int 0, .int 0, .int 0, .int 0, .int 0, .int 0, .int 0, .null]) hM142 (by decide) rfl rfl rfl ?_
    intro f143 hM143
    refine hw_run 2 (pc' := 59) (loc' := [some (.ref 136)]) (stk' := [.int 8000, .ref 136]) (fun _ _ => rfl) ?_
    refine hw_newa rfl (by decide) (by decide) ?_
    refine hw_put (fs := [.int 0, .ref 137, .ref 138, .int 0, .ref 139, .ref 140, .ref 141, .int 0, .int 0, .ref 142, .int 0, .null, .null, .null, .null, .null, .null, .null, .null, .null, .int 0, .int 0, .null, .null, .null, .null, .null, .null, .int 0, .null, .null, .null, .null, .null, .null, .int 0, .int 0, .null, .null, .null, .null, .null, .null, .null, .null, .int 0, .int 0, .int 0, .null, .int 0, .int 0, .int 0, .int 0, .int 0, .int 0, .int 0, .int 0, .null]) rfl (MH_136 hM143) (by decide) (Nat.le_of_ble_eq_true rfl) rfl ?_
    refine hm_next (fs' := [.int 0, .ref 137, .ref 138, .int 0, .ref 139, .ref 140, .ref 141, .int 0, .int 0, .ref 142, .int 0, .ref 143, .null, .null, .null, .null, .null, .null, .null, .null, .int 0, .int 0, .null, .null, .null, .null, .null, .null, .int 0, .null, .null, .null, .null, .null, .null, .int 0, .int 0, .null, .null, .null, .null, .null, .null, .null, .null, .int 0, .int 0, .int 0, .null, .int 0, .int 0, .int 0, .int 0, .int 0, .int 0, .int 0, .int 0, .null]) hM143 (by decide) rfl rfl rfl ?_
    intro f144 hM144
    refine hw_run 2 (pc' := 68) (loc' := [some (.ref 136)]) (stk' := [.int 8000, .ref 136]) (fun _ _ => rfl) ?_
    refine hw_newa rfl (by decide) (by decide) ?_
    refine hw_put (fs := [.int 0, .ref 137, .ref 138, .int 0, .ref 139, .ref 140, .ref 141, .int 0, .int 0, .ref 142, .int 0, .ref 143, .null, .null, .null, .null, .null, .null, .null, .null, .int 0, .int 0, .null, .null, .null, .null, .null, .null, .int 0, .null, .null, .null, .null, .null, .null, .int 0, .int 0, .null, .null, .null, .null, .null, .null, .null, .null, .int 0, .int 0, .int 0, .null, .int 0, .int 0, .int 0, .int 0, .int 0, .int 0, .int 0, .int 0, .null]) rfl (MH_136 hM144) (by decide) (Nat.le_of_ble_eq_true rfl) rfl ?_
    refine hm_next (fs' := [.int 0, .ref 137, .ref 138, .int 0, .ref 139, .ref 140, .ref 141, .int 0, .int 0, .ref 142, .int 0, .ref 143, .ref 144, .null, .null, .null, .null, .null, .null, .null, .int 0, .int 0, .null, .null, .null, .null, .null, .null, .int 0, .null, .null, .null, .null, .null, .null, .int 0, .int 0, .null, .null, .null, .null, .null, .null, .null, .null, .int 0, .int 0, .int 0, .null, .int 0, .int 0, .int 0, .int 0, .int 0, .int 0, .int 0, .int 0, .null]) hM144 (by decide) rfl rfl rfl ?_
    intro f145 hM145
    refine hw_run 2 (pc' := 77) (loc' := [some (.ref 136)]) (stk' := [.int 8000, .ref 136]) (fun _ _ => rfl) ?_
    refine hw_newa rfl (by decide) (by decide) ?_
    refine hw_put (fs := [.int 0, .ref 137, .ref 138, .int 0, .ref 139, .ref 140, .ref 141, .int 0, .int 0, .ref 142, .int 0, .ref 143, .ref 144, .null, .null, .null, .null, .null, .null, .null, .int 0, .int 0, .null, .null, .null, .null, .null, .null, .int 0, .null, .null, .null, .null, .null, .null, .int 0, .int 0, .null, .null, .null, .null, .null, .null, .null, .null, .int 0, .int 0, .int 0, .null, .int 0, .int 0, .int 0, .int 0, .int 0, .int 0, .int 0, .int 0, .null]) rfl (MH_136 hM145) (by decide) (Nat.le_of_ble_eq_true rfl) rfl ?_
    refine hm_next (fs' := [.int 0, .ref 137, .ref 138, .int 0, .ref 139, .ref 140, .ref 141, .int 0, .int 0, .ref 142, .int 0, .ref 143, .ref 144, .ref 145, .null, .null, .null, .null, .null, .null, .int 0, .int 0, .null, .null, .null, .null, .null, .null, .int 0, .null, .null, .null, .null, .null, .null, .int 0, .int 0, .null, .null, .null, .null, .null, .null, .null, .null, .int 0, .int 0, .int 0, .null, .int 0, .int 0, .int 0, .int 0, .int 0, .int 0, .int 0, .int 0, .null]) hM145 (by decide) rfl rfl rfl ?_
    intro f146 hM146
    refine hw_run 2 (pc' := 86) (loc' := [some (.ref 136)]) (stk' := [.int 8000, .ref 136]) (fun _ _ => rfl) ?_
    refine hw_newa rfl (by decide) (by decide) ?_
    refine hw_put (fs := [.int 0, .ref 137, .ref 138, .int 0, .ref 139, .ref 140, .ref 141, .int 0, .int 0, .ref 142, .int 0, .ref 143, .ref 144, .ref 145, .null, .null, .null, .null, .null, .null, .int 0, .int 0, .null, .null, .null, .null, .null, .null, .int 0, .null, .null, .null, .null, .null, .null, .int 0, .int 0, .null, .null, .null, .null, .null, .null, .null, .null, .int 0, .int 0, .int 0, .null, .int 0, .int 0, .int 0, .int 0, .int 0, .int 0, .int 0, .int 0, .null]) rfl (MH_136 hM146) (by decide) (Nat.le_of_ble_eq_true rfl) rfl ?_
    refine hm_next (fs' := [.int 0, .ref 137, .ref 138, .int 0, .ref 139, .ref 140, .ref 141, .int 0, .int 0, .ref 142, .int 0, .ref 143, .ref 144, .ref 145, .ref 146, .null, .null, .null, .null, .null, .int 0, .int 0, .null, .null, .null, .null, .null, .null, .int 0, .null, .null, .null, .null, .null, .null, .int 0, .int 0, .null, .null, .null, .null, .null, .null, .null, .null, .int 0, .int 0, .int 0, .null, .int 0, .int 0, .int 0, .int 0, .int 0, .int 0, .int 0, .int 0, .null]) hM146 (by decide) rfl rfl rfl ?_
    intro f147 hM147
    refine hw_run 2 (pc' := 95) (loc' := [some (.ref 136)]) (stk' := [.int 8000, .ref 136]) (fun _ _ => rfl) ?_
    refine hw_newa rfl (by decide) (by decide) ?_
    refine hw_put (fs := [.int 0, .ref 137, .ref 138, .int 0, .ref 139, .ref 140, .ref 141, .int 0, .int 0, .ref 142, .int 0, .ref 143, .ref 144, .ref 145, .ref 146, .null, .null, .null, .null, .null, .int 0, .int 0, .null, .null, .null, .null, .null, .null, .int 0, .null, .null, .null, .null, .null, .null, .int 0, .int 0, .null, .null, .null, .null, .null, .null, .null, .null, .int 0, .int 0, .int 0, .null, .int 0, .int 0, .int 0, .int 0, .int 0, .int 0, .int 0, .int 0, .null]) rfl (MH_136 hM147) (by decide) (Nat.le_of_ble_eq_true rfl) rfl ?_
    refine hm_next (fs' := [.int 0, .ref 137, .ref 138, .int 0, .ref 139, .ref 140, .ref 141, .int 0, .int 0, .ref 142, .int 0, .ref 143, .ref 144, .ref 145, .ref 146, .ref 147, .null, .null, .null, .null, .int 0, .int 0, .null, .null, .null, .null, .null, .null, .int 0, .null, .null, .null, .null, .null, .null, .int 0, .int 0, .null, .null, .null, .null, .null, .null, .null, .null, .int 0, .int 0, .int 0, .null, .int 0, .int 0, .int 0, .int 0, .int 0, .int 0, .int 0, .int 0, .null]) hM147 (by decide) rfl rfl rfl ?_
    intro f148 hM148
    refine hw_run 2 (pc' := 104) (loc' := [some (.ref 136)]) (stk' := [.int 8000, .ref 136]) (fun _ _ => rfl) ?_
    refine hw_newa rfl (by decide) (by decide) ?_
    refine hw_put (fs := [.int 0, .ref 137, .ref 138, .int 0, .ref 139, .ref 140, .ref 141, .int 0, .int 0, .ref 142, .int 0, .ref 143, .ref 144, .ref 145, .ref 146, .ref 147, .null, .null, .null, .null, .int 0, .int 0, .null, .null, .null, .null, .null, .null, .int 0, .null, .null, .null, .null, .null, .null, .int 0, .int 0, .null, .null, .null, .null, .null, .null, .null, .null, .int 0, .int 0, .int 0, .null, .int 0, .int 0, .int 0, .int 0, .int 0, .int 0, .int 0, .int 0, .null]) rfl (MH_136 hM148) (by decide) (Nat.le_of_ble_eq_true rfl) rfl ?_
    refine hm_next (fs' := [.int 0, .ref 137, .ref 138, .int 0, .ref 139, .ref 140, .ref 141, .int 0, .int 0, .ref 142, .int 0, .ref 143, .ref 144, .ref 145, .ref 146, .ref 147, .ref 148, .null, .null, .null, .int 0, .int 0, .null, .null, .null, .null, .null, .null, .int 0, .null, .null, .null, .null, .null, .null, .int 0, .int 0, .null, .null, .null, .null, .null, .null, .null, .null, .int 0, .int 0, .int 0, .null, .int 0, .int 0, .int 0, .int 0, .int 0, .int 0, .int 0, .int 0, .null]) hM148 (by decide) rfl rfl rfl ?_
    intro f149 hM149
    refine hw_run 2 (pc' := 113) (loc' := [some (.ref 136)]) (stk' := [.int 8000, .ref 136]) (fun _ _ => rfl) ?_
    refine hw_newa rfl (by decide) (by decide) ?_
    refine hw_put (fs := [.int 0, .ref 137, .ref 138, .int 0, .ref 139, .ref 140, .ref 141, .int 0, .int 0, .ref 142, .int 0, .ref 143, .ref 144, .ref 145, .ref 146, .ref 147, .ref 148, .null, .null, .null, .int 0, .int 0, .null, .null, .null, .null, .null, .null, .int 0, .null, .null, .null, .null, .null, .null, .int 0, .int 0, .null, .null, .null, .null, .null, .null, .null, .null, .int 0, .int 0, .int 0, .null, .int 0, .int 0, .int 0, .int 0, .int 0, .int 0, .int 0, .int 0, .null]) rfl (MH_136 hM149) (by decide) (Nat.le_of_ble_eq_true rfl) rfl ?_
    refine hm_next (fs' := [.int 0, .ref 137, .ref 138, .int 0, .ref 139, .ref 140, .ref 141, .int 0, .int 0, .ref 142, .int 0, .ref 143, .ref 144, .ref 145, .ref 146, .ref 147, .ref 148, .ref 149, .null, .null, .int 0, .int 0, .null, .null, .null, .null, .null, .null, .int 0, .null, .null, .null, .null, .null, .null, .int 0, .int 0, .null, .null, .null, .null, .null, .null, .null, .null, .int 0, .int 0, .int 0, .null, .int 0, .int 0, .int 0, .int 0, .int 0, .int 0, .int 0, .int 0, .null]) hM149 (by decide) rfl rfl rfl ?_
    intro f150 hM150
    refine hw_run 2 (pc' := 122) (loc' := [some (.ref 136)]) (stk' := [.int 8000, .ref 136]) (fun _ _ => rfl) ?_
    refine hw_newa rfl (by decide) (by decide) ?_
    refine hw_put (fs := [.int 0, .ref 137, .ref 138, .int 0, .ref 139, .ref 140, .ref 141, .int 0, .int 0, .ref 142, .int 0, .ref 143, .ref 144, .ref 145, .ref 146, .ref 147, .ref 148, .ref 149, .null, .null, .int 0, .int 0, .null, .null, .null, .null, .null, .null, .int 0, .null, .null, .null, .null, .null, .null, .int 0, .int 0, .null, .null, .null, .null, .null, .null, .null, .null, .int 0, .int 0, .int 0, .null, .int 0, .int 0, .int 0, .int 0, .int 0, .int 0, .int 0, .int 0, .null]) rfl (MH_136 hM150) (by decide) (Nat.le_of_ble_eq_true rfl) rfl ?_
    refine hm_next (fs' := [.int 0, .ref 137, .ref 138, .int 0, .ref 139, .ref 140, .ref 141, .int 0, .int 0, .ref 142, .int 0, .ref 143, .ref 144, .ref 145, .ref 146, .ref 147, .ref 148, .ref 149, .ref 150, .null, .int 0, .int 0, .null, .null, .null, .null, .null, .null, .int 0, .null, .null, .null, .null, .null, .null, .int 0, .int 0, .null, .null, .null, .null, .null, .null, .null, .null, .int 0, .int 0, .int 0, .null, .int 0, .int 0, .int 0, .int 0, .int 0, .int 0, .int 0, .int 0, .null]) hM150 (by decide) rfl rfl rfl ?_
    intro f151 hM151
    refine hw_run 2 (pc' := 131) (loc' := [some (.ref 136)]) (stk' := [.int 8000, .ref 136]) (fun _ _ => rfl) ?_
    refine hw_newa rfl (by decide) (by decide) ?_
    refine hw_put (fs := [.int 0, .ref 137, .ref 138, .int 0, .ref 139, .ref 140, .ref 141, .int 0, .int 0, .ref 142, .int 0, .ref 143, .ref 144, .ref 145, .ref 146, .ref 147, .ref 148, .ref 149, .ref 150, .null, .int 0, .int 0, .null, .null, .null, .null, .null, .null, .int 0, .null, .null, .null, .null, .null, .null, .int 0, .int 0, .null, .null, .null, .null, .null, .null, .null, .null, .int 0, .int 0, .int 0, .null, .int 0, .int 0, .int 0, .int 0, .int 0, .int 0, .int 0, .int 0, .null]) rfl (MH_136 hM151) (by decide) (Nat.le_of_ble_eq_true rfl) rfl ?_
    refine hm_next (fs' := [.int 0, .ref 137, .ref 138, .int 0, .ref 139, .ref 140, .ref 141, .int 0, .int 0, .ref 142, .int 0, .ref 143, .ref 144, .ref 145, .ref 146, .ref 147, .ref 148, .ref 149, .ref 150, .ref 151, .int 0, .int 0, .null, .null, .null, .null, .null, .null, .int 0, .null, .null, .null, .null, .null, .null, .int 0, .int 0, .null, .null, .null, .null, .null, .null, .null, .null, .int 0, .int 0, .int 0, .null, .int 0, .int 0, .int 0, .int 0, .int 0, .int 0, .int 0, .int 0, .null]) hM151 (by decide) rfl rfl rfl ?_
    intro f152 hM152
    refine hw_run 2 (pc' := 140) (loc' := [some (.ref 136)]) (stk' := [.int 1500, .ref 136]) (fun _ _ => rfl) ?_
    refine hw_newa rfl (by decide) (by decide) ?_
    refine hw_put (fs := [.int 0, .ref 137, .ref 138, .int 0, .ref 139, .ref 140, .ref 141, .int 0, .int 0, .ref 142, .int 0, .ref 143, .ref 144, .ref 145, .ref 146, .ref 147, .ref 148, .ref 149, .ref 150, .ref 151, .int 0, .int 0, .null, .null, .null, .null, .null, .null, .int 0, .null, .null, .null, .null, .null, .null, .int 0, .int 0, .null, .null, .null, .null, .null, .null, .null, .null, .int 0, .int 0, .int 0, .null, .int 0, .int 0, .int 0, .int 0, .int 0, .int 0, .int 0, .int 0, .null]) rfl (MH_136 hM152) (by decide) (Nat.le_of_ble_eq_true rfl) rfl ?_
    refine hm_next (fs' := [.int 0, .ref 137, .ref 138, .int 0, .ref 139, .ref 140, .ref 141, .int 0, .int 0, .ref 142, .int 0, .ref 143, .ref 144, .ref 145, .ref 146, .ref 147, .ref 148, .ref 149, .ref 150, .ref 151, .int 0, .int 0, .ref 152, .null, .null, .null, .null, .null, .int 0, .null, .null, .null, .null, .null, .null, .int 0, .int 0, .null, .null, .null, .null, .null, .null, .null, .null, .int 0, .int 0, .int 0, .null, .int 0, .int 0, .int 0, .int 0, .int 0, .int 0, .int 0, .int 0, .null]) hM152 (by decide) rfl rfl rfl ?_
    intro f153 hM153
    refine hw_run 2 (pc' := 149) (loc' := [some (.ref 136)]) (stk' := [.int 1500, .ref 136]) (fun _ _ => rfl) ?_
    refine hw_newa rfl (by decide) (by decide) ?_
    refine hw_put (fs := [.int 0, .ref 137, .ref 138, .int 0, .ref 139, .ref 140, .ref 141, .int 0, .int 0, .ref 142, .int 0, .ref 143, .ref 144, .ref 145, .ref 146, .ref 147, .ref 148, .ref 149, .ref 150, .ref 151, .int 0, .int 0, .ref 152, .null, .null, .null, .null, .null, .int 0, .null, .null, .null, .null, .null, .null, .int 0, .int 0, .null, .null, .null, .null, .null, .null, .null, .null, .int 0, .int 0, .int 0, .null, .int 0, .int 0, .int 0, .int 0, .int 0, .int 0, .int 0, .int 0, .null]) rfl (MH_136 hM153) (by decide) (Nat.le_of_ble_eq_true rfl) rfl ?_
    refine hm_next (fs' := [.int 0, .ref 137, .ref 138, .int 0, .ref 139, .ref 140, .ref 141, .int 0, .int 0, .ref 142, .int 0, .ref 143, .ref 144, .ref 145, .ref 146, .ref 147, .ref 148, .ref 149, .ref 150, .ref 151, .int 0, .int 0, .ref 152, .ref 153, .null, .null, .null, .null, .int 0, .null, .null, .null, .null, .null, .null, .int 0, .int 0, .null, .null, .null, .null, .null, .null, .null, .null, .int 0, .int 0, .int 0, .null, .int 0, .int 0, .int 0, .int 0, .int 0, .int 0, .int 0, .int 0, .null]) hM153 (by decide) rfl rfl rfl ?_
    intro f154 hM154
    refine hw_run 2 (pc' := 158) (loc' := [some (.ref 136)]) (stk' := [.int 1500, .ref 136]) (fun _ _ => rfl) ?_
    refine hw_newa rfl (by decide) (by decide) ?_
    refine hw_put (fs := [.int 0, .ref 137, .ref 138, .int 0, .ref 139, .ref 140, .ref 141, .int 0, .int 0, .ref 142, .int 0, .ref 143, .ref 144, .ref 145, .ref 146, .ref 147, .ref 148, .ref 149, .ref 150, .ref 151, .int 0, .int 0, .ref 152, .ref 153, .null, .null, .null, .null, .int 0, .null, .null, .null, .null, .null, .null, .int 0, .int 0, .null, .null, .null, .null, .null, .null, .null, .null, .int 0, .int 0, .int 0, .null, .int 0, .int 0, .int 0, .int 0, .int 0, .int 0, .int 0, .int 0, .null]) rfl (MH_136 hM154) (by decide) (Nat.le_of_ble_eq_true rfl) rfl ?_
    refine hm_next (fs' := [.int 0, .ref 137, .ref 138, .int 0, .ref 139, .ref 140, .ref 141, .int 0, .int 0, .ref 142, .int 0, .ref 143, .ref 144, .ref 145, .ref 146, .ref 147, .ref 148, .ref 149, .ref 150, .ref 151, .int 0, .int 0, .ref 152, .ref 153, .ref 154, .null, .null, .null, .int 0, .null, .null, .null, .null, .null, .null, .int 0, .int 0, .null, .null, .null, .null, .null, .null, .null, .null, .int 0, .int 0, .int 0, .null, .int 0, .int 0, .int 0, .int 0, .int 0, .int 0, .int 0, .int 0, .null]) hM154 (by decide) rfl rfl rfl ?_
    intro f155 hM155
    refine hw_run 2 (pc' := 167) (loc' := [some (.ref 136)]) (stk' := [.int 1500, .ref 136]) (fun _ _ => rfl) ?_
    refine hw_newb rfl (by decide) (by decide) ?_
    refine hw_put (fs := [.int 0, .ref 137, .ref 138, .int 0, .ref 139, .ref 140, .ref 141, .int 0, .int 0, .ref 142, .int 0, .ref 143, .ref 144, .ref 145, .ref 146, .ref 147, .ref 148, .ref 149, .ref 150, .ref 151, .int 0, .int 0, .ref 152, .ref 153, .ref 154, .null, .null, .null, .int 0, .null, .null, .null, .null, .null, .null, .int 0, .int 0, .null, .null, .null, .null, .null, .null, .null, .null, .int 0, .int 0, .int 0, .null, .int 0, .int 0, .int 0, .int 0, .int 0, .int 0, .int 0, .int 0, .null]) rfl (MH_136 hM155) (by decide) (Nat.le_of_ble_eq_true rfl) rfl ?_
    refine hm_next (fs' := [.int 0, .ref 137, .ref 138, .int 0, .ref 139, .ref 140, .ref 141, .int 0, .int 0, .ref 142, .int 0, .ref 143, .ref 144, .ref 145, .ref 146, .ref 147, .ref 148, .ref 149, .ref 150, .ref 151, .int 0, .int 0, .ref 152, .ref 153, .ref 154, .ref 155, .null, .null, .int 0, .null, .null, .null, .null, .null, .null, .int 0, .int 0, .null, .null, .null, .null, .null, .null, .null, .null, .int 0, .int 0, .int 0, .null, .int 0, .int 0, .int 0, .int 0, .int 0, .int 0, .int 0, .int 0, .null]) hM155 (by decide) rfl rfl rfl ?_
    intro f156 hM156
    refine hw_run 2 (pc' := 176) (loc' := [some (.ref 136)]) (stk' := [.int 1500, .ref 136]) (fun _ _ => rfl) ?_
    refine hw_newb rfl (by decide) (by decide) ?_
    refine hw_put (fs := [.int 0, .ref 137, .ref 138, .int 0, .ref 139, .ref 140, .ref 141, .int 0, .int 0, .ref 142, .int 0, .ref 143, .ref 144, .ref 145, .ref 146, .ref 147, .ref 148, .ref 149, .ref 150, .ref 151, .int 0, .int 0, .ref 152, .ref 153, .ref 154, .ref 155, .null, .null, .int 0, .null, .null, .null, .null, .null, .null, .int 0, .int 0, .null, .null, .null, .null, .null, .null, .null, .null, .int 0, .int 0, .int 0, .null, .int 0, .int 0, .int 0, .int 0, .int 0, .int 0, .int 0, .int 0, .null]) rfl (MH_136 hM156) (by decide) (Nat.le_of_ble_eq_true rfl) rfl ?_
    refine hm_next (fs' := [.int 0, .ref 137, .ref 138, .int 0, .ref 139, .ref 140, .ref 141, .int 0, .int 0, .ref 142, .int 0, .ref 143, .ref 144, .ref 145, .ref 146, .ref 147, .ref 148, .ref 149, .ref 150, .ref 151, .int 0, .int 0, .ref 152, .ref 153, .ref 154, .ref 155, .ref 156, .null, .int 0, .null, .null, .null, .null, .null, .null, .int 0, .int 0, .null, .null, .null, .null, .null, .null, .null, .null, .int 0, .int 0, .int 0, .null, .int 0, .int 0, .int 0, .int 0, .int 0, .int 0, .int 0, .int 0, .null]) hM156 (by decide) rfl rfl rfl ?_
    intro f157 hM157
    refine hw_run 2 (pc' := 185) (loc' := [some (.ref 136)]) (stk' := [.int 1500, .ref 136]) (fun _ _ => rfl) ?_
    refine hw_newb rfl (by decide) (by decide) ?_
    refine hw_put (fs := [.int 0, .ref 137, .ref 138, .int 0, .ref 139, .ref 140, .ref 141, .int 0, .int 0, .ref 142, .int 0, .ref 143, .ref 144, .ref 145, .ref 146, .ref 147, .ref 148, .ref 149, .ref 150, .ref 151, .int 0, .int 0, .ref 152, .ref 153, .ref 154, .ref 155, .ref 156, .null, .int 0, .null, .null, .null, .null, .null, .null, .int 0, .int 0, .null, .null, .null, .null, .null, .null, .null, .null, .int 0, .int 0, .int 0, .null, .int 0, .int 0, .int 0, .int 0, .int 0, .int 0, .int 0, .int 0, .null]) rfl (MH_136 hM157) (by decide) (Nat.le_of_ble_eq_true rfl) rfl ?_
    refine hm_next (fs' := [.int 0, .ref 137, .ref 138, .int 0, .ref 139, .ref 140, .ref 141, .int 0, .int 0, .ref 142, .int 0, .ref 143, .ref 144, .ref 145, .ref 146, .ref 147, .ref 148, .ref 149, .ref 150, .ref 151, .int 0, .int 0, .ref 152, .ref 153, .ref 154, .ref 155, .ref 156, .ref 157, .int 0, .null, .null, .null, .null, .null, .null, .int 0, .int 0, .null, .null, .null, .null, .null, .null, .null, .null, .int 0, .int 0, .int 0, .null, .int 0, .int 0, .int 0, .int 0, .int 0, .int 0, .int 0, .int 0, .null]) hM157 (by decide) rfl rfl rfl ?_
    intro f158 hM158
    refine hw_run 2 (pc' := 194) (loc' := [some (.ref 136)]) (stk' := [.int 1500, .ref 136]) (fun _ _ => rfl) ?_
    refine hw_newa rfl (by decide) (by decide) ?_
    refine hw_put (fs := [.int 0, .ref 137, .ref 138, .int 0, .ref 139, .ref 140, .ref 141, .int 0, .int 0, .ref 142, .int 0, .ref 143, .ref 144, .ref 145, .ref 146, .ref 147, .ref 148, .ref 149, .ref 150, .ref 151, .int 0, .int 0, .ref 152, .ref 153, .ref 154, .ref 155, .ref 156, .ref 157, .int 0, .null, .null, .null, .null, .null, .null, .int 0, .int 0, .null, .null, .null, .null, .null, .null, .null, .null, .int 0, .int 0, .int 0, .null, .int 0, .int 0, .int 0, .int 0, .int 0, .int 0, .int 0, .int 0, .null]) rfl (MH_136 hM158) (by decide) (Nat.le_of_ble_eq_true rfl) rfl ?_
    refine hm_next (fs' := [.int 0, .ref 137, .ref 138, .int 0, .ref 139, .ref 140, .ref 141, .int 0, .int 0, .ref 142, .int 0, .ref 143, .ref 144, .ref 145, .ref 146, .ref 147, .ref 148, .ref 149, .ref 150, .ref 151, .int 0, .int 0, .ref 152, .ref 153, .ref 154, .ref 155, .ref 156, .ref 157, .int 0, .ref 158, .null, .null, .null, .null, .null, .int 0, .int 0, .null, .null, .null, .null, .null, .null, .null, .null, .int 0, .int 0, .int 0, .null, .int 0, .int 0, .int 0, .int 0, .int 0, .int 0, .int 0, .int 0, .null]) hM158 (by decide) rfl rfl rfl ?_
    intro f159 hM159
    refine hw_run 2 (pc' := 203) (loc' := [some (.ref 136)]) (stk' := [.int 1500, .ref 136]) (fun _ _ => rfl) ?_
    refine hw_newa rfl (by decide) (by decide) ?_
    refine hw_put (fs := [.int 0, .ref 137, .ref 138, .int 0, .ref 139, .ref 140, .ref 141, .int 0, .int 0, .ref 142, .int 0, .ref 143, .ref 144, .ref 145, .ref 146, .ref 147, .ref 148, .ref 149, .ref 150, .ref 151, .int 0, .int 0, .ref 152, .ref 153, .ref 154, .ref 155, .ref 156, .ref 157, .int 0, .ref 158, .null, .null, .null, .null, .null, .int 0, .int 0, .null, .null, .null, .null, .null, .null, .null, .null, .int 0, .int 0, .int 0, .null, .int 0, .int 0, .int 0, .int 0, .int 0, .int 0, .int 0, .int 0, .null]) rfl (MH_136 hM159) (by decide) (Nat.le_of_ble_eq_true rfl) rfl ?_
    refine hm_next (fs' := [.int 0, .ref 137, .ref 138, .int 0, .ref 139, .ref 140, .ref 141, .int 0, .int 0, .ref 142, .int 0, .ref 143, .ref 144, .ref 145, .ref 146, .ref 147, .ref 148, .ref 149, .ref 150, .ref 151, .int 0, .int 0, .ref 152, .ref 153, .ref 154, .ref 155, .ref 156, .ref 157, .int 0, .ref 158, .ref 159, .null, .null, .null, .null, .int 0, .int 0, .null, .null, .null, .null, .null, .null, .null, .null, .int 0, .int 0, .int 0, .null, .int 0, .int 0, .int 0, .int 0, .int 0, .int 0, .int 0, .int 0, .null]) hM159 (by decide) rfl rfl rfl ?_
    intro f160 hM160
    refine hw_run 2 (pc' := 212) (loc' := [some (.ref 136)]) (stk' := [.int 1500, .ref 136]) (fun _ _ => rfl) ?_
    refine hw_newa rfl (by decide) (by decide) ?_
    refine hw_put (fs := [.int 0, .ref 137, .ref 138, .int 0, .ref 139, .ref 140, .ref 141, .int 0, .int 0, .ref 142, .int 0, .ref 143, .ref 144, .ref 145, .ref 146, .ref 147, .ref 148, .ref 149, .ref 150, .ref 151, .int 0, .int 0, .ref 152, .ref 153, .ref 154, .ref 155, .ref 156, .ref 157, .int 0, .ref 158, .ref 159, .null, .null, .null, .null, .int 0, .int 0, .null, .null, .null, .null, .null, .null, .null, .null, .int 0, .int 0, .int 0, .null, .int 0, .int 0, .int 0, .int 0, .int 0, .int 0, .int 0, .int 0, .null]) rfl (MH_136 hM160) (by decide) (Nat.le_of_ble_eq_true rfl) rfl ?_
    refine hm_next (fs' := [.int 0, .ref 137, .ref 138, .int 0, .ref 139, .ref 140, .ref 141, .int 0, .int 0, .ref 142, .int 0, .ref 143, .ref 144, .ref 145, .ref 146, .ref 147, .ref 148, .ref 149, .ref 150, .ref 151, .int 0, .int 0, .ref 152, .ref 153, .ref 154, .ref 155, .ref 156, .ref 157, .int 0, .ref 158, .ref 159, .ref 160, .null, .null, .null, .int 0, .int 0, .null, .null, .null, .null, .null, .null, .null, .null, .int 0, .int 0, .int 0, .null, .int 0, .int 0, .int 0, .int 0, .int 0, .int 0, .int 0, .int 0, .null]) hM160 (by decide) rfl rfl rfl ?_
    intro f161 hM161
    refine hw_run 2 (pc' := 221) (loc' := [some (.ref 136)]) (stk' := [.int 1500, .ref 136]) (fun _ _ => rfl) ?_
    refine hw_newa rfl (by decide) (by decide) ?_
    refine hw_put (fs := [.int 0, .ref 137, .ref 138, .int 0, .ref 139, .ref 140, .ref 141, .int 0, .int 0, .ref 142, .int 0, .ref 143, .ref 144, .ref 145, .ref 146, .ref 147, .ref 148, .ref 149, .ref 150, .ref 151, .int 0, .int 0, .ref 152, .ref 153, .ref 154, .ref 155, .ref 156, .ref 157, .int 0, .ref 158, .ref 159, .ref 160, .null, .null, .null, .int 0, .int 0, .null, .null, .null, .null, .null, .null, .null, .null, .int 0, .int 0, .int 0, .null, .int 0, .int 0, .int 0, .int 0, .int 0, .int 0, .int 0, .int 0, .null]) rfl (MH_136 hM161) (by decide) (Nat.le_of_ble_eq_true rfl) rfl ?_
    refine hm_next (fs' := [.int 0, .ref 137, .ref 138, .int 0, .ref 139, .ref 140, .ref 141, .int 0, .int 0, .ref 142, .int 0, .ref 143, .ref 144, .ref 145, .ref 146, .ref 147, .ref 148, .ref 149, .ref 150, .ref 151, .int 0, .int 0, .ref 152, .ref 153, .ref 154, .ref 155, .ref 156, .ref 157, .int 0, .ref 158, .ref 159, .ref 160, .ref 161, .null, .null, .int 0, .int 0, .null, .null, .null, .null, .null, .null, .null, .null, .int 0, .int 0, .int 0, .null, .int 0, .int 0, .int 0, .int 0, .int 0, .int 0, .int 0, .int 0, .null]) hM161 (by decide) rfl rfl rfl ?_
    intro f162 hM162
    refine hw_run 2 (pc' := 230) (loc' := [some (.ref 136)]) (stk' := [.int 1500, .ref 136]) (fun _ _ => rfl) ?_
    refine hw_newb rfl (by decide) (by decide) ?_
    refine hw_put (fs := [.int 0, .ref 137, .ref 138, .int 0, .ref 139, .ref 140, .ref 141, .int 0, .int 0, .ref 142, .int 0, .ref 143, .ref 144, .ref 145, .ref 146, .ref 147, .ref 148, .ref 149, .ref 150, .ref 151, .int 0, .int 0, .ref 152, .ref 153, .ref 154, .ref 155, .ref 156, .ref 157, .int 0, .ref 158, .ref 159, .ref 160, .ref 161, .null, .null, .int 0, .int 0, .null, .null, .null, .null, .null, .null, .null, .null, .int 0, .int 0, .int 0, .null, .int 0, .int 0, .int 0, .int 0, .int 0, .int 0, .int 0, .int 0, .null]) rfl (MH_136 hM162) (by decide) (Nat.le_of_ble_eq_true rfl) rfl ?_
    refine hm_next (fs' := [.int 0, .ref 137, .ref 138, .int 0, .ref 139, .ref 140, .ref 141, .int 0, .int 0, .ref 142, .int 0, .ref 143, .ref 144, .ref 145, .ref 146, .ref 147, .ref 148, .ref 149, .ref 150, .ref 151, .int 0, .int 0, .ref 152, .ref 153, .ref 154, .ref 155, .ref 156, .ref 157, .int 0, .ref 158, .ref 159, .ref 160, .ref 161, .ref 162, .null, .int 0, .int 0, .null, .null, .null, .null, .null, .null, .null, .null, .int 0, .int 0, .int 0, .null, .int 0, .int 0, .int 0, .int 0, .int 0, .int 0, .int 0, .int 0, .null]) hM162 (by decide) rfl rfl rfl ?_
    intro f163 hM163
    refine hw_run 2 (pc' := 239) (loc' := [some (.ref 136)]) (stk' := [.int 1500, .ref 136]) (fun _ _ => rfl) ?_
    refine hw_newb rfl (by decide) (by decide) ?_
    refine hw_put (fs := [.int 0, .ref 137, .ref 138, .int 0, .ref 139, .ref 140, .ref 141, .int 0, .int 0, .ref 142, .int 0, .ref 143, .ref 144, .ref 145, .ref 146, .ref 147, .ref 148, .ref 149, .ref 150, .ref 151, .int 0, .int 0, .ref 152, .ref 153, .ref 154, .ref 155, .ref 156, .ref 157, .int 0, .ref 158, .ref 159, .ref 160, .ref 161, .ref 162, .null, .int 0, .int 0, .null, .null, .null, .null, .null, .null, .null, .null, .int 0, .int 0, .int 0, .null, .int 0, .int 0, .int 0, .int 0, .int 0, .int 0, .int 0, .int 0, .null]) rfl (MH_136 hM163) (by decide) (Nat.le_of_ble_eq_true rfl) rfl ?_
    refine hm_next (fs' := [.int 0, .ref 137, .ref 138, .int 0, .ref 139, .ref 140, .ref 141, .int 0, .int 0, .ref 142, .int 0, .ref 143, .ref 144, .ref 145, .ref 146, .ref 147, .ref 148, .ref 149, .ref 150, .ref 151, .int 0, .int 0, .ref 152, .ref 153, .ref 154, .ref 155, .ref 156, .ref 157, .int 0, .ref 158, .ref 159, .ref 160, .ref 161, .ref 162, .ref 163, .int 0, .int 0, .null, .null, .null, .null, .null, .null, .null, .null, .int 0, .int 0, .int 0, .null, .int 0, .int 0, .int 0, .int 0, .int 0, .int 0, .int 0, .int 0, .null]) hM163 (by decide) rfl rfl rfl ?_
    intro f164 hM164
    refine hw_run 2 (pc' := 248) (loc' := [some (.ref 136)]) (stk' := [.int 4000, .ref 136]) (fun _ _ => rfl) ?_
    refine hw_newa rfl (by decide) (by decide) ?_
    refine hw_put (fs := [.int 0, .ref 137, .ref 138, .int 0, .ref 139, .ref 140, .ref 141, .int 0, .int 0, .ref 142, .int 0, .ref 143, .ref 144, .ref 145, .ref 146, .ref 147, .ref 148, .ref 149, .ref 150, .ref 151, .int 0, .int 0, .ref 152, .ref 153, .ref 154, .ref 155, .ref 156, .ref 157, .int 0, .ref 158, .ref 159, .ref 160, .ref 161, .ref 162, .ref 163, .int 0, .int 0, .null, .null, .null, .null, .null, .null, .null, .null, .int 0, .int 0, .int 0, .null, .int 0, .int 0, .int 0, .int 0, .int 0, .int 0, .int 0, .int 0, .null]) rfl (MH_136 hM164) (by decide) (Nat.le_of_ble_eq_true rfl) rfl ?_
    refine hm_next (fs' := [.int 0, .ref 137, .ref 138, .int 0, .ref 139, .ref 140, .ref 141, .int 0, .int 0, .ref 142, .int 0, .ref 143, .ref 144, .ref 145, .ref 146, .ref 147, .ref 148, .ref 149, .ref 150, .ref 151, .int 0, .int 0, .ref 152, .ref 153, .ref 154, .ref 155, .ref 156, .ref 157, .int 0, .ref 158, .ref 159, .ref 160, .ref 161, .ref 162, .ref 163, .int 0, .int 0, .ref 164, .null, .null, .null, .null, .null, .null, .null, .int 0, .int 0, .int 0, .null, .int 0, .int 0, .int 0, .int 0, .int 0, .int 0, .int 0, .int 0, .null]) hM164 (by decide) rfl rfl rfl ?_
    intro f165 hM165
    refine hw_run 2 (pc' := 257) (loc' := [some (.ref 136)]) (stk' := [.int 4000, .ref 136]) (fun _ _ => rfl) ?_
    refine hw_newa rfl (by decide) (by decide) ?_
    refine hw_put (fs := [.int 0, .ref 137, .ref 138, .int 0, .ref 139, .ref 140, .ref 141, .int 0, .int 0, .ref 142, .int 0, .ref 143, .ref 144, .ref 145, .ref 146, .ref 147, .ref 148, .ref 149, .ref 150, .ref 151, .int 0, .int 0, .ref 152, .ref 153, .ref 154, .ref 155, .ref 156, .ref 157, .int 0, .ref 158, .ref 159, .ref 160, .ref 161, .ref 162, .ref 163, .int 0, .int 0, .ref 164, .null, .null, .null, .null, .null, .null, .null, .int 0, .int 0, .int 0, .null, .int 0, .int 0, .int 0, .int 0, .int 0, .int 0, .int 0, .int 0, .null]) rfl (MH_136 hM165) (by decide) (Nat.le_of_ble_eq_true rfl) rfl ?_
    refine hm_next (fs' := [.int 0, .ref 137, .ref 138, .int 0, .ref 139, .ref 140, .ref 141, .int 0, .int 0, .ref 142, .int 0, .ref 143, .ref 144, .ref 145, .ref 146, .ref 147, .ref 148, .ref 149, .ref 150, .ref 151, .int 0, .int 0, .ref 152, .ref 153, .ref 154, .ref 155, .ref 156, .ref 157, .int 0, .ref 158, .ref 159, .ref 160, .ref 161, .ref 162, .ref 163, .int 0, .int 0, .ref 164, .ref 165, .null, .null, .null, .null, .null, .null, .int 0, .int 0, .int 0, .null, .int 0, .int 0, .int 0, .int 0, .int 0, .int 0, .int 0, .int 0, .null]) hM165 (by decide) rfl rfl rfl ?_
    intro f166 hM166
    refine hw_run 2 (pc' := 266) (loc' := [some (.ref 136)]) (stk' := [.int 4000, .ref 136]) (fun _ _ => rfl) ?_
    refine hw_newa rfl (by decide) (by decide) ?_
    refine hw_put (fs := [.int 0, .ref 137, .ref 138, .int 0, .ref 139, .ref 140, .ref 141, .int 0, .int 0, .ref 142, .int 0, .ref 143, .ref 144, .ref 145, .ref 146, .ref 147, .ref 148, .ref 149, .ref 150, .ref 151, .int 0, .int 0, .ref 152, .ref 153, .ref 154, .ref 155, .ref 156, .ref 157, .int 0, .ref 158, .ref 159, .ref 160, .ref 161, .ref 162, .ref 163, .int 0, .int 0, .ref 164, .ref 165, .null, .null, .null, .null, .null, .null, .int 0, .int 0, .int 0, .null, .int 0, .int 0, .int 0, .int 0, .int 0, .int 0, .int 0, .int 0, .null]) rfl (MH_136 hM166) (by decide) (Nat.le_of_ble_eq_true rfl) rfl ?_
    refine hm_next (fs' := [.int 0, .ref 137, .ref 138, .int 0, .ref 139, .ref 140, .ref 141, .int 0, .int 0, .ref 142, .int 0, .ref 143, .ref 144, .ref 145, .ref 146, .ref 147, .ref 148, .ref 149, .ref 150, .ref 151, .int 0, .int 0, .ref 152, .ref 153, .ref 154, .ref 155, .ref 156, .ref 157, .int 0, .ref 158, .ref 159, .ref 160, .ref 161, .ref 162, .ref 163, .int 0, .int 0, .ref 164, .ref 165, .ref 166, .null, .null, .null, .null, .null, .int 0, .int 0, .int 0, .null, .int 0, .int 0, .int 0, .int 0, .int 0, .int 0, .int 0, .int 0, .null]) hM166 (by decide) rfl rfl rfl ?_
    intro f167 hM167
    refine hw_run 2 (pc' := 275) (loc' := [some (.ref 136)]) (stk' := [.int 4000, .ref 136]) (fun _ _ => rfl) ?_
    refine hw_newa rfl (by decide) (by decide) ?_
    refine hw_put (fs := [.int 0, .ref 137, .ref 138, .int 0, .ref 139, .ref 140, .ref 141, .int 0, .int 0, .ref 142, .int 0, .ref 143, .ref 144, .ref 145, .ref 146, .ref 147, .ref 148, .ref 149, .ref 150, .ref 151, .int 0, .int 0, .ref 152, .ref 153, .ref 154, .ref 155, .ref 156, .ref 157, .int 0, .ref 158, .ref 159, .ref 160, .ref 161, .ref 162, .ref 163, .int 0, .int 0, .ref 164, .ref 165, .ref 166, .null, .null, .null, .null, .null, .int 0, .int 0, .int 0, .null, .int 0, .int 0, .int 0, .int 0, .int 0, .int 0, .int 0, .int 0, .null]) rfl (MH_136 hM167) (by decide) (Nat.le_of_ble_eq_true rfl) rfl ?_
    refine hm_next (fs' := [.int 0, .ref 137, .ref 138, .int 0, .ref 139, .ref 140, .ref 141, .int 0, .int 0, .ref 142, .int 0, .ref 143, .ref 144, .ref 145, .ref 146, .ref 147, .ref 148, .ref 149, .ref 150, .ref 151, .int 0, .int 0, .ref 152, .ref 153, .ref 154, .ref 155, .ref 156, .ref 157, .int 0, .ref 158, .ref 159, .ref 160, .ref 161, .ref 162, .ref 163, .int 0, .int 0, .ref 164, .ref 165, .ref 166, .ref 167, .null, .null, .null, .null, .int 0, .int 0, .int 0, .null, .int 0, .int 0, .int 0, .int 0, .int 0, .int 0, .int 0, .int 0, .null]) hM167 (by decide) rfl rfl rfl ?_
    intro f168 hM168
    refine hw_run 2 (pc' := 284) (loc' := [some (.ref 136)]) (stk' := [.int 4000, .ref 136]) (fun _ _ => rfl) ?_
    refine hw_newa rfl (by decide) (by decide) ?_
    refine hw_put (fs := [.int 0, .ref 137, .ref 138, .int 0, .ref 139, .ref 140, .ref 141, .int 0, .int 0, .ref 142, .int 0, .ref 143, .ref 144, .ref 145, .ref 146, .ref 147, .ref 148, .ref 149, .ref 150, .ref 151, .int 0, .int 0, .ref 152, .ref 153, .ref 154, .ref 155, .ref 156, .ref 157, .int 0, .ref 158, .ref 159, .ref 160, .ref 161, .ref 162, .ref 163, .int 0, .int 0, .ref 164, .ref 165, .ref 166, .ref 167, .null, .null, .null, .null, .int 0, .int 0, .int 0, .null, .int 0, .int 0, .int 0, .int 0, .int 0, .int 0, .int 0, .int 0, .null]) rfl (MH_136 hM168) (by decide) (Nat.le_of_ble_eq_true rfl) rfl ?_
    refine hm_next (fs' := [.int 0, .ref 137, .ref 138, .int 0, .ref 139, .ref 140, .ref 141, .int 0, .int 0, .ref 142, .int 0, .ref 143, .ref 144, .ref 145, .ref 146, .ref 147, .ref 148, .ref 149, .ref 150, .ref 151, .int 0, .int 0, .ref 152, .ref 153, .ref 154, .ref 155, .ref 156, .ref 157, .int 0, .ref 158, .ref 159, .ref 160, .ref 161, .ref 162, .ref 163, .int 0, .int 0, .ref 164, .ref 165, .ref 166, .ref 167, .ref 168, .null, .null, .null, .int 0, .int 0, .int 0, .null, .int 0, .int 0, .int 0, .int 0, .int 0, .int 0, .int 0, .int 0, .null]) hM168 (by decide) rfl rfl rfl ?_
    intro f169 hM169
    refine hw_run 2 (pc' := 293) (loc' := [some (.ref 136)]) (stk' := [.int 4000, .ref 136]) (fun _ _ => rfl) ?_
    refine hw_newa rfl (by decide) (by decide) ?_
    refine hw_put (fs := [.int 0, .ref 137, .ref 138, .int 0, .ref 139, .ref 140, .ref 141, .int 0, .int 0, .ref 142, .int 0, .ref 143, .ref 144, .ref 145, .ref 146, .ref 147, .ref 148, .ref 149, .ref 150, .ref 151, .int 0, .int 0, .ref 152, .ref 153, .ref 154, .ref 155, .ref 156, .ref 157, .int 0, .ref 158, .ref 159, .ref 160, .ref 161, .ref 162, .ref 163, .int 0, .int 0, .ref 164, .ref 165, .ref 166, .ref 167, .ref 168, .null, .null, .null, .int 0, .int 0, .int 0, .null, .int 0, .int 0, .int 0, .int 0, .int 0, .int 0, .int 0, .int 0, .null]) rfl (MH_136 hM169) (by decide) (Nat.le_of_ble_eq_true rfl) rfl ?_
    refine hm_next (fs' := [.int 0, .ref 137, .ref 138, .int 0, .ref 139, .ref 140, .ref 141, .int 0, .int 0, .ref 142, .int 0, .ref 143, .ref 144, .ref 145, .ref 146, .ref 147, .ref 148, .ref 149, .ref 150, .ref 151, .int 0, .int 0, .ref 152, .ref 153, .ref 154, .ref 155, .ref 156, .ref 157, .int 0, .ref 158, .ref 159, .ref 160, .ref 161, .ref 162, .ref 163, .int 0, .int 0, .ref 164, .ref 165, .ref 166, .ref 167, .ref 168, .ref 169, .null, .null, .int 0, .int 0, .int 0, .null, .int 0, .int 0, .int 0, .int 0, .int 0, .int 0, .int 0, .int 0, .null]) hM169 (by decide) rfl rfl rfl ?_
    intro f170 hM170
    refine hw_run 2 (pc' := 302) (loc' := [some (.ref 136)]) (stk' := [.int 4000, .ref 136]) (fun _ _ => rfl) ?_
    refine hw_newa rfl (by decide) (by decide) ?_
    refine hw_put (fs := [.int 0, .ref 137, .ref 138, .int 0, .ref 139, .ref 140, .ref 141, .int 0, .int 0, .ref 142, .int 0, .ref 143, .ref 144, .ref 145, .ref 146, .ref 147, .ref 148, .ref 149, .ref 150, .ref 151, .int 0, .int 0, .ref 152, .ref 153, .ref 154, .ref 155, .ref 156, .ref 157, .int 0, .ref 158, .ref 159, .ref 160, .ref 161, .ref 162, .ref 163, .int 0, .int 0, .ref 164, .ref 165, .ref 166, .ref 167, .ref 168, .ref 169, .null, .null, .int 0, .int 0, .int 0, .null, .int 0, .int 0, .int 0, .int 0, .int 0, .int 0, .int 0, .int 0, .null]) rfl (MH_136 hM170) (by decide) (Nat.le_of_ble_eq_true rfl) rfl ?_
    refine hm_next (fs' := [.int 0, .ref 137, .ref 138, .int 0, .ref 139, .ref 140, .ref 141, .int 0, .int 0, .ref 142, .int 0, .ref 143, .ref 144, .ref 145, .ref 146, .ref 147, .ref 148, .ref 149, .ref 150, .ref 151, .int 0, .int 0, .ref 152, .ref 153, .ref 154, .ref 155, .ref 156, .ref 157, .int 0, .ref 158, .ref 159, .ref 160, .ref 161, .ref 162, .ref 163, .int 0, .int 0, .ref 164, .ref 165, .ref 166, .ref 167, .ref 168, .ref 169, .ref 170, .null, .int 0, .int 0, .int 0, .null, .int 0, .int 0, .int 0, .int 0, .int 0, .int 0, .int 0, .int 0, .null]) hM170 (by decide) rfl rfl rfl ?_
    intro f171 hM171
    refine hw_run 2 (pc' := 311) (loc' := [some (.ref 136)]) (stk' := [.int 4000, .ref 136]) (fun _ _ => rfl) ?_
    refine hw_newa rfl (by decide) (by decide) ?_
    refine hw_put (fs := [.int 0, .ref 137, .ref 138, .int 0, .ref 139, .ref 140, .ref 141, .int 0, .int 0, .ref 142, .int 0, .ref 143, .ref 144, .ref 145, .ref 146, .ref 147, .ref 148, .ref 149, .ref 150, .ref 151, .int 0, .int 0, .ref 152, .ref 153, .ref 154, .ref 155, .ref 156, .ref 157, .int 0, .ref 158, .ref 159, .ref 160, .ref 161, .ref 162, .ref 163, .int 0, .int 0, .ref 164, .ref 165, .ref 166, .ref 167, .ref 168, .ref 169, .ref 170, .null, .int 0, .int 0, .int 0, .null, .int 0, .int 0, .int 0, .int 0, .int 0, .int 0, .int 0, .int 0, .null]) rfl (MH_136 hM171) (by decide) (Nat.le_of_ble_eq_true rfl) rfl ?_
    refine hm_next (fs' := [.int 0, .ref 137, .ref 138, .int 0, .ref 139, .ref 140, .ref 141, .int 0, .int 0, .ref 142, .int 0, .ref 143, .ref 144, .ref 145, .ref 146, .ref 147, .ref 148, .ref 149, .ref 150, .ref 151, .int 0, .int 0, .ref 152, .ref 153, .ref 154, .ref 155, .ref 156, .ref 157, .int 0, .ref 158, .ref 159, .ref 160, .ref 161, .ref 162, .ref 163, .int 0, .int 0, .ref 164, .ref 165, .ref 166, .ref 167, .ref 168, .ref 169, .ref 170, .ref 171, .int 0, .int 0, .int 0, .null, .int 0, .int 0, .int 0, .int 0, .int 0, .int 0, .int 0, .int 0, .null]) hM171 (by decide) rfl rfl rfl ?_
    intro f172 hM172
    refine hw_run 2 (pc' := 318) (loc' := [some (.ref 136)]) (stk' := [.int (-1), .ref 136]) (fun _ _ => rfl) ?_
    refine hw_put (fs := [.int 0, .ref 137, .ref 138, .int 0, .ref 139, .ref 140, .ref 141, .int 0, .int 0, .ref 142, .int 0, .ref 143, .ref 144, .ref 145, .ref 146, .ref 147, .ref 148, .ref 149, .ref 150, .ref 151, .int 0, .int 0, .ref 152, .ref 153, .ref 154, .ref 155, .ref 156, .ref 157, .int 0, .ref 158, .ref 159, .ref 160, .ref 161, .ref 162, .ref 163, .int 0, .int 0, .ref 164, .ref 165, .ref 166, .ref 167, .ref 168, .ref 169, .ref 170, .ref 171, .int 0, .int 0, .int 0, .null, .int 0, .int 0, .int 0, .int 0, .int 0, .int 0, .int 0, .int 0, .null]) rfl hM172.1 (by decide) (Nat.le_of_ble_eq_true rfl) rfl ?_
    refine hm_same (fs' := [.int 0, .ref 137, .ref 138, .int 0, .ref 139, .ref 140, .ref 141, .int 0, .int 0, .ref 142, .int 0, .ref 143, .ref 144, .ref 145, .ref 146, .ref 147, .ref 148, .ref 149, .ref 150, .ref 151, .int 0, .int 0, .ref 152, .ref 153, .ref 154, .ref 155, .ref 156, .ref 157, .int 0, .ref 158, .ref 159, .ref 160, .ref 161, .ref 162, .ref 163, .int 0, .int 0, .ref 164, .ref 165, .ref 166, .ref 167, .ref 168, .ref 169, .ref 170, .ref 171, .int (-1), .int 0, .int 0, .null, .int 0, .int 0, .int 0, .int 0, .int 0, .int 0, .int 0, .int 0, .null]) hM172 rfl ?_
    clear hM172
    intro f172 hM172
    refine hw_run 2 (pc' := 323) (loc' := [some (.ref 136)]) (stk' := [.int (-1), .ref 136]) (fun _ _ => rfl) ?_
    refine hw_put (fs := [.int 0, .ref 137, .ref 138, .int 0, .ref 139, .ref 140, .ref 141, .int 0, .int 0, .ref 142, .int 0, .ref 143, .ref 144, .ref 145, .ref 146, .ref 147, .ref 148, .ref 149, .ref 150, .ref 151, .int 0, .int 0, .ref 152, .ref 153, .ref 154, .ref 155, .ref 156, .ref 157, .int 0, .ref 158, .ref 159, .ref 160, .ref 161, .ref 162, .ref 163, .int 0, .int 0, .ref 164, .ref 165, .ref 166, .ref 167, .ref 168, .ref 169, .ref 170, .ref 171, .int (-1), .int 0, .int 0, .null, .int 0, .int 0, .int 0, .int 0, .int 0, .int 0, .int 0, .int 0, .null]) rfl hM172.1 (by decide) (Nat.le_of_ble_eq_true rfl) rfl ?_
    refine hm_same (fs' := [.int 0, .ref 137, .ref 138, .int 0, .ref 139, .ref 140, .ref 141, .int 0, .int 0, .ref 142, .int 0, .ref 143, .ref 144, .ref 145, .ref 146, .ref 147, .ref 148, .ref 149, .ref 150, .ref 151, .int 0, .int 0, .ref 152, .ref 153, .ref 154, .ref 155, .ref 156, .ref 157, .int 0, .ref 158, .ref 159, .ref 160, .ref 161, .ref 162, .ref 163, .int 0, .int 0, .ref 164, .ref 165, .ref 166, .ref 167, .ref 168, .ref 169, .ref 170, .ref 171, .int (-1), .int 0, .int (-1), .null, .int 0, .int 0, .int 0, .int 0, .int 0, .int 0, .int 0, .int 0, .null]) hM172 rfl ?_
    clear hM172
    intro f172 hM172
    refine hw_run 2 (pc' := 330) (loc' := [some (.ref 136)]) (stk' := [.int 30000, .ref 136]) (fun _ _ => rfl) ?_
    refine hw_newa rfl (by decide) (by decide) ?_
    refine hw_put (fs := [.int 0, .ref 137, .ref 138, .int 0, .ref 139, .ref 140, .ref 141, .int 0, .int 0, .ref 142, .int 0, .ref 143, .ref 144, .ref 145, .ref 146, .ref 147, .ref 148, .ref 149, .ref 150, .ref 151, .int 0, .int 0, .ref 152, .ref 153, .ref 154, .ref 155, .ref 156, .ref 157, .int 0, .ref 158, .ref 159, .ref 160, .ref 161, .ref 162, .ref 163, .int 0, .int 0, .ref 164, .ref 165, .ref 166, .ref 167, .ref 168, .ref 169, .ref 170, .ref 171, .int (-1), .int 0, .int (-1), .null, .int 0, .int 0, .int 0, .int 0, .int 0, .int 0, .int 0, .int 0, .null]) rfl (MH_136 hM172) (by decide) (Nat.le_of_ble_eq_true rfl) rfl ?_
    refine hm_next (fs' := [.int 0, .ref 137, .ref 138, .int 0, .ref 139, .ref 140, .ref 141, .int 0, .int 0, .ref 142, .int 0, .ref 143, .ref 144, .ref 145, .ref 146, .ref 147, .ref 148, .ref 149, .ref 150, .ref 151, .int 0, .int 0, .ref 152, .ref 153, .ref 154, .ref 155, .ref 156, .ref 157, .int 0, .ref 158, .ref 159, .ref 160, .ref 161, .ref 162, .ref 163, .int 0, .int 0, .ref 164, .ref 165, .ref 166, .ref 167, .ref 168, .ref 169, .ref 170, .ref 171, .int (-1), .int 0, .int (-1), .ref 172, .int 0, .int 0, .int 0, .int 0, .int 0, .int 0, .int 0, .int 0, .null]) hM172 (by decide) rfl rfl rfl ?_
    intro f173 hM173
    refine hw_run 2 (pc' := 338) (loc' := [some (.ref 136)]) (stk' := [.int 97, .ref 136]) (fun _ _ => rfl) ?_
    refine hw_newa rfl (by decide) (by decide) ?_
    refine hn_start (f := f173) ?_ 
    intro g0 hg0
    refine hw_run 3 (pc' := 344) (loc' := [some (.ref 136)]) (stk' := [.int 38, .int 0, .ref 173, .ref 173, .ref 136]) (fun _ _ => rfl) ?_
    refine hn_ast (p := 0) rfl hg0 (by decide) (by decide) (by decide) ?_
    intro g1 hg1
    refine hw_run 3 (pc' := 349) (loc' := [some (.ref 136)]) (stk' := [.int 97, .int 1, .ref 173, .ref 173, .ref 136]) (fun _ _ => rfl) ?_
    refine hn_ast (p := 1) rfl hg1 (by decide) (by decide) (by decide) ?_
    intro g2 hg2
    refine hw_run 3 (pc' := 354) (loc' := [some (.ref 136)]) (stk' := [.int 109, .int 2, .ref 173, .ref 173, .ref 136]) (fun _ _ => rfl) ?_
    refine hn_ast (p := 2) rfl hg2 (by decide) (by decide) (by decide) ?_
    intro g3 hg3
    refine hw_run 3 (pc' := 359) (loc' := [some (.ref 136)]) (stk' := [.int 112, .int 3, .ref 173, .ref 173, .ref 136]) (fun _ _ => rfl) ?_
    refine hn_ast (p := 3) rfl hg3 (by decide) (by decide) (by decide) ?_
    intro g4 hg4
    refine hw_run 3 (pc' := 363) (loc' := [some (.ref 136)]) (stk' := [.int 0, .int 4, .ref 173, .ref 173, .ref 136]) (fun _ _ => rfl) ?_
    refine hn_ast (p := 4) rfl hg4 (by decide) (by decide) (by decide) ?_
    intro g5 hg5
    refine hw_run 3 (pc' := 368) (loc' := [some (.ref 136)]) (stk' := [.int 60, .int 5, .ref 173, .ref 173, .ref 136]) (fun _ _ => rfl) ?_
    refine hn_ast (p := 5) rfl hg5 (by decide) (by decide) (by decide) ?_
    intro g6 hg6
    refine hw_run 3 (pc' := 374) (loc' := [some (.ref 136)]) (stk' := [.int 108, .int 6, .ref 173, .ref 173, .ref 136]) (fun _ _ => rfl) ?_
    refine hn_ast (p := 6) rfl hg6 (by decide) (by decide) (by decide) ?_
    intro g7 hg7
    refine hw_run 3 (pc' := 380) (loc' := [some (.ref 136)]) (stk' := [.int 116, .int 7, .ref 173, .ref 173, .ref 136]) (fun _ _ => rfl) ?_
    refine hn_ast (p := 7) rfl hg7 (by decide) (by decide) (by decide) ?_
    intro g8 hg8
    refine hw_run 3 (pc' := 385) (loc' := [some (.ref 136)]) (stk' := [.int 0, .int 8, .ref 173, .ref 173, .ref 136]) (fun _ _ => rfl) ?_
    refine hn_ast (p := 8) rfl hg8 (by decide) (by decide) (by decide) ?_
    intro g9 hg9
    refine hw_run 3 (pc' := 391) (loc' := [some (.ref 136)]) (stk' := [.int 62, .int 9, .ref 173, .ref 173, .ref 136]) (fun _ _ => rfl) ?_
    refine hn_ast (p := 9) rfl hg9 (by decide) (by decide) (by decide) ?_
    intro g10 hg10
    refine hw_run 3 (pc' := 397) (loc' := [some (.ref 136)]) (stk' := [.int 103, .int 10, .ref 173, .ref 173, .ref 136]) (fun _ _ => rfl) ?_
    refine hn_ast (p := 10) rfl hg10 (by decide) (by decide) (by decide) ?_
    intro g11 hg11
    refine hw_run 3 (pc' := 403) (loc' := [some (.ref 136)]) (stk' := [.int 116, .int 11, .ref 173, .ref 173, .ref 136]) (fun _ _ => rfl) ?_
    refine hn_ast (p := 11) rfl hg11 (by decide) (by decide) (by decide) ?_
    intro g12 hg12
    refine hw_run 3 (pc' := 408) (loc' := [some (.ref 136)]) (stk' := [.int 0, .int 12, .ref 173, .ref 173, .ref 136]) (fun _ _ => rfl) ?_
    refine hn_ast (p := 12) rfl hg12 (by decide) (by decide) (by decide) ?_
    intro g13 hg13
    refine hw_run 3 (pc' := 414) (loc' := [some (.ref 136)]) (stk' := [.int 34, .int 13, .ref 173, .ref 173, .ref 136]) (fun _ _ => rfl) ?_
    refine hn_ast (p := 13) rfl hg13 (by decide) (by decide) (by decide) ?_
    intro g14 hg14
    refine hw_run 3 (pc' := 420) (loc' := [some (.ref 136)]) (stk' := [.int 113, .int 14, .ref 173, .ref 173, .ref 136]) (fun _ _ => rfl) ?_
    refine hn_ast (p := 14) rfl hg14 (by decide) (by decide) (by decide) ?_
    intro g15 hg15
    refine hw_run 3 (pc' := 426) (loc' := [some (.ref 136)]) (stk' := [.int 117, .int 15, .ref 173, .ref 173, .ref 136]) (fun _ _ => rfl) ?_
    refine hn_ast (p := 15) rfl hg15 (by decide) (by decide) (by decide) ?_
    intro g16 hg16
    refine hw_run 3 (pc' := 432) (loc' := [some (.ref 136)]) (stk' := [.int 111, .int 16, .ref 173, .ref 173, .ref 136]) (fun _ _ => rfl) ?_
    refine hn_ast (p := 16) rfl hg16 (by decide) (by decide) (by decide) ?_
    intro g17 hg17
    refine hw_run 3 (pc' := 438) (loc' := [some (.ref 136)]) (stk' := [.int 116, .int 17, .ref 173, .ref 173, .ref 136]) (fun _ _ => rfl) ?_
    refine hn_ast (p := 17) rfl hg17 (by decide) (by decide) (by decide) ?_
    intro g18 hg18
    refine hw_run 3 (pc' := 443) (loc' := [some (.ref 136)]) (stk' := [.int 0, .int 18, .ref 173, .ref 173, .ref 136]) (fun _ _ => rfl) ?_
    refine hn_ast (p := 18) rfl hg18 (by decide) (by decide) (by decide) ?_
    intro g19 hg19
    refine hw_run 3 (pc' := 449) (loc' := [some (.ref 136)]) (stk' := [.int 39, .int 19, .ref 173, .ref 173, .ref 136]) (fun _ _ => rfl) ?_
    refine hn_ast (p := 19) rfl hg19 (by decide) (by decide) (by decide) ?_
    intro g20 hg20
    refine hw_run 3 (pc' := 455) (loc' := [some (.ref 136)]) (stk' := [.int 97, .int 20, .ref 173, .ref 173, .ref 136]) (fun _ _ => rfl) ?_
    refine hn_ast (p := 20) rfl hg20 (by decide) (by decide) (by decide) ?_
    intro g21 hg21
    refine hw_run 3 (pc' := 461) (loc' := [some (.ref 136)]) (stk' := [.int 112, .int 21, .ref 173, .ref 173, .ref 136]) (fun _ _ => rfl) ?_
    refine hn_ast (p := 21) rfl hg21 (by decide) (by decide) (by decide) ?_
    intro g22 hg22
    refine hw_run 3 (pc' := 467) (loc' := [some (.ref 136)]) (stk' := [.int 111, .int 22, .ref 173, .ref 173, .ref 136]) (fun _ _ => rfl) ?_
    refine hn_ast (p := 22) rfl hg22 (by decide) (by decide) (by decide) ?_
    intro g23 hg23
    refine hw_run 3 (pc' := 473) (loc' := [some (.ref 136)]) (stk' := [.int 115, .int 23, .ref 173, .ref 173, .ref 136]) (fun _ _ => rfl) ?_
    refine hn_ast (p := 23) rfl hg23 (by decide) (by decide) (by decide) ?_
    intro g24 hg24
    refine hw_run 3 (pc' := 478) (loc' := [some (.ref 136)]) (stk' := [.int 0, .int 24, .ref 173, .ref 173, .ref 136]) (fun _ _ => rfl) ?_
    refine hn_ast (p := 24) rfl hg24 (by decide) (by decide) (by decide) ?_
    intro g25 hg25
    refine hw_run 3 (pc' := 485) (loc' := [some (.ref 136)]) (stk' := [.int 160, .int 25, .ref 173, .ref 173, .ref 136]) (fun _ _ => rfl) ?_
    refine hn_ast (p := 25) rfl hg25 (by decide) (by decide) (by decide) ?_
    intro g26 hg26
    refine hw_run 3 (pc' := 491) (loc' := [some (.ref 136)]) (stk' := [.int 110, .int 26, .ref 173, .ref 173, .ref 136]) (fun _ _ => rfl) ?_
    refine hn_ast (p := 26) rfl hg26 (by decide) (by decide) (by decide) ?_
    intro g27 hg27
    refine hw_run 3 (pc' := 497) (loc' := [some (.ref 136)]) (stk' := [.int 98, .int 27, .ref 173, .ref 173, .ref 136]) (fun _ _ => rfl) ?_
    refine hn_ast (p := 27) rfl hg27 (by decide) (by decide) (by decide) ?_
    intro g28 hg28
    refine hw_run 3 (pc' := 503) (loc' := [some (.ref 136)]) (stk' := [.int 115, .int 28, .ref 173, .ref 173, .ref 136]) (fun _ _ => rfl) ?_
    refine hn_ast (p := 28) rfl hg28 (by decide) (by decide) (by decide) ?_
    intro g29 hg29
    refine hw_run 3 (pc' := 509) (loc' := [some (.ref 136)]) (stk' := [.int 112, .int 29, .ref 173, .ref 173, .ref 136]) (fun _ _ => rfl) ?_
    refine hn_ast (p := 29) rfl hg29 (by decide) (by decide) (by decide) ?_
    intro g30 hg30
    refine hw_run 3 (pc' := 514) (loc' := [some (.ref 136)]) (stk' := [.int 0, .int 30, .ref 173, .ref 173, .ref 136]) (fun _ _ => rfl) ?_
    refine hn_ast (p := 30) rfl hg30 (by decide) (by decide) (by decide) ?_
    intro g31 hg31
    refine hw_run 3 (pc' := 521) (loc' := [some (.ref 136)]) (stk' := [.int 169, .int 31, .ref 173, .ref 173, .ref 136]) (fun _ _ => rfl) ?_
    refine hn_ast (p := 31) rfl hg31 (by decide) (by decide) (by decide) ?_
    intro g32 hg32
    refine hw_run 3 (pc' := 527) (loc' := [some (.ref 136)]) (stk' := [.int 99, .int 32, .ref 173, .ref 173, .ref 136]) (fun _ _ => rfl) ?_
    refine hn_ast (p := 32) rfl hg32 (by decide) (by decide) (by decide) ?_
    intro g33 hg33
    refine hw_run 3 (pc' := 533) (loc' := [some (.ref 136)]) (stk' := [.int 111, .int 33, .ref 173, .ref 173, .ref 136]) (fun _ _ => rfl) ?_
    refine hn_ast (p := 33) rfl hg33 (by decide) (by decide) (by decide) ?_
    intro g34 hg34
    refine hw_run 3 (pc' := 539) (loc' := [some (.ref 136)]) (stk' := [.int 112, .int 34, .ref 173, .ref 173, .ref 136]) (fun _ _ => rfl) ?_
    refine hn_ast (p := 34) rfl hg34 (by decide) (by decide) (by decide) ?_
    intro g35 hg35
    refine hw_run 3 (pc' := 545) (loc' := [some (.ref 136)]) (stk' := [.int 121, .int 35, .ref 173, .ref 173, .ref 136]) (fun _ _ => rfl) ?_
    refine hn_ast (p := 35) rfl hg35 (by decide) (by decide) (by decide) ?_
    intro g36 hg36
    refine hw_run 3 (pc' := 550) (loc' := [some (.ref 136)]) (stk' := [.int 0, .int 36, .ref 173, .ref 173, .ref 136]) (fun _ _ => rfl) ?_
    refine hn_ast (p := 36) rfl hg36 (by decide) (by decide) (by decide) ?_
    intro g37 hg37
    refine hw_run 3 (pc' := 557) (loc' := [some (.ref 136)]) (stk' := [.int 174, .int 37, .ref 173, .ref 173, .ref 136]) (fun _ _ => rfl) ?_
    refine hn_ast (p := 37) rfl hg37 (by decide) (by decide) (by decide) ?_
    intro g38 hg38
    refine hw_run 3 (pc' := 563) (loc' := [some (.ref 136)]) (stk' := [.int 114, .int 38, .ref 173, .ref 173, .ref 136]) (fun _ _ => rfl) ?_
    refine hn_ast (p := 38) rfl hg38 (by decide) (by decide) (by decide) ?_
    intro g39 hg39
    refine hw_run 3 (pc' := 569) (loc' := [some (.ref 136)]) (stk' := [.int 101, .int 39, .ref 173, .ref 173, .ref 136]) (fun _ _ => rfl) ?_
    refine hn_ast (p := 39) rfl hg39 (by decide) (by decide) (by decide) ?_
    intro g40 hg40
    refine hw_run 3 (pc' := 575) (loc' := [some (.ref 136)]) (stk' := [.int 103, .int 40, .ref 173, .ref 173, .ref 136]) (fun _ _ => rfl) ?_
    refine hn_ast (p := 40) rfl hg40 (by decide) (by decide) (by decide) ?_
    intro g41 hg41
    refine hw_run 3 (pc' := 580) (loc' := [some (.ref 136)]) (stk' := [.int 0, .int 41, .ref 173, .ref 173, .ref 136]) (fun _ _ => rfl) ?_
    refine hn_ast (p := 41) rfl hg41 (by decide) (by decide) (by decide) ?_
    intro g42 hg42
    refine hw_run 3 (pc' := 587) (loc' := [some (.ref 136)]) (stk' := [.int 228, .int 42, .ref 173, .ref 173, .ref 136]) (fun _ _ => rfl) ?_
    refine hn_ast (p := 42) rfl hg42 (by decide) (by decide) (by decide) ?_
    intro g43 hg43
    refine hw_run 3 (pc' := 593) (loc' := [some (.ref 136)]) (stk' := [.int 97, .int 43, .ref 173, .ref 173, .ref 136]) (fun _ _ => rfl) ?_
    refine hn_ast (p := 43) rfl hg43 (by decide) (by decide) (by decide) ?_
    intro g44 hg44
    refine hw_run 3 (pc' := 599) (loc' := [some (.ref 136)]) (stk' := [.int 117, .int 44, .ref 173, .ref 173, .ref 136]) (fun _ _ => rfl) ?_
    refine hn_ast (p := 44) rfl hg44 (by decide) (by decide) (by decide) ?_
    intro g45 hg45
    refine hw_run 3 (pc' := 605) (loc' := [some (.ref 136)]) (stk' := [.int 109, .int 45, .ref 173, .ref 173, .ref 136]) (fun _ _ => rfl) ?_
    refine hn_ast (p := 45) rfl hg45 (by decide) (by decide) (by decide) ?_
    intro g46 hg46
    refine hw_run 3 (pc' := 611) (loc' := [some (.ref 136)]) (stk' := [.int 108, .int 46, .ref 173, .ref 173, .ref 136]) (fun _ _ => rfl) ?_
    refine hn_ast (p := 46) rfl hg46 (by decide) (by decide) (by decide) ?_
    intro g47 hg47
    refine hw_run 3 (pc' := 616) (loc' := [some (.ref 136)]) (stk' := [.int 0, .int 47, .ref 173, .ref 173, .ref 136]) (fun _ _ => rfl) ?_
    refine hn_ast (p := 47) rfl hg47 (by decide) (by decide) (by decide) ?_
    intro g48 hg48
    refine hw_run 3 (pc' := 623) (loc' := [some (.ref 136)]) (stk' := [.int 246, .int 48, .ref 173, .ref 173, .ref 136]) (fun _ _ => rfl) ?_
    refine hn_ast (p := 48) rfl hg48 (by decide) (by decide) (by decide) ?_
    intro g49 hg49
    refine hw_run 3 (pc' := 629) (loc' := [some (.ref 136)]) (stk' := [.int 111, .int 49, .ref 173, .ref 173, .ref 136]) (fun _ _ => rfl) ?_
    refine hn_ast (p := 49) rfl hg49 (by decide) (by decide) (by decide) ?_
    intro g50 hg50
    refine hw_run 3 (pc' := 635) (loc' := [some (.ref 136)]) (stk' := [.int 117, .int 50, .ref 173, .ref 173, .ref 136]) (fun _ _ => rfl) ?_
    refine hn_ast (p := 50) rfl hg50 (by decide) (by decide) (by decide) ?_
    intro g51 hg51
    refine hw_run 3 (pc' := 641) (loc' := [some (.ref 136)]) (stk' := [.int 109, .int 51, .ref 173, .ref 173, .ref 136]) (fun _ _ => rfl) ?_
    refine hn_ast (p := 51) rfl hg51 (by decide) (by decide) (by decide) ?_
    intro g52 hg52
    refine hw_run 3 (pc' := 647) (loc' := [some (.ref 136)]) (stk' := [.int 108, .int 52, .ref 173, .ref 173, .ref 136]) (fun _ _ => rfl) ?_
    refine hn_ast (p := 52) rfl hg52 (by decide) (by decide) (by decide) ?_
    intro g53 hg53
    refine hw_run 3 (pc' := 652) (loc' := [some (.ref 136)]) (stk' := [.int 0, .int 53, .ref 173, .ref 173, .ref 136]) (fun _ _ => rfl) ?_
    refine hn_ast (p := 53) rfl hg53 (by decide) (by decide) (by decide) ?_
    intro g54 hg54
    refine hw_run 3 (pc' := 659) (loc' := [some (.ref 136)]) (stk' := [.int 252, .int 54, .ref 173, .ref 173, .ref 136]) (fun _ _ => rfl) ?_
    refine hn_ast (p := 54) rfl hg54 (by decide) (by decide) (by decide) ?_
    intro g55 hg55
    refine hw_run 3 (pc' := 665) (loc' := [some (.ref 136)]) (stk' := [.int 117, .int 55, .ref 173, .ref 173, .ref 136]) (fun _ _ => rfl) ?_
    refine hn_ast (p := 55) rfl hg55 (by decide) (by decide) (by decide) ?_
    intro g56 hg56
    refine hw_run 3 (pc' := 671) (loc' := [some (.ref 136)]) (stk' := [.int 117, .int 56, .ref 173, .ref 173, .ref 136]) (fun _ _ => rfl) ?_
    refine hn_ast (p := 56) rfl hg56 (by decide) (by decide) (by decide) ?_
    intro g57 hg57
    refine hw_run 3 (pc' := 677) (loc' := [some (.ref 136)]) (stk' := [.int 109, .int 57, .ref 173, .ref 173, .ref 136]) (fun _ _ => rfl) ?_
    refine hn_ast (p := 57) rfl hg57 (by decide) (by decide) (by decide) ?_
    intro g58 hg58
    refine hw_run 3 (pc' := 683) (loc' := [some (.ref 136)]) (stk' := [.int 108, .int 58, .ref 173, .ref 173, .ref 136]) (fun _ _ => rfl) ?_
    refine hn_ast (p := 58) rfl hg58 (by decide) (by decide) (by decide) ?_
    intro g59 hg59
    refine hw_run 3 (pc' := 688) (loc' := [some (.ref 136)]) (stk' := [.int 0, .int 59, .ref 173, .ref 173, .ref 136]) (fun _ _ => rfl) ?_
    refine hn_ast (p := 59) rfl hg59 (by decide) (by decide) (by decide) ?_
    intro g60 hg60
    refine hw_run 3 (pc' := 695) (loc' := [some (.ref 136)]) (stk' := [.int 223, .int 60, .ref 173, .ref 173, .ref 136]) (fun _ _ => rfl) ?_
    refine hn_ast (p := 60) rfl hg60 (by decide) (by decide) (by decide) ?_
    intro g61 hg61
    refine hw_run 3 (pc' := 701) (loc' := [some (.ref 136)]) (stk' := [.int 115, .int 61, .ref 173, .ref 173, .ref 136]) (fun _ _ => rfl) ?_
    refine hn_ast (p := 61) rfl hg61 (by decide) (by decide) (by decide) ?_
    intro g62 hg62
    refine hw_run 3 (pc' := 707) (loc' := [some (.ref 136)]) (stk' := [.int 122, .int 62, .ref 173, .ref 173, .ref 136]) (fun _ _ => rfl) ?_
    refine hn_ast (p := 62) rfl hg62 (by decide) (by decide) (by decide) ?_
    intro g63 hg63
    refine hw_run 3 (pc' := 713) (loc' := [some (.ref 136)]) (stk' := [.int 108, .int 63, .ref 173, .ref 173, .ref 136]) (fun _ _ => rfl) ?_
    refine hn_ast (p := 63) rfl hg63 (by decide) (by decide) (by decide) ?_
    intro g64 hg64
    refine hw_run 3 (pc' := 719) (loc' := [some (.ref 136)]) (stk' := [.int 105, .int 64, .ref 173, .ref 173, .ref 136]) (fun _ _ => rfl) ?_
    refine hn_ast (p := 64) rfl hg64 (by decide) (by decide) (by decide) ?_
    intro g65 hg65
    refine hw_run 3 (pc' := 725) (loc' := [some (.ref 136)]) (stk' := [.int 103, .int 65, .ref 173, .ref 173, .ref 136]) (fun _ _ => rfl) ?_
    refine hn_ast (p := 65) rfl hg65 (by decide) (by decide) (by decide) ?_
    intro g66 hg66
    refine hw_run 3 (pc' := 730) (loc' := [some (.ref 136)]) (stk' := [.int 0, .int 66, .ref 173, .ref 173, .ref 136]) (fun _ _ => rfl) ?_
    refine hn_ast (p := 66) rfl hg66 (by decide) (by decide) (by decide) ?_
    intro g67 hg67
    refine hw_run 3 (pc' := 737) (loc' := [some (.ref 136)]) (stk' := [.int 233, .int 67, .ref 173, .ref 173, .ref 136]) (fun _ _ => rfl) ?_
    refine hn_ast (p := 67) rfl hg67 (by decide) (by decide) (by decide) ?_
    intro g68 hg68
    refine hw_run 3 (pc' := 743) (loc' := [some (.ref 136)]) (stk' := [.int 101, .int 68, .ref 173, .ref 173, .ref 136]) (fun _ _ => rfl) ?_
    refine hn_ast (p := 68) rfl hg68 (by decide) (by decide) (by decide) ?_
    intro g69 hg69
    refine hw_run 3 (pc' := 749) (loc' := [some (.ref 136)]) (stk' := [.int 97, .int 69, .ref 173, .ref 173, .ref 136]) (fun _ _ => rfl) ?_
    refine hn_ast (p := 69) rfl hg69 (by decide) (by decide) (by decide) ?_
    intro g70 hg70
    refine hw_run 3 (pc' := 755) (loc' := [some (.ref 136)]) (stk' := [.int 99, .int 70, .ref 173, .ref 173, .ref 136]) (fun _ _ => rfl) ?_
    refine hn_ast (p := 70) rfl hg70 (by decide) (by decide) (by decide) ?_
    intro g71 hg71
    refine hw_run 3 (pc' := 761) (loc' := [some (.ref 136)]) (stk' := [.int 117, .int 71, .ref 173, .ref 173, .ref 136]) (fun _ _ => rfl) ?_
    refine hn_ast (p := 71) rfl hg71 (by decide) (by decide) (by decide) ?_
    intro g72 hg72
    refine hw_run 3 (pc' := 767) (loc' := [some (.ref 136)]) (stk' := [.int 116, .int 72, .ref 173, .ref 173, .ref 136]) (fun _ _ => rfl) ?_
    refine hn_ast (p := 72) rfl hg72 (by decide) (by decide) (by decide) ?_
    intro g73 hg73
    refine hw_run 3 (pc' := 773) (loc' := [some (.ref 136)]) (stk' := [.int 101, .int 73, .ref 173, .ref 173, .ref 136]) (fun _ _ => rfl) ?_
    refine hn_ast (p := 73) rfl hg73 (by decide) (by decide) (by decide) ?_
    intro g74 hg74
    refine hw_run 3 (pc' := 778) (loc' := [some (.ref 136)]) (stk' := [.int 0, .int 74, .ref 173, .ref 173, .ref 136]) (fun _ _ => rfl) ?_
    refine hn_ast (p := 74) rfl hg74 (by decide) (by decide) (by decide) ?_
    intro g75 hg75
    refine hw_run 3 (pc' := 785) (loc' := [some (.ref 136)]) (stk' := [.int 8364, .int 75, .ref 173, .ref 173, .ref 136]) (fun _ _ => rfl) ?_
    refine hn_ast (p := 75) rfl hg75 (by decide) (by decide) (by decide) ?_
    intro g76 hg76
    refine hw_run 3 (pc' := 791) (loc' := [some (.ref 136)]) (stk' := [.int 101, .int 76, .ref 173, .ref 173, .ref 136]) (fun _ _ => rfl) ?_
    refine hn_ast (p := 76) rfl hg76 (by decide) (by decide) (by decide) ?_
    intro g77 hg77
    refine hw_run 3 (pc' := 797) (loc' := [some (.ref 136)]) (stk' := [.int 117, .int 77, .ref 173, .ref 173, .ref 136]) (fun _ _ => rfl) ?_
    refine hn_ast (p := 77) rfl hg77 (by decide) (by decide) (by decide) ?_
    intro g78 hg78
    refine hw_run 3 (pc' := 803) (loc' := [some (.ref 136)]) (stk' := [.int 114, .int 78, .ref 173, .ref 173, .ref 136]) (fun _ _ => rfl) ?_
    refine hn_ast (p := 78) rfl hg78 (by decide) (by decide) (by decide) ?_
    intro g79 hg79
    refine hw_run 3 (pc' := 809) (loc' := [some (.ref 136)]) (stk' := [.int 111, .int 79, .ref 173, .ref 173, .ref 136]) (fun _ _ => rfl) ?_
    refine hn_ast (p := 79) rfl hg79 (by decide) (by decide) (by decide) ?_
    intro g80 hg80
    refine hw_run 3 (pc' := 814) (loc' := [some (.ref 136)]) (stk' := [.int 0, .int 80, .ref 173, .ref 173, .ref 136]) (fun _ _ => rfl) ?_
    refine hn_ast (p := 80) rfl hg80 (by decide) (by decide) (by decide) ?_
    intro g81 hg81
    refine hw_run 3 (pc' := 821) (loc' := [some (.ref 136)]) (stk' := [.int 8230, .int 81, .ref 173, .ref 173, .ref 136]) (fun _ _ => rfl) ?_
    refine hn_ast (p := 81) rfl hg81 (by decide) (by decide) (by decide) ?_
    intro g82 hg82
    refine hw_run 3 (pc' := 827) (loc' := [some (.ref 136)]) (stk' := [.int 104, .int 82, .ref 173, .ref 173, .ref 136]) (fun _ _ => rfl) ?_
    refine hn_ast (p := 82) rfl hg82 (by decide) (by decide) (by decide) ?_
    intro g83 hg83
    refine hw_run 3 (pc' := 833) (loc' := [some (.ref 136)]) (stk' := [.int 101, .int 83, .ref 173, .ref 173, .ref 136]) (fun _ _ => rfl) ?_
    refine hn_ast (p := 83) rfl hg83 (by decide) (by decide) (by decide) ?_
    intro g84 hg84
    refine hw_run 3 (pc' := 839) (loc' := [some (.ref 136)]) (stk' := [.int 108, .int 84, .ref 173, .ref 173, .ref 136]) (fun _ _ => rfl) ?_
    refine hn_ast (p := 84) rfl hg84 (by decide) (by decide) (by decide) ?_
    intro g85 hg85
    refine hw_run 3 (pc' := 845) (loc' := [some (.ref 136)]) (stk' := [.int 108, .int 85, .ref 173, .ref 173, .ref 136]) (fun _ _ => rfl) ?_
    refine hn_ast (p := 85) rfl hg85 (by decide) (by decide) (by decide) ?_
    intro g86 hg86
    refine hw_run 3 (pc' := 851) (loc' := [some (.ref 136)]) (stk' := [.int 105, .int 86, .ref 173, .ref 173, .ref 136]) (fun _ _ => rfl) ?_
    refine hn_ast (p := 86) rfl hg86 (by decide) (by decide) (by decide) ?_
    intro g87 hg87
    refine hw_run 3 (pc' := 857) (loc' := [some (.ref 136)]) (stk' := [.int 112, .int 87, .ref 173, .ref 173, .ref 136]) (fun _ _ => rfl) ?_
    refine hn_ast (p := 87) rfl hg87 (by decide) (by decide) (by decide) ?_
    intro g88 hg88
    refine hw_run 3 (pc' := 862) (loc' := [some (.ref 136)]) (stk' := [.int 0, .int 88, .ref 173, .ref 173, .ref 136]) (fun _ _ => rfl) ?_
    refine hn_ast (p := 88) rfl hg88 (by decide) (by decide) (by decide) ?_
    intro g89 hg89
    refine hw_run 3 (pc' := 869) (loc' := [some (.ref 136)]) (stk' := [.int 8212, .int 89, .ref 173, .ref 173, .ref 136]) (fun _ _ => rfl) ?_
    refine hn_ast (p := 89) rfl hg89 (by decide) (by decide) (by decide) ?_
    intro g90 hg90
    refine hw_run 3 (pc' := 875) (loc' := [some (.ref 136)]) (stk' := [.int 109, .int 90, .ref 173, .ref 173, .ref 136]) (fun _ _ => rfl) ?_
    refine hn_ast (p := 90) rfl hg90 (by decide) (by decide) (by decide) ?_
    intro g91 hg91
    refine hw_run 3 (pc' := 881) (loc' := [some (.ref 136)]) (stk' := [.int 100, .int 91, .ref 173, .ref 173, .ref 136]) (fun _ _ => rfl) ?_
    refine hn_ast (p := 91) rfl hg91 (by decide) (by decide) (by decide) ?_
    intro g92 hg92
    refine hw_run 3 (pc' := 887) (loc' := [some (.ref 136)]) (stk' := [.int 97, .int 92, .ref 173, .ref 173, .ref 136]) (fun _ _ => rfl) ?_
    refine hn_ast (p := 92) rfl hg92 (by decide) (by decide) (by decide) ?_
    intro g93 hg93
    refine hw_run 3 (pc' := 893) (loc' := [some (.ref 136)]) (stk' := [.int 115, .int 93, .ref 173, .ref 173, .ref 136]) (fun _ _ => rfl) ?_
    refine hn_ast (p := 93) rfl hg93 (by decide) (by decide) (by decide) ?_
    intro g94 hg94
    refine hw_run 3 (pc' := 899) (loc' := [some (.ref 136)]) (stk' := [.int 104, .int 94, .ref 173, .ref 173, .ref 136]) (fun _ _ => rfl) ?_
    refine hn_ast (p := 94) rfl hg94 (by decide) (by decide) (by decide) ?_
    intro g95 hg95
    refine hw_run 3 (pc' := 904) (loc' := [some (.ref 136)]) (stk' := [.int 0, .int 95, .ref 173, .ref 173, .ref 136]) (fun _ _ => rfl) ?_
    refine hn_ast (p := 95) rfl hg95 (by decide) (by decide) (by decide) ?_
    intro g96 hg96
    refine hw_run 3 (pc' := 909) (loc' := [some (.ref 136)]) (stk' := [.int (-1), .int 96, .ref 173, .ref 173, .ref 136]) (fun _ _ => rfl) ?_
    refine hn_ast (p := 96) rfl hg96 (by decide) (by decide) (by decide) ?_
    intro g97 hg97
    refine hw_put (fs := [.int 0, .ref 137, .ref 138, .int 0, .ref 139, .ref 140, .ref 141, .int 0, .int 0, .ref 142, .int 0, .ref 143, .ref 144, .ref 145, .ref 146, .ref 147, .ref 148, .ref 149, .ref 150, .ref 151, .int 0, .int 0, .ref 152, .ref 153, .ref 154, .ref 155, .ref 156, .ref 157, .int 0, .ref 158, .ref 159, .ref 160, .ref 161, .ref 162, .ref 163, .int 0, .int 0, .ref 164, .ref 165, .ref 166, .ref 167, .ref 168, .ref 169, .ref 170, .ref 171, .int (-1), .int 0, .int (-1), .ref 172, .int 0, .int 0, .int 0, .int 0, .int 0, .int 0, .int 0, .int 0, .null]) rfl (NH_136 hM173) (by decide) (Nat.le_of_ble_eq_true rfl) rfl ?_
    exact hw_retv rfl rfl ⟨rfl, rfl, rfl, _, g97, rfl, MR_end hM173 hg97⟩)
  subst q2 q3 q4 q5
  exact ⟨f', g, q1, q6⟩
