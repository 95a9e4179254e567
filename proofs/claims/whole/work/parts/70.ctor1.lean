/-! CONSTRUCTORS: rules; a row is made, the ready row is filled -/
section Ctor
variable {fm : Value} {d y pc : Nat} {loc : am_L} {stk rest : List Value} {h : am_H} {Q : Option Value → am_H → Nat → Nat → Prop}
theorem hw_newo {i n ci b : Nat} {u : Value} (ho : am_ops y pc = some (.new i, n, ci, b, u)) (kk : hw fm d y (pc + 3) loc (.ref h.2 :: stk) (am_new h (.inr (ci, am_fs ci))) (fun r h' c s => Q r h' (c + 1) (s + (am_fs ci).length))) : hw fm d y pc loc stk h Q :=
  hw_1 1 (am_fs ci).length (fun k z => Or.inl ⟨_, ho, rfl⟩) kk
theorem hw_newb {t : ArrayType} {n b : Nat} {u : Value} {m : Int32} (ho : am_ops y pc = some (.newarray t, n, 3, b, u)) (h1 : ¬ m < 0) (h2 : m.toNatClampNeg ≤ 134217728) (kk : hw fm d y (pc + 2) loc (.ref h.2 :: rest) (am_new h (.inl (3, m.toNatClampNeg, .inl (fun _ => 0)))) (fun r h' c s => Q r h' (c + 1) (s + m.toNatClampNeg))) : hw fm d y pc loc (.int m :: rest) h Q :=
  hw_1 1 m.toNatClampNeg (fun k z => Or.inl ⟨_, ho, by
    simp only [am_stp, am_newa]
    rw [if_neg (by rintro (q | q); exact h1 q; omega)]⟩) kk
end Ctor
theorem am_new_up {h : am_H} {a : Nat} {c c' : am_C} (hne : a ≠ h.2) : am_new (am_up h a c) c' = am_up (am_new h c') a c := by
  unfold am_new am_up
  refine Prod.ext ?_ rfl
  funext q
  by_cases h1 : q = h.2
  · subst h1; simp [Ne.symm hne]
  · by_cases h2 : q = a
    · simp [h2, hne]
    · simp [h1, h2]
/-- a row as its constructor leaves it -/
def rowN (h : am_H) (a : Nat) (m : Int32) : am_H := am_up (am_new h (.inl (0, 16, .inl (fun _ => 0)))) a (.inr (7, [.int m, .ref h.2, .int 0]))
theorem k_67 {fm : Value} {d : Nat} {h : am_H} {a : Nat} {m : Int32} (he : h.1 a = some (.inr (7, am_fs 7))) (hX : am_X ≤ a) (hlt : a < h.2) : am_R fm (d + 1) 67 [.ref a, .int m] h none (rowN h a m) 1 16 := by
  have hne : a ≠ h.2 := by omega
  obtain ⟨r, h', mc, ms, q1, q2, q3, q4, q5⟩ := hw_R (fm := fm) (d := d) (y := 67) (As := [.ref a, .int m]) (h := h) (nL := 2) (loc0 := [some (.ref a), some (.int m)]) (P := fun r h' mc ms => r = none ∧ h' = rowN h a m ∧ mc = 1 ∧ ms = 16) rfl rfl rfl (by
    refine hw_run 4 (pc' := 6) (loc' := [some (.ref a), some (.int m)]) (stk' := [.int m, .ref a]) (fun _ _ => rfl) ?_
    refine hw_put (fs := am_fs 7) rfl he hX (Nat.le_of_ble_eq_true rfl) rfl ?_
    refine hw_run 2 (pc' := 12) (loc' := [some (.ref a), some (.int m)]) (stk' := [.int 16, .ref a]) (fun _ _ => rfl) ?_
    refine hw_newa rfl (by decide) (by decide) ?_
    rw [am_new_up hne]
    refine hw_put (fs := (am_fs 7).set 0 (.int m)) rfl (by simp [am_up]) hX (Nat.le_of_ble_eq_true rfl) rfl ?_
    rw [am_up_up]
    refine hw_run 2 (pc' := 19) (loc' := [some (.ref a), some (.int m)]) (stk' := [.int 0, .ref a]) (fun _ _ => rfl) ?_
    refine hw_put (fs := ((am_fs 7).set 0 (.int m)).set 1 (.ref h.2)) rfl (by simp [am_up]) hX (Nat.le_of_ble_eq_true rfl) rfl ?_
    rw [am_up_up]
    exact hw_retv rfl rfl ⟨rfl, rfl, rfl, rfl⟩)
  subst q2 q3 q4 q5
  exact q1
/-- the ready row, filled -/
def fillN (h : am_H) : am_H := am_up (am_up (am_new h (.inl (0, 32, .inl (fun _ => 0)))) 58 (.inr (7, [.int 20, .ref 60, .int 20]))) 60 (.inl (0, 32, .inl (fun j => if j < 20 then 0 else 0)))
theorem k_73 {fm : Value} {d : Nat} {h : am_H} (e1 : h.1 58 = some (.inr (7, [.int 20, .ref 59, .int 0]))) (e2 : h.1 59 = some (.inl (0, 16, .inl (fun _ => 0)))) (e3 : h.2 = 60) (e4 : True) : am_R fm (d + 3) 73 [.ref 58, .int 20, .int 0] h none (fillN h) 1 32 := by
  obtain ⟨f, n⟩ := h
  dsimp only at e1 e2 e3
  subst e3
  obtain ⟨r, h', mc, ms, q1, q2, q3, q4, q5⟩ := hw_R (fm := fm) (d := d + 2) (y := 73) (As := [.ref 58, .int 20, .int 0]) (h := (f, 60)) (nL := 3) (loc0 := [some (.ref 58), some (.int 20), some (.int 0)]) (P := fun r h' mc ms => r = none ∧ h' = fillN (f, 60) ∧ mc = 1 ∧ ms = 32) rfl rfl rfl (by
    refine hw_run 4 (pc' := 4) (loc' := [some (.ref 58), some (.int 20), some (.int 0)]) (stk' := [.ref 58, .int 20, .int 0, .ref 58]) (fun _ _ => rfl) ?_
    refine hw_get (v := .int 20) rfl e1 rfl ?_
    refine hw_mm rfl (Or.inr rfl) rfl ?_
    refine hw_mm rfl (Or.inl rfl) rfl ?_
    show hw fm (d + 2) 73 13 [some (.ref 58), some (.int 20), some (.int 0)] [.int 20, .ref 58] (f, 60) _
    refine hw_put rfl e1 (by decide) (Nat.le_of_ble_eq_true rfl) rfl ?_
    show hw fm (d + 2) 73 16 [some (.ref 58), some (.int 20), some (.int 0)] [] (am_up (f, 60) 58 (.inr (7, [.int 20, .ref 59, .int 20]))) _
    refine hw_run 1 (pc' := 17) (loc' := [some (.ref 58), some (.int 20), some (.int 0)]) (stk' := [.ref 58]) (fun _ _ => rfl) ?_
    refine hw_get (v := .int 20) rfl rfl rfl ?_
    refine hw_run 1 (pc' := 21) (loc' := [some (.ref 58), some (.int 20), some (.int 0)]) (stk' := [.ref 58, .int 20]) (fun _ _ => rfl) ?_
    refine hw_get (v := .ref 59) rfl rfl rfl ?_
    refine hw_alen rfl (show (am_up (f, 60) 58 (.inr (7, [.int 20, .ref 59, .int 20]))).1 59 = _ from e2) (by decide) ?_
    refine hw_br (c := (20 : Int32) ≤ nI 16) (t1 := 48) (t2 := 28) (loc' := [some (.ref 58), some (.int 20), some (.int 0)]) (stk' := []) (fun _ _ => rfl) (fun c2 => absurd c2 (by decide)) (fun c2 => ?_)
    refine hw_run 2 (pc' := 30) (loc' := [some (.ref 58), some (.int 20), some (.int 0)]) (stk' := [.ref 58, .ref 58]) (fun _ _ => rfl) ?_
    refine hw_get (v := .int 20) rfl rfl rfl ?_
    refine hw_run 2 (pc' := 35) (loc' := [some (.ref 58), some (.int 20), some (.int 0)]) (stk' := [.ref 58, .int 2, .int 20, .ref 58]) (fun _ _ => rfl) ?_
    refine hw_get (v := .ref 59) rfl rfl rfl ?_
    refine hw_alen rfl (show (am_up (f, 60) 58 (.inr (7, [.int 20, .ref 59, .int 20]))).1 59 = _ from e2) (by decide) ?_
    refine hw_run 1 (pc' := 40) (loc' := [some (.ref 58), some (.int 20), some (.int 0)]) (stk' := [.int (2 * nI 16), .int 20, .ref 58]) (fun _ _ => rfl) ?_
    refine hw_mm rfl (Or.inl rfl) rfl ?_
    show hw fm (d + 2) 73 43 [some (.ref 58), some (.int 20), some (.int 0)] [.int 32, .ref 58] (am_up (f, 60) 58 (.inr (7, [.int 20, .ref 59, .int 20]))) _
    refine hw_newa rfl (by decide) (by decide) ?_
    rw [am_new_up (h := (f, 60)) (a := 58) (show (58 : Nat) ≠ 60 by decide)]
    refine hw_put rfl (show (am_up (am_new (f, 60) (.inl (0, (32 : Int32).toNatClampNeg, .inl (fun _ => 0)))) 58 (.inr (7, [.int 20, .ref 59, .int 20]))).1 58 = _ from rfl) (by decide) (Nat.le_of_ble_eq_true rfl) rfl ?_
    rw [am_up_up]
    show hw fm (d + 2) 73 48 [some (.ref 58), some (.int 20), some (.int 0)] [] (am_up (am_new (f, 60) (.inl (0, 32, .inl (fun _ => 0)))) 58 (.inr (7, [.int 20, .ref 60, .int 20]))) _
    refine hw_run 1 (pc' := 49) (loc' := [some (.ref 58), some (.int 20), some (.int 0)]) (stk' := [.ref 58]) (fun _ _ => rfl) ?_
    refine hw_get (v := .ref 60) rfl rfl rfl ?_
    refine hw_run 2 (pc' := 54) (loc' := [some (.ref 58), some (.int 20), some (.int 0)]) (stk' := [.ref 58, .int 0, .ref 60]) (fun _ _ => rfl) ?_
    refine hw_get (v := .int 20) rfl rfl rfl ?_
    refine hw_run 1 (pc' := 58) (loc' := [some (.ref 58), some (.int 20), some (.int 0)]) (stk' := [.int 0, .int 20, .int 0, .ref 60]) (fun _ _ => rfl) ?_
    refine hw_call (As := [.ref 60, .int 0, .int 20, .int 0]) (rest := []) (c_fill (d := d) (n := 20) (m := 32) (f := fun _ => 0) (v := 0) (a := 60) (h := am_up (am_new (f, 60) (.inl (0, 32, .inl (fun _ => 0)))) 58 (.inr (7, [.int 20, .ref 60, .int 20]))) rfl (by decide) (by decide) (by decide)) rfl rfl rfl rfl rfl rfl ?_
    exact hw_retv rfl rfl ⟨rfl, rfl, rfl, rfl⟩)
  subst q2 q3 q4 q5
  exact q1
