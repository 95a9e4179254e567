def kh_91 (f : Nat → Option am_C) : am_H := am_up (am_new (f, 63) (.inr (9, am_fs 9))) 63 (.inr (9, [.ref 61]))
set_option maxRecDepth 100000 in
set_option maxHeartbeats 4000000 in
theorem k_91 {fm : Value} {d : Nat} (f : Nat → Option am_C) : am_R fm (d + 1) 91 [.ref 63, .ref 61] (am_new (f, 63) (.inr (9, am_fs 9))) none (kh_91 f) 0 0 := by
  obtain ⟨r, h', mc, ms, q1, q2, q3, q4, q5⟩ := hw_R (fm := fm) (d := d + 0) (y := 91) (As := [.ref 63, .ref 61]) (h := am_new (f, 63) (.inr (9, am_fs 9))) (nL := 2) (loc0 := [some (.ref 63), some (.ref 61)]) (P := fun r h' mc ms => r = none ∧ h' = kh_91 f ∧ mc = 0 ∧ ms = 0) rfl rfl rfl (by
    refine hw_run 4 (pc' := 6) (loc' := [some (.ref 63), some (.ref 61)]) (stk' := [.ref 61, .ref 63]) (fun _ _ => rfl) ?_
    refine hw_put rfl rfl (by decide) (Nat.le_of_ble_eq_true rfl) rfl ?_
    exact hw_retv rfl rfl ⟨rfl, rfl, rfl, rfl⟩)
  subst q2 q3 q4 q5
  exact q1
def kh_62 (f : Nat → Option am_C) : am_H := am_up (am_up (am_new (f, 64) (.inr (6, am_fs 6))) 64 (.inr (6, [.ref 61, .int 0]))) 64 (.inr (6, [.ref 61, .int (-1)]))
set_option maxRecDepth 100000 in
set_option maxHeartbeats 4000000 in
theorem k_62 {fm : Value} {d : Nat} (f : Nat → Option am_C) : am_R fm (d + 1) 62 [.ref 64, .ref 61] (am_new (f, 64) (.inr (6, am_fs 6))) none (kh_62 f) 0 0 := by
  obtain ⟨r, h', mc, ms, q1, q2, q3, q4, q5⟩ := hw_R (fm := fm) (d := d + 0) (y := 62) (As := [.ref 64, .ref 61]) (h := am_new (f, 64) (.inr (6, am_fs 6))) (nL := 2) (loc0 := [some (.ref 64), some (.ref 61)]) (P := fun r h' mc ms => r = none ∧ h' = kh_62 f ∧ mc = 0 ∧ ms = 0) rfl rfl rfl (by
    refine hw_run 4 (pc' := 6) (loc' := [some (.ref 64), some (.ref 61)]) (stk' := [.ref 61, .ref 64]) (fun _ _ => rfl) ?_
    refine hw_put rfl rfl (by decide) (Nat.le_of_ble_eq_true rfl) rfl ?_
    refine hw_run 2 (pc' := 11) (loc' := [some (.ref 64), some (.ref 61)]) (stk' := [.int (-1), .ref 64]) (fun _ _ => rfl) ?_
    refine hw_put rfl rfl (by decide) (Nat.le_of_ble_eq_true rfl) rfl ?_
    exact hw_retv rfl rfl ⟨rfl, rfl, rfl, rfl⟩)
  subst q2 q3 q4 q5
  exact q1
def kh_33 (f : Nat → Option am_C) : am_H := am_up (rowN (am_new (am_up (rowN (am_new (am_up (rowN (am_new (am_up (rowN (am_new (am_up (rowN (am_new (am_up (rowN (am_new (am_up (rowN (am_new (am_up (rowN (am_new (am_new (f, 65) (.inr (3, am_fs 3))) (.inr (7, am_fs 7))) 66 1500) 65 (.inr (3, [.ref 66, .null, .null, .null, .null, .null, .null, .null]))) (.inr (7, am_fs 7))) 68 1500) 65 (.inr (3, [.ref 66, .ref 68, .null, .null, .null, .null, .null, .null]))) (.inr (7, am_fs 7))) 70 1500) 65 (.inr (3, [.ref 66, .ref 68, .ref 70, .null, .null, .null, .null, .null]))) (.inr (7, am_fs 7))) 72 1500) 65 (.inr (3, [.ref 66, .ref 68, .ref 70, .ref 72, .null, .null, .null, .null]))) (.inr (7, am_fs 7))) 74 1500) 65 (.inr (3, [.ref 66, .ref 68, .ref 70, .ref 72, .ref 74, .null, .null, .null]))) (.inr (7, am_fs 7))) 76 1500) 65 (.inr (3, [.ref 66, .ref 68, .ref 70, .ref 72, .ref 74, .ref 76, .null, .null]))) (.inr (7, am_fs 7))) 78 1500) 65 (.inr (3, [.ref 66, .ref 68, .ref 70, .ref 72, .ref 74, .ref 76, .ref 78, .null]))) (.inr (7, am_fs 7))) 80 1500) 65 (.inr (3, [.ref 66, .ref 68, .ref 70, .ref 72, .ref 74, .ref 76, .ref 78, .ref 80]))
set_option maxRecDepth 100000 in
set_option maxHeartbeats 4000000 in
theorem k_33 {fm : Value} {d : Nat} (f : Nat → Option am_C) : am_R fm (d + 2) 33 [.ref 65] (am_new (f, 65) (.inr (3, am_fs 3))) none (kh_33 f) 16 152 := by
  obtain ⟨r, h', mc, ms, q1, q2, q3, q4, q5⟩ := hw_R (fm := fm) (d := d + 1) (y := 33) (As := [.ref 65]) (h := am_new (f, 65) (.inr (3, am_fs 3))) (nL := 1) (loc0 := [some (.ref 65)]) (P := fun r h' mc ms => r = none ∧ h' = kh_33 f ∧ mc = 16 ∧ ms = 152) rfl rfl rfl (by
    refine hw_run 3 (pc' := 5) (loc' := [some (.ref 65)]) (stk' := [.ref 65]) (fun _ _ => rfl) ?_
    refine hw_newo (ci := 7) rfl ?_
    refine hw_run 2 (pc' := 12) (loc' := [some (.ref 65)]) (stk' := [.int 1500, .ref 66, .ref 66, .ref 65]) (fun _ _ => rfl) ?_
    refine hw_call (As := [.ref 66, .int 1500]) (rest := [.ref 66, .ref 65]) (k_67 (d := d + 0) rfl (by decide) (Nat.le_of_ble_eq_true rfl)) rfl rfl rfl rfl rfl rfl ?_
    refine hw_put rfl rfl (by decide) (Nat.le_of_ble_eq_true rfl) rfl ?_
    refine hw_run 1 (pc' := 19) (loc' := [some (.ref 65)]) (stk' := [.ref 65]) (fun _ _ => rfl) ?_
    refine hw_newo (ci := 7) rfl ?_
    refine hw_run 2 (pc' := 26) (loc' := [some (.ref 65)]) (stk' := [.int 1500, .ref 68, .ref 68, .ref 65]) (fun _ _ => rfl) ?_
    refine hw_call (As := [.ref 68, .int 1500]) (rest := [.ref 68, .ref 65]) (k_67 (d := d + 0) rfl (by decide) (Nat.le_of_ble_eq_true rfl)) rfl rfl rfl rfl rfl rfl ?_
    refine hw_put rfl rfl (by decide) (Nat.le_of_ble_eq_true rfl) rfl ?_
    refine hw_run 1 (pc' := 33) (loc' := [some (.ref 65)]) (stk' := [.ref 65]) (fun _ _ => rfl) ?_
    refine hw_newo (ci := 7) rfl ?_
    refine hw_run 2 (pc' := 40) (loc' := [some (.ref 65)]) (stk' := [.int 1500, .ref 70, .ref 70, .ref 65]) (fun _ _ => rfl) ?_
    refine hw_call (As := [.ref 70, .int 1500]) (rest := [.ref 70, .ref 65]) (k_67 (d := d + 0) rfl (by decide) (Nat.le_of_ble_eq_true rfl)) rfl rfl rfl rfl rfl rfl ?_
    refine hw_put rfl rfl (by decide) (Nat.le_of_ble_eq_true rfl) rfl ?_
    refine hw_run 1 (pc' := 47) (loc' := [some (.ref 65)]) (stk' := [.ref 65]) (fun _ _ => rfl) ?_
    refine hw_newo (ci := 7) rfl ?_
    refine hw_run 2 (pc' := 54) (loc' := [some (.ref 65)]) (stk' := [.int 1500, .ref 72, .ref 72, .ref 65]) (fun _ _ => rfl) ?_
    refine hw_call (As := [.ref 72, .int 1500]) (rest := [.ref 72, .ref 65]) (k_67 (d := d + 0) rfl (by decide) (Nat.le_of_ble_eq_true rfl)) rfl rfl rfl rfl rfl rfl ?_
    refine hw_put rfl rfl (by decide) (Nat.le_of_ble_eq_true rfl) rfl ?_
    refine hw_run 1 (pc' := 61) (loc' := [some (.ref 65)]) (stk' := [.ref 65]) (fun _ _ => rfl) ?_
    refine hw_newo (ci := 7) rfl ?_
    refine hw_run 2 (pc' := 68) (loc' := [some (.ref 65)]) (stk' := [.int 1500, .ref 74, .ref 74, .ref 65]) (fun _ _ => rfl) ?_
    refine hw_call (As := [.ref 74, .int 1500]) (rest := [.ref 74, .ref 65]) (k_67 (d := d + 0) rfl (by decide) (Nat.le_of_ble_eq_true rfl)) rfl rfl rfl rfl rfl rfl ?_
    refine hw_put rfl rfl (by decide) (Nat.le_of_ble_eq_true rfl) rfl ?_
    refine hw_run 1 (pc' := 75) (loc' := [some (.ref 65)]) (stk' := [.ref 65]) (fun _ _ => rfl) ?_
    refine hw_newo (ci := 7) rfl ?_
    refine hw_run 2 (pc' := 82) (loc' := [some (.ref 65)]) (stk' := [.int 1500, .ref 76, .ref 76, .ref 65]) (fun _ _ => rfl) ?_
    refine hw_call (As := [.ref 76, .int 1500]) (rest := [.ref 76, .ref 65]) (k_67 (d := d + 0) rfl (by decide) (Nat.le_of_ble_eq_true rfl)) rfl rfl rfl rfl rfl rfl ?_
    refine hw_put rfl rfl (by decide) (Nat.le_of_ble_eq_true rfl) rfl ?_
    refine hw_run 1 (pc' := 89) (loc' := [some (.ref 65)]) (stk' := [.ref 65]) (fun _ _ => rfl) ?_
    refine hw_newo (ci := 7) rfl ?_
    refine hw_run 2 (pc' := 96) (loc' := [some (.ref 65)]) (stk' := [.int 1500, .ref 78, .ref 78, .ref 65]) (fun _ _ => rfl) ?_
    refine hw_call (As := [.ref 78, .int 1500]) (rest := [.ref 78, .ref 65]) (k_67 (d := d + 0) rfl (by decide) (Nat.le_of_ble_eq_true rfl)) rfl rfl rfl rfl rfl rfl ?_
    refine hw_put rfl rfl (by decide) (Nat.le_of_ble_eq_true rfl) rfl ?_
    refine hw_run 1 (pc' := 103) (loc' := [some (.ref 65)]) (stk' := [.ref 65]) (fun _ _ => rfl) ?_
    refine hw_newo (ci := 7) rfl ?_
    refine hw_run 2 (pc' := 110) (loc' := [some (.ref 65)]) (stk' := [.int 1500, .ref 80, .ref 80, .ref 65]) (fun _ _ => rfl) ?_
    refine hw_call (As := [.ref 80, .int 1500]) (rest := [.ref 80, .ref 65]) (k_67 (d := d + 0) rfl (by decide) (Nat.le_of_ble_eq_true rfl)) rfl rfl rfl rfl rfl rfl ?_
    refine hw_put rfl rfl (by decide) (Nat.le_of_ble_eq_true rfl) rfl ?_
    exact hw_retv rfl rfl ⟨rfl, rfl, rfl, rfl⟩)
  subst q2 q3 q4 q5
  exact q1
def kh_16 (f : Nat → Option am_C) : am_H := am_up (rowN (am_new (am_up (rowN (am_new (am_up (rowN (am_new (am_up (am_up (am_new (f, 82) (.inr (1, am_fs 1))) 82 (.inr (1, [.ref 61, .null, .null, .null, .null]))) 82 (.inr (1, [.ref 61, .ref 63, .null, .null, .null]))) (.inr (7, am_fs 7))) 83 2000) 82 (.inr (1, [.ref 61, .ref 63, .ref 83, .null, .null]))) (.inr (7, am_fs 7))) 85 20) 82 (.inr (1, [.ref 61, .ref 63, .ref 83, .ref 85, .null]))) (.inr (7, am_fs 7))) 87 100) 82 (.inr (1, [.ref 61, .ref 63, .ref 83, .ref 85, .ref 87]))
set_option maxRecDepth 100000 in
set_option maxHeartbeats 4000000 in
theorem k_16 {fm : Value} {d : Nat} (f : Nat → Option am_C) : am_R fm (d + 2) 16 [.ref 82, .ref 61, .ref 63] (am_new (f, 82) (.inr (1, am_fs 1))) none (kh_16 f) 6 57 := by
  obtain ⟨r, h', mc, ms, q1, q2, q3, q4, q5⟩ := hw_R (fm := fm) (d := d + 1) (y := 16) (As := [.ref 82, .ref 61, .ref 63]) (h := am_new (f, 82) (.inr (1, am_fs 1))) (nL := 3) (loc0 := [some (.ref 82), some (.ref 61), some (.ref 63)]) (P := fun r h' mc ms => r = none ∧ h' = kh_16 f ∧ mc = 6 ∧ ms = 57) rfl rfl rfl (by
    refine hw_run 4 (pc' := 6) (loc' := [some (.ref 82), some (.ref 61), some (.ref 63)]) (stk' := [.ref 61, .ref 82]) (fun _ _ => rfl) ?_
    refine hw_put rfl rfl (by decide) (Nat.le_of_ble_eq_true rfl) rfl ?_
    refine hw_run 2 (pc' := 11) (loc' := [some (.ref 82), some (.ref 61), some (.ref 63)]) (stk' := [.ref 63, .ref 82]) (fun _ _ => rfl) ?_
    refine hw_put rfl rfl (by decide) (Nat.le_of_ble_eq_true rfl) rfl ?_
    refine hw_run 1 (pc' := 15) (loc' := [some (.ref 82), some (.ref 61), some (.ref 63)]) (stk' := [.ref 82]) (fun _ _ => rfl) ?_
    refine hw_newo (ci := 7) rfl ?_
    refine hw_run 2 (pc' := 22) (loc' := [some (.ref 82), some (.ref 61), some (.ref 63)]) (stk' := [.int 2000, .ref 83, .ref 83, .ref 82]) (fun _ _ => rfl) ?_
    refine hw_call (As := [.ref 83, .int 2000]) (rest := [.ref 83, .ref 82]) (k_67 (d := d + 0) rfl (by decide) (Nat.le_of_ble_eq_true rfl)) rfl rfl rfl rfl rfl rfl ?_
    refine hw_put rfl rfl (by decide) (Nat.le_of_ble_eq_true rfl) rfl ?_
    refine hw_run 1 (pc' := 29) (loc' := [some (.ref 82), some (.ref 61), some (.ref 63)]) (stk' := [.ref 82]) (fun _ _ => rfl) ?_
    refine hw_newo (ci := 7) rfl ?_
    refine hw_run 2 (pc' := 35) (loc' := [some (.ref 82), some (.ref 61), some (.ref 63)]) (stk' := [.int 20, .ref 85, .ref 85, .ref 82]) (fun _ _ => rfl) ?_
    refine hw_call (As := [.ref 85, .int 20]) (rest := [.ref 85, .ref 82]) (k_67 (d := d + 0) rfl (by decide) (Nat.le_of_ble_eq_true rfl)) rfl rfl rfl rfl rfl rfl ?_
    refine hw_put rfl rfl (by decide) (Nat.le_of_ble_eq_true rfl) rfl ?_
    refine hw_run 1 (pc' := 42) (loc' := [some (.ref 82), some (.ref 61), some (.ref 63)]) (stk' := [.ref 82]) (fun _ _ => rfl) ?_
    refine hw_newo (ci := 7) rfl ?_
    refine hw_run 2 (pc' := 48) (loc' := [some (.ref 82), some (.ref 61), some (.ref 63)]) (stk' := [.int 100, .ref 87, .ref 87, .ref 82]) (fun _ _ => rfl) ?_
    refine hw_call (As := [.ref 87, .int 100]) (rest := [.ref 87, .ref 82]) (k_67 (d := d + 0) rfl (by decide) (Nat.le_of_ble_eq_true rfl)) rfl rfl rfl rfl rfl rfl ?_
    refine hw_put rfl rfl (by decide) (Nat.le_of_ble_eq_true rfl) rfl ?_
    exact hw_retv rfl rfl ⟨rfl, rfl, rfl, rfl⟩)
  subst q2 q3 q4 q5
  exact q1
def kh_75 (f : Nat → Option am_C) : am_H := am_up (rowN (am_new (am_up (rowN (am_new (am_up (rowN (am_new (am_up (rowN (am_new (am_up (rowN (am_new (am_up (rowN (am_new (am_up (am_up (am_new (f, 90) (.inr (8, am_fs 8))) 90 (.inr (8, [.ref 61, .null, .null, .null, .null, .null, .null, .null]))) 90 (.inr (8, [.ref 61, .ref 65, .null, .null, .null, .null, .null, .null]))) (.inr (7, am_fs 7))) 91 1500) 90 (.inr (8, [.ref 61, .ref 65, .ref 91, .null, .null, .null, .null, .null]))) (.inr (7, am_fs 7))) 93 1500) 90 (.inr (8, [.ref 61, .ref 65, .ref 91, .ref 93, .null, .null, .null, .null]))) (.inr (7, am_fs 7))) 95 1500) 90 (.inr (8, [.ref 61, .ref 65, .ref 91, .ref 93, .ref 95, .null, .null, .null]))) (.inr (7, am_fs 7))) 97 1500) 90 (.inr (8, [.ref 61, .ref 65, .ref 91, .ref 93, .ref 95, .ref 97, .null, .null]))) (.inr (7, am_fs 7))) 99 1500) 90 (.inr (8, [.ref 61, .ref 65, .ref 91, .ref 93, .ref 95, .ref 97, .ref 99, .null]))) (.inr (7, am_fs 7))) 101 1500) 90 (.inr (8, [.ref 61, .ref 65, .ref 91, .ref 93, .ref 95, .ref 97, .ref 99, .ref 101]))
set_option maxRecDepth 100000 in
set_option maxHeartbeats 4000000 in
theorem k_75 {fm : Value} {d : Nat} (f : Nat → Option am_C) : am_R fm (d + 2) 75 [.ref 90, .ref 61, .ref 65] (am_new (f, 90) (.inr (8, am_fs 8))) none (kh_75 f) 12 114 := by
  obtain ⟨r, h', mc, ms, q1, q2, q3, q4, q5⟩ := hw_R (fm := fm) (d := d + 1) (y := 75) (As := [.ref 90, .ref 61, .ref 65]) (h := am_new (f, 90) (.inr (8, am_fs 8))) (nL := 3) (loc0 := [some (.ref 90), some (.ref 61), some (.ref 65)]) (P := fun r h' mc ms => r = none ∧ h' = kh_75 f ∧ mc = 12 ∧ ms = 114) rfl rfl rfl (by
    refine hw_run 4 (pc' := 6) (loc' := [some (.ref 90), some (.ref 61), some (.ref 65)]) (stk' := [.ref 61, .ref 90]) (fun _ _ => rfl) ?_
    refine hw_put rfl rfl (by decide) (Nat.le_of_ble_eq_true rfl) rfl ?_
    refine hw_run 2 (pc' := 11) (loc' := [some (.ref 90), some (.ref 61), some (.ref 65)]) (stk' := [.ref 65, .ref 90]) (fun _ _ => rfl) ?_
    refine hw_put rfl rfl (by decide) (Nat.le_of_ble_eq_true rfl) rfl ?_
    refine hw_run 1 (pc' := 15) (loc' := [some (.ref 90), some (.ref 61), some (.ref 65)]) (stk' := [.ref 90]) (fun _ _ => rfl) ?_
    refine hw_newo (ci := 7) rfl ?_
    refine hw_run 2 (pc' := 22) (loc' := [some (.ref 90), some (.ref 61), some (.ref 65)]) (stk' := [.int 1500, .ref 91, .ref 91, .ref 90]) (fun _ _ => rfl) ?_
    refine hw_call (As := [.ref 91, .int 1500]) (rest := [.ref 91, .ref 90]) (k_67 (d := d + 0) rfl (by decide) (Nat.le_of_ble_eq_true rfl)) rfl rfl rfl rfl rfl rfl ?_
    refine hw_put rfl rfl (by decide) (Nat.le_of_ble_eq_true rfl) rfl ?_
    refine hw_run 1 (pc' := 29) (loc' := [some (.ref 90), some (.ref 61), some (.ref 65)]) (stk' := [.ref 90]) (fun _ _ => rfl) ?_
    refine hw_newo (ci := 7) rfl ?_
    refine hw_run 2 (pc' := 36) (loc' := [some (.ref 90), some (.ref 61), some (.ref 65)]) (stk' := [.int 1500, .ref 93, .ref 93, .ref 90]) (fun _ _ => rfl) ?_
    refine hw_call (As := [.ref 93, .int 1500]) (rest := [.ref 93, .ref 90]) (k_67 (d := d + 0) rfl (by decide) (Nat.le_of_ble_eq_true rfl)) rfl rfl rfl rfl rfl rfl ?_
    refine hw_put rfl rfl (by decide) (Nat.le_of_ble_eq_true rfl) rfl ?_
    refine hw_run 1 (pc' := 43) (loc' := [some (.ref 90), some (.ref 61), some (.ref 65)]) (stk' := [.ref 90]) (fun _ _ => rfl) ?_
    refine hw_newo (ci := 7) rfl ?_
    refine hw_run 2 (pc' := 50) (loc' := [some (.ref 90), some (.ref 61), some (.ref 65)]) (stk' := [.int 1500, .ref 95, .ref 95, .ref 90]) (fun _ _ => rfl) ?_
    refine hw_call (As := [.ref 95, .int 1500]) (rest := [.ref 95, .ref 90]) (k_67 (d := d + 0) rfl (by decide) (Nat.le_of_ble_eq_true rfl)) rfl rfl rfl rfl rfl rfl ?_
    refine hw_put rfl rfl (by decide) (Nat.le_of_ble_eq_true rfl) rfl ?_
    refine hw_run 1 (pc' := 57) (loc' := [some (.ref 90), some (.ref 61), some (.ref 65)]) (stk' := [.ref 90]) (fun _ _ => rfl) ?_
    refine hw_newo (ci := 7) rfl ?_
    refine hw_run 2 (pc' := 64) (loc' := [some (.ref 90), some (.ref 61), some (.ref 65)]) (stk' := [.int 1500, .ref 97, .ref 97, .ref 90]) (fun _ _ => rfl) ?_
    refine hw_call (As := [.ref 97, .int 1500]) (rest := [.ref 97, .ref 90]) (k_67 (d := d + 0) rfl (by decide) (Nat.le_of_ble_eq_true rfl)) rfl rfl rfl rfl rfl rfl ?_
    refine hw_put rfl rfl (by decide) (Nat.le_of_ble_eq_true rfl) rfl ?_
    refine hw_run 1 (pc' := 71) (loc' := [some (.ref 90), some (.ref 61), some (.ref 65)]) (stk' := [.ref 90]) (fun _ _ => rfl) ?_
    refine hw_newo (ci := 7) rfl ?_
    refine hw_run 2 (pc' := 78) (loc' := [some (.ref 90), some (.ref 61), some (.ref 65)]) (stk' := [.int 1500, .ref 99, .ref 99, .ref 90]) (fun _ _ => rfl) ?_
    refine hw_call (As := [.ref 99, .int 1500]) (rest := [.ref 99, .ref 90]) (k_67 (d := d + 0) rfl (by decide) (Nat.le_of_ble_eq_true rfl)) rfl rfl rfl rfl rfl rfl ?_
    refine hw_put rfl rfl (by decide) (Nat.le_of_ble_eq_true rfl) rfl ?_
    refine hw_run 1 (pc' := 85) (loc' := [some (.ref 90), some (.ref 61), some (.ref 65)]) (stk' := [.ref 90]) (fun _ _ => rfl) ?_
    refine hw_newo (ci := 7) rfl ?_
    refine hw_run 2 (pc' := 92) (loc' := [some (.ref 90), some (.ref 61), some (.ref 65)]) (stk' := [.int 1500, .ref 101, .ref 101, .ref 90]) (fun _ _ => rfl) ?_
    refine hw_call (As := [.ref 101, .int 1500]) (rest := [.ref 101, .ref 90]) (k_67 (d := d + 0) rfl (by decide) (Nat.le_of_ble_eq_true rfl)) rfl rfl rfl rfl rfl rfl ?_
    refine hw_put rfl rfl (by decide) (Nat.le_of_ble_eq_true rfl) rfl ?_
    exact hw_retv rfl rfl ⟨rfl, rfl, rfl, rfl⟩)
  subst q2 q3 q4 q5
  exact q1
def kh_24 (f : Nat → Option am_C) : am_H := am_up (am_up (rowN (am_new (am_up (rowN (am_new (am_up (rowN (am_new (am_up (rowN (am_new (am_up (rowN (am_new (am_up (am_up (am_up (am_up (am_up (am_new (f, 103) (.inr (2, am_fs 2))) 103 (.inr (2, [.ref 61, .null, .null, .null, .null, .null, .null, .null, .null, .null, .int 0]))) 103 (.inr (2, [.ref 61, .ref 63, .null, .null, .null, .null, .null, .null, .null, .null, .int 0]))) 103 (.inr (2, [.ref 61, .ref 63, .ref 65, .null, .null, .null, .null, .null, .null, .null, .int 0]))) 103 (.inr (2, [.ref 61, .ref 63, .ref 65, .ref 90, .null, .null, .null, .null, .null, .null, .int 0]))) 103 (.inr (2, [.ref 61, .ref 63, .ref 65, .ref 90, .ref 82, .null, .null, .null, .null, .null, .int 0]))) (.inr (7, am_fs 7))) 104 1500) 103 (.inr (2, [.ref 61, .ref 63, .ref 65, .ref 90, .ref 82, .ref 104, .null, .null, .null, .null, .int 0]))) (.inr (7, am_fs 7))) 106 1500) 103 (.inr (2, [.ref 61, .ref 63, .ref 65, .ref 90, .ref 82, .ref 104, .ref 106, .null, .null, .null, .int 0]))) (.inr (7, am_fs 7))) 108 1500) 103 (.inr (2, [.ref 61, .ref 63, .ref 65, .ref 90, .ref 82, .ref 104, .ref 106, .ref 108, .null, .null, .int 0]))) (.inr (7, am_fs 7))) 110 1500) 103 (.inr (2, [.ref 61, .ref 63, .ref 65, .ref 90, .ref 82, .ref 104, .ref 106, .ref 108, .ref 110, .null, .int 0]))) (.inr (7, am_fs 7))) 112 1500) 103 (.inr (2, [.ref 61, .ref 63, .ref 65, .ref 90, .ref 82, .ref 104, .ref 106, .ref 108, .ref 110, .ref 112, .int 0]))) 103 (.inr (2, [.ref 61, .ref 63, .ref 65, .ref 90, .ref 82, .ref 104, .ref 106, .ref 108, .ref 110, .ref 112, .int 0]))
set_option maxRecDepth 100000 in
set_option maxHeartbeats 4000000 in
theorem k_24 {fm : Value} {d : Nat} (f : Nat → Option am_C) : am_R fm (d + 2) 24 [.ref 103, .ref 61, .ref 63, .ref 65, .ref 90, .ref 82] (am_new (f, 103) (.inr (2, am_fs 2))) none (kh_24 f) 10 95 := by
  obtain ⟨r, h', mc, ms, q1, q2, q3, q4, q5⟩ := hw_R (fm := fm) (d := d + 1) (y := 24) (As := [.ref 103, .ref 61, .ref 63, .ref 65, .ref 90, .ref 82]) (h := am_new (f, 103) (.inr (2, am_fs 2))) (nL := 6) (loc0 := [some (.ref 103), some (.ref 61), some (.ref 63), some (.ref 65), some (.ref 90), some (.ref 82)]) (P := fun r h' mc ms => r = none ∧ h' = kh_24 f ∧ mc = 10 ∧ ms = 95) rfl rfl rfl (by
    refine hw_run 4 (pc' := 6) (loc' := [some (.ref 103), some (.ref 61), some (.ref 63), some (.ref 65), some (.ref 90), some (.ref 82)]) (stk' := [.ref 61, .ref 103]) (fun _ _ => rfl) ?_
    refine hw_put rfl rfl (by decide) (Nat.le_of_ble_eq_true rfl) rfl ?_
    refine hw_run 2 (pc' := 11) (loc' := [some (.ref 103), some (.ref 61), some (.ref 63), some (.ref 65), some (.ref 90), some (.ref 82)]) (stk' := [.ref 63, .ref 103]) (fun _ _ => rfl) ?_
    refine hw_put rfl rfl (by decide) (Nat.le_of_ble_eq_true rfl) rfl ?_
    refine hw_run 2 (pc' := 16) (loc' := [some (.ref 103), some (.ref 61), some (.ref 63), some (.ref 65), some (.ref 90), some (.ref 82)]) (stk' := [.ref 65, .ref 103]) (fun _ _ => rfl) ?_
    refine hw_put rfl rfl (by decide) (Nat.le_of_ble_eq_true rfl) rfl ?_
    refine hw_run 2 (pc' := 22) (loc' := [some (.ref 103), some (.ref 61), some (.ref 63), some (.ref 65), some (.ref 90), some (.ref 82)]) (stk' := [.ref 90, .ref 103]) (fun _ _ => rfl) ?_
    refine hw_put rfl rfl (by decide) (Nat.le_of_ble_eq_true rfl) rfl ?_
    refine hw_run 2 (pc' := 28) (loc' := [some (.ref 103), some (.ref 61), some (.ref 63), some (.ref 65), some (.ref 90), some (.ref 82)]) (stk' := [.ref 82, .ref 103]) (fun _ _ => rfl) ?_
    refine hw_put rfl rfl (by decide) (Nat.le_of_ble_eq_true rfl) rfl ?_
    refine hw_run 1 (pc' := 32) (loc' := [some (.ref 103), some (.ref 61), some (.ref 63), some (.ref 65), some (.ref 90), some (.ref 82)]) (stk' := [.ref 103]) (fun _ _ => rfl) ?_
    refine hw_newo (ci := 7) rfl ?_
    refine hw_run 2 (pc' := 39) (loc' := [some (.ref 103), some (.ref 61), some (.ref 63), some (.ref 65), some (.ref 90), some (.ref 82)]) (stk' := [.int 1500, .ref 104, .ref 104, .ref 103]) (fun _ _ => rfl) ?_
    refine hw_call (As := [.ref 104, .int 1500]) (rest := [.ref 104, .ref 103]) (k_67 (d := d + 0) rfl (by decide) (Nat.le_of_ble_eq_true rfl)) rfl rfl rfl rfl rfl rfl ?_
    refine hw_put rfl rfl (by decide) (Nat.le_of_ble_eq_true rfl) rfl ?_
    refine hw_run 1 (pc' := 46) (loc' := [some (.ref 103), some (.ref 61), some (.ref 63), some (.ref 65), some (.ref 90), some (.ref 82)]) (stk' := [.ref 103]) (fun _ _ => rfl) ?_
    refine hw_newo (ci := 7) rfl ?_
    refine hw_run 2 (pc' := 53) (loc' := [some (.ref 103), some (.ref 61), some (.ref 63), some (.ref 65), some (.ref 90), some (.ref 82)]) (stk' := [.int 1500, .ref 106, .ref 106, .ref 103]) (fun _ _ => rfl) ?_
    refine hw_call (As := [.ref 106, .int 1500]) (rest := [.ref 106, .ref 103]) (k_67 (d := d + 0) rfl (by decide) (Nat.le_of_ble_eq_true rfl)) rfl rfl rfl rfl rfl rfl ?_
    refine hw_put rfl rfl (by decide) (Nat.le_of_ble_eq_true rfl) rfl ?_
    refine hw_run 1 (pc' := 60) (loc' := [some (.ref 103), some (.ref 61), some (.ref 63), some (.ref 65), some (.ref 90), some (.ref 82)]) (stk' := [.ref 103]) (fun _ _ => rfl) ?_
    refine hw_newo (ci := 7) rfl ?_
    refine hw_run 2 (pc' := 67) (loc' := [some (.ref 103), some (.ref 61), some (.ref 63), some (.ref 65), some (.ref 90), some (.ref 82)]) (stk' := [.int 1500, .ref 108, .ref 108, .ref 103]) (fun _ _ => rfl) ?_
    refine hw_call (As := [.ref 108, .int 1500]) (rest := [.ref 108, .ref 103]) (k_67 (d := d + 0) rfl (by decide) (Nat.le_of_ble_eq_true rfl)) rfl rfl rfl rfl rfl rfl ?_
    refine hw_put rfl rfl (by decide) (Nat.le_of_ble_eq_true rfl) rfl ?_
    refine hw_run 1 (pc' := 74) (loc' := [some (.ref 103), some (.ref 61), some (.ref 63), some (.ref 65), some (.ref 90), some (.ref 82)]) (stk' := [.ref 103]) (fun _ _ => rfl) ?_
    refine hw_newo (ci := 7) rfl ?_
    refine hw_run 2 (pc' := 81) (loc' := [some (.ref 103), some (.ref 61), some (.ref 63), some (.ref 65), some (.ref 90), some (.ref 82)]) (stk' := [.int 1500, .ref 110, .ref 110, .ref 103]) (fun _ _ => rfl) ?_
    refine hw_call (As := [.ref 110, .int 1500]) (rest := [.ref 110, .ref 103]) (k_67 (d := d + 0) rfl (by decide) (Nat.le_of_ble_eq_true rfl)) rfl rfl rfl rfl rfl rfl ?_
    refine hw_put rfl rfl (by decide) (Nat.le_of_ble_eq_true rfl) rfl ?_
    refine hw_run 1 (pc' := 88) (loc' := [some (.ref 103), some (.ref 61), some (.ref 63), some (.ref 65), some (.ref 90), some (.ref 82)]) (stk' := [.ref 103]) (fun _ _ => rfl) ?_
    refine hw_newo (ci := 7) rfl ?_
    refine hw_run 2 (pc' := 95) (loc' := [some (.ref 103), some (.ref 61), some (.ref 63), some (.ref 65), some (.ref 90), some (.ref 82)]) (stk' := [.int 1500, .ref 112, .ref 112, .ref 103]) (fun _ _ => rfl) ?_
    refine hw_call (As := [.ref 112, .int 1500]) (rest := [.ref 112, .ref 103]) (k_67 (d := d + 0) rfl (by decide) (Nat.le_of_ble_eq_true rfl)) rfl rfl rfl rfl rfl rfl ?_
    refine hw_put rfl rfl (by decide) (Nat.le_of_ble_eq_true rfl) rfl ?_
    refine hw_run 2 (pc' := 103) (loc' := [some (.ref 103), some (.ref 61), some (.ref 63), some (.ref 65), some (.ref 90), some (.ref 82)]) (stk' := [.int 0, .ref 103]) (fun _ _ => rfl) ?_
    refine hw_put rfl rfl (by decide) (Nat.le_of_ble_eq_true rfl) rfl ?_
    exact hw_retv rfl rfl ⟨rfl, rfl, rfl, rfl⟩)
  subst q2 q3 q4 q5
  exact q1
def kh_53 (f : Nat → Option am_C) : am_H := am_up (am_up (am_up (kh_24 (am_up (kh_75 (am_up (am_up (am_up (am_up (am_new (f, 89) (.inr (5, am_fs 5))) 89 (.inr (5, [.ref 61, .null, .null, .null, .null, .null, .int 0, .int 0]))) 89 (.inr (5, [.ref 61, .ref 63, .null, .null, .null, .null, .int 0, .int 0]))) 89 (.inr (5, [.ref 61, .ref 63, .ref 64, .null, .null, .null, .int 0, .int 0]))) 89 (.inr (5, [.ref 61, .ref 63, .ref 64, .ref 65, .null, .null, .int 0, .int 0]))).1) 89 (.inr (5, [.ref 61, .ref 63, .ref 64, .ref 65, .ref 90, .null, .int 0, .int 0]))).1) 89 (.inr (5, [.ref 61, .ref 63, .ref 64, .ref 65, .ref 90, .ref 103, .int 0, .int 0]))) 89 (.inr (5, [.ref 61, .ref 63, .ref 64, .ref 65, .ref 90, .ref 103, .int 0, .int 0]))) 89 (.inr (5, [.ref 61, .ref 63, .ref 64, .ref 65, .ref 90, .ref 103, .int 0, .int (-1)]))
set_option maxRecDepth 100000 in
set_option maxHeartbeats 4000000 in
theorem k_53 {fm : Value} {d : Nat} (f : Nat → Option am_C) : am_R fm (d + 3) 53 [.ref 89, .ref 61, .ref 63, .ref 64, .ref 65, .ref 82] (am_new (f, 89) (.inr (5, am_fs 5))) none (kh_53 f) 24 228 := by
  obtain ⟨r, h', mc, ms, q1, q2, q3, q4, q5⟩ := hw_R (fm := fm) (d := d + 2) (y := 53) (As := [.ref 89, .ref 61, .ref 63, .ref 64, .ref 65, .ref 82]) (h := am_new (f, 89) (.inr (5, am_fs 5))) (nL := 6) (loc0 := [some (.ref 89), some (.ref 61), some (.ref 63), some (.ref 64), some (.ref 65), some (.ref 82)]) (P := fun r h' mc ms => r = none ∧ h' = kh_53 f ∧ mc = 24 ∧ ms = 228) rfl rfl rfl (by
    refine hw_run 4 (pc' := 6) (loc' := [some (.ref 89), some (.ref 61), some (.ref 63), some (.ref 64), some (.ref 65), some (.ref 82)]) (stk' := [.ref 61, .ref 89]) (fun _ _ => rfl) ?_
    refine hw_put rfl rfl (by decide) (Nat.le_of_ble_eq_true rfl) rfl ?_
    refine hw_run 2 (pc' := 11) (loc' := [some (.ref 89), some (.ref 61), some (.ref 63), some (.ref 64), some (.ref 65), some (.ref 82)]) (stk' := [.ref 63, .ref 89]) (fun _ _ => rfl) ?_
    refine hw_put rfl rfl (by decide) (Nat.le_of_ble_eq_true rfl) rfl ?_
    refine hw_run 2 (pc' := 16) (loc' := [some (.ref 89), some (.ref 61), some (.ref 63), some (.ref 64), some (.ref 65), some (.ref 82)]) (stk' := [.ref 64, .ref 89]) (fun _ _ => rfl) ?_
    refine hw_put rfl rfl (by decide) (Nat.le_of_ble_eq_true rfl) rfl ?_
    refine hw_run 2 (pc' := 22) (loc' := [some (.ref 89), some (.ref 61), some (.ref 63), some (.ref 64), some (.ref 65), some (.ref 82)]) (stk' := [.ref 65, .ref 89]) (fun _ _ => rfl) ?_
    refine hw_put rfl rfl (by decide) (Nat.le_of_ble_eq_true rfl) rfl ?_
    refine hw_run 1 (pc' := 26) (loc' := [some (.ref 89), some (.ref 61), some (.ref 63), some (.ref 64), some (.ref 65), some (.ref 82)]) (stk' := [.ref 89]) (fun _ _ => rfl) ?_
    refine hw_newo (ci := 8) rfl ?_
    refine hw_run 3 (pc' := 33) (loc' := [some (.ref 89), some (.ref 61), some (.ref 63), some (.ref 64), some (.ref 65), some (.ref 82)]) (stk' := [.ref 65, .ref 61, .ref 90, .ref 90, .ref 89]) (fun _ _ => rfl) ?_
    refine hw_call (As := [.ref 90, .ref 61, .ref 65]) (rest := [.ref 90, .ref 89]) (k_75 (d := d + 0) _) rfl rfl rfl rfl rfl rfl ?_
    refine hw_put rfl rfl (by decide) (Nat.le_of_ble_eq_true rfl) rfl ?_
    refine hw_run 1 (pc' := 40) (loc' := [some (.ref 89), some (.ref 61), some (.ref 63), some (.ref 64), some (.ref 65), some (.ref 82)]) (stk' := [.ref 89]) (fun _ _ => rfl) ?_
    refine hw_newo (ci := 2) rfl ?_
    refine hw_run 5 (pc' := 49) (loc' := [some (.ref 89), some (.ref 61), some (.ref 63), some (.ref 64), some (.ref 65), some (.ref 82)]) (stk' := [.ref 89, .ref 65, .ref 63, .ref 61, .ref 103, .ref 103, .ref 89]) (fun _ _ => rfl) ?_
    refine hw_get (v := .ref 90) rfl rfl rfl ?_
    refine hw_run 1 (pc' := 54) (loc' := [some (.ref 89), some (.ref 61), some (.ref 63), some (.ref 64), some (.ref 65), some (.ref 82)]) (stk' := [.ref 82, .ref 90, .ref 65, .ref 63, .ref 61, .ref 103, .ref 103, .ref 89]) (fun _ _ => rfl) ?_
    refine hw_call (As := [.ref 103, .ref 61, .ref 63, .ref 65, .ref 90, .ref 82]) (rest := [.ref 103, .ref 89]) (k_24 (d := d + 0) _) rfl rfl rfl rfl rfl rfl ?_
    refine hw_put rfl rfl (by decide) (Nat.le_of_ble_eq_true rfl) rfl ?_
    refine hw_run 2 (pc' := 62) (loc' := [some (.ref 89), some (.ref 61), some (.ref 63), some (.ref 64), some (.ref 65), some (.ref 82)]) (stk' := [.int 0, .ref 89]) (fun _ _ => rfl) ?_
    refine hw_put rfl rfl (by decide) (Nat.le_of_ble_eq_true rfl) rfl ?_
    refine hw_run 2 (pc' := 67) (loc' := [some (.ref 89), some (.ref 61), some (.ref 63), some (.ref 64), some (.ref 65), some (.ref 82)]) (stk' := [.int (-1), .ref 89]) (fun _ _ => rfl) ?_
    refine hw_put rfl rfl (by decide) (Nat.le_of_ble_eq_true rfl) rfl ?_
    exact hw_retv rfl rfl ⟨rfl, rfl, rfl, rfl⟩)
  subst q2 q3 q4 q5
  exact q1
def kh_42 (f : Nat → Option am_C) : am_H := am_up (am_up (rowN (am_new (am_up (rowN (am_new (am_up (rowN (am_new (am_up (rowN (am_new (am_up (rowN (am_new (am_up (rowN (am_new (am_up (rowN (am_new (am_up (rowN (am_new (am_up (rowN (am_new (am_up (am_up (am_up (am_new (f, 114) (.inr (4, am_fs 4))) 114 (.inr (4, [.ref 61, .null, .null, .null, .null, .null, .null, .null, .null, .null, .null, .null, .int 0]))) 114 (.inr (4, [.ref 61, .ref 64, .null, .null, .null, .null, .null, .null, .null, .null, .null, .null, .int 0]))) 114 (.inr (4, [.ref 61, .ref 64, .ref 65, .null, .null, .null, .null, .null, .null, .null, .null, .null, .int 0]))) (.inr (7, am_fs 7))) 115 1500) 114 (.inr (4, [.ref 61, .ref 64, .ref 65, .ref 115, .null, .null, .null, .null, .null, .null, .null, .null, .int 0]))) (.inr (7, am_fs 7))) 117 1500) 114 (.inr (4, [.ref 61, .ref 64, .ref 65, .ref 115, .ref 117, .null, .null, .null, .null, .null, .null, .null, .int 0]))) (.inr (7, am_fs 7))) 119 1500) 114 (.inr (4, [.ref 61, .ref 64, .ref 65, .ref 115, .ref 117, .ref 119, .null, .null, .null, .null, .null, .null, .int 0]))) (.inr (7, am_fs 7))) 121 1500) 114 (.inr (4, [.ref 61, .ref 64, .ref 65, .ref 115, .ref 117, .ref 119, .ref 121, .null, .null, .null, .null, .null, .int 0]))) (.inr (7, am_fs 7))) 123 1500) 114 (.inr (4, [.ref 61, .ref 64, .ref 65, .ref 115, .ref 117, .ref 119, .ref 121, .ref 123, .null, .null, .null, .null, .int 0]))) (.inr (7, am_fs 7))) 125 1500) 114 (.inr (4, [.ref 61, .ref 64, .ref 65, .ref 115, .ref 117, .ref 119, .ref 121, .ref 123, .ref 125, .null, .null, .null, .int 0]))) (.inr (7, am_fs 7))) 127 1500) 114 (.inr (4, [.ref 61, .ref 64, .ref 65, .ref 115, .ref 117, .ref 119, .ref 121, .ref 123, .ref 125, .ref 127, .null, .null, .int 0]))) (.inr (7, am_fs 7))) 129 1500) 114 (.inr (4, [.ref 61, .ref 64, .ref 65, .ref 115, .ref 117, .ref 119, .ref 121, .ref 123, .ref 125, .ref 127, .ref 129, .null, .int 0]))) (.inr (7, am_fs 7))) 131 3900) 114 (.inr (4, [.ref 61, .ref 64, .ref 65, .ref 115, .ref 117, .ref 119, .ref 121, .ref 123, .ref 125, .ref 127, .ref 129, .ref 131, .int 0]))) 114 (.inr (4, [.ref 61, .ref 64, .ref 65, .ref 115, .ref 117, .ref 119, .ref 121, .ref 123, .ref 125, .ref 127, .ref 129, .ref 131, .int 0]))
set_option maxRecDepth 100000 in
set_option maxHeartbeats 4000000 in
theorem k_42 {fm : Value} {d : Nat} (f : Nat → Option am_C) : am_R fm (d + 2) 42 [.ref 114, .ref 61, .ref 64, .ref 65] (am_new (f, 114) (.inr (4, am_fs 4))) none (kh_42 f) 18 171 := by
  obtain ⟨r, h', mc, ms, q1, q2, q3, q4, q5⟩ := hw_R (fm := fm) (d := d + 1) (y := 42) (As := [.ref 114, .ref 61, .ref 64, .ref 65]) (h := am_new (f, 114) (.inr (4, am_fs 4))) (nL := 4) (loc0 := [some (.ref 114), some (.ref 61), some (.ref 64), some (.ref 65)]) (P := fun r h' mc ms => r = none ∧ h' = kh_42 f ∧ mc = 18 ∧ ms = 171) rfl rfl rfl (by
    refine hw_run 4 (pc' := 6) (loc' := [some (.ref 114), some (.ref 61), some (.ref 64), some (.ref 65)]) (stk' := [.ref 61, .ref 114]) (fun _ _ => rfl) ?_
    refine hw_put rfl rfl (by decide) (Nat.le_of_ble_eq_true rfl) rfl ?_
    refine hw_run 2 (pc' := 11) (loc' := [some (.ref 114), some (.ref 61), some (.ref 64), some (.ref 65)]) (stk' := [.ref 64, .ref 114]) (fun _ _ => rfl) ?_
    refine hw_put rfl rfl (by decide) (Nat.le_of_ble_eq_true rfl) rfl ?_
    refine hw_run 2 (pc' := 16) (loc' := [some (.ref 114), some (.ref 61), some (.ref 64), some (.ref 65)]) (stk' := [.ref 65, .ref 114]) (fun _ _ => rfl) ?_
    refine hw_put rfl rfl (by decide) (Nat.le_of_ble_eq_true rfl) rfl ?_
    refine hw_run 1 (pc' := 20) (loc' := [some (.ref 114), some (.ref 61), some (.ref 64), some (.ref 65)]) (stk' := [.ref 114]) (fun _ _ => rfl) ?_
    refine hw_newo (ci := 7) rfl ?_
    refine hw_run 2 (pc' := 27) (loc' := [some (.ref 114), some (.ref 61), some (.ref 64), some (.ref 65)]) (stk' := [.int 1500, .ref 115, .ref 115, .ref 114]) (fun _ _ => rfl) ?_
    refine hw_call (As := [.ref 115, .int 1500]) (rest := [.ref 115, .ref 114]) (k_67 (d := d + 0) rfl (by decide) (Nat.le_of_ble_eq_true rfl)) rfl rfl rfl rfl rfl rfl ?_
    refine hw_put rfl rfl (by decide) (Nat.le_of_ble_eq_true rfl) rfl ?_
    refine hw_run 1 (pc' := 34) (loc' := [some (.ref 114), some (.ref 61), some (.ref 64), some (.ref 65)]) (stk' := [.ref 114]) (fun _ _ => rfl) ?_
    refine hw_newo (ci := 7) rfl ?_
    refine hw_run 2 (pc' := 41) (loc' := [some (.ref 114), some (.ref 61), some (.ref 64), some (.ref 65)]) (stk' := [.int 1500, .ref 117, .ref 117, .ref 114]) (fun _ _ => rfl) ?_
    refine hw_call (As := [.ref 117, .int 1500]) (rest := [.ref 117, .ref 114]) (k_67 (d := d + 0) rfl (by decide) (Nat.le_of_ble_eq_true rfl)) rfl rfl rfl rfl rfl rfl ?_
    refine hw_put rfl rfl (by decide) (Nat.le_of_ble_eq_true rfl) rfl ?_
    refine hw_run 1 (pc' := 48) (loc' := [some (.ref 114), some (.ref 61), some (.ref 64), some (.ref 65)]) (stk' := [.ref 114]) (fun _ _ => rfl) ?_
    refine hw_newo (ci := 7) rfl ?_
    refine hw_run 2 (pc' := 55) (loc' := [some (.ref 114), some (.ref 61), some (.ref 64), some (.ref 65)]) (stk' := [.int 1500, .ref 119, .ref 119, .ref 114]) (fun _ _ => rfl) ?_
    refine hw_call (As := [.ref 119, .int 1500]) (rest := [.ref 119, .ref 114]) (k_67 (d := d + 0) rfl (by decide) (Nat.le_of_ble_eq_true rfl)) rfl rfl rfl rfl rfl rfl ?_
    refine hw_put rfl rfl (by decide) (Nat.le_of_ble_eq_true rfl) rfl ?_
    refine hw_run 1 (pc' := 62) (loc' := [some (.ref 114), some (.ref 61), some (.ref 64), some (.ref 65)]) (stk' := [.ref 114]) (fun _ _ => rfl) ?_
    refine hw_newo (ci := 7) rfl ?_
    refine hw_run 2 (pc' := 69) (loc' := [some (.ref 114), some (.ref 61), some (.ref 64), some (.ref 65)]) (stk' := [.int 1500, .ref 121, .ref 121, .ref 114]) (fun _ _ => rfl) ?_
    refine hw_call (As := [.ref 121, .int 1500]) (rest := [.ref 121, .ref 114]) (k_67 (d := d + 0) rfl (by decide) (Nat.le_of_ble_eq_true rfl)) rfl rfl rfl rfl rfl rfl ?_
    refine hw_put rfl rfl (by decide) (Nat.le_of_ble_eq_true rfl) rfl ?_
    refine hw_run 1 (pc' := 76) (loc' := [some (.ref 114), some (.ref 61), some (.ref 64), some (.ref 65)]) (stk' := [.ref 114]) (fun _ _ => rfl) ?_
    refine hw_newo (ci := 7) rfl ?_
    refine hw_run 2 (pc' := 83) (loc' := [some (.ref 114), some (.ref 61), some (.ref 64), some (.ref 65)]) (stk' := [.int 1500, .ref 123, .ref 123, .ref 114]) (fun _ _ => rfl) ?_
    refine hw_call (As := [.ref 123, .int 1500]) (rest := [.ref 123, .ref 114]) (k_67 (d := d + 0) rfl (by decide) (Nat.le_of_ble_eq_true rfl)) rfl rfl rfl rfl rfl rfl ?_
    refine hw_put rfl rfl (by decide) (Nat.le_of_ble_eq_true rfl) rfl ?_
    refine hw_run 1 (pc' := 90) (loc' := [some (.ref 114), some (.ref 61), some (.ref 64), some (.ref 65)]) (stk' := [.ref 114]) (fun _ _ => rfl) ?_
    refine hw_newo (ci := 7) rfl ?_
    refine hw_run 2 (pc' := 97) (loc' := [some (.ref 114), some (.ref 61), some (.ref 64), some (.ref 65)]) (stk' := [.int 1500, .ref 125, .ref 125, .ref 114]) (fun _ _ => rfl) ?_
    refine hw_call (As := [.ref 125, .int 1500]) (rest := [.ref 125, .ref 114]) (k_67 (d := d + 0) rfl (by decide) (Nat.le_of_ble_eq_true rfl)) rfl rfl rfl rfl rfl rfl ?_
    refine hw_put rfl rfl (by decide) (Nat.le_of_ble_eq_true rfl) rfl ?_
    refine hw_run 1 (pc' := 104) (loc' := [some (.ref 114), some (.ref 61), some (.ref 64), some (.ref 65)]) (stk' := [.ref 114]) (fun _ _ => rfl) ?_
    refine hw_newo (ci := 7) rfl ?_
    refine hw_run 2 (pc' := 111) (loc' := [some (.ref 114), some (.ref 61), some (.ref 64), some (.ref 65)]) (stk' := [.int 1500, .ref 127, .ref 127, .ref 114]) (fun _ _ => rfl) ?_
    refine hw_call (As := [.ref 127, .int 1500]) (rest := [.ref 127, .ref 114]) (k_67 (d := d + 0) rfl (by decide) (Nat.le_of_ble_eq_true rfl)) rfl rfl rfl rfl rfl rfl ?_
    refine hw_put rfl rfl (by decide) (Nat.le_of_ble_eq_true rfl) rfl ?_
    refine hw_run 1 (pc' := 118) (loc' := [some (.ref 114), some (.ref 61), some (.ref 64), some (.ref 65)]) (stk' := [.ref 114]) (fun _ _ => rfl) ?_
    refine hw_newo (ci := 7) rfl ?_
    refine hw_run 2 (pc' := 125) (loc' := [some (.ref 114), some (.ref 61), some (.ref 64), some (.ref 65)]) (stk' := [.int 1500, .ref 129, .ref 129, .ref 114]) (fun _ _ => rfl) ?_
    refine hw_call (As := [.ref 129, .int 1500]) (rest := [.ref 129, .ref 114]) (k_67 (d := d + 0) rfl (by decide) (Nat.le_of_ble_eq_true rfl)) rfl rfl rfl rfl rfl rfl ?_
    refine hw_put rfl rfl (by decide) (Nat.le_of_ble_eq_true rfl) rfl ?_
    refine hw_run 1 (pc' := 132) (loc' := [some (.ref 114), some (.ref 61), some (.ref 64), some (.ref 65)]) (stk' := [.ref 114]) (fun _ _ => rfl) ?_
    refine hw_newo (ci := 7) rfl ?_
    refine hw_run 2 (pc' := 139) (loc' := [some (.ref 114), some (.ref 61), some (.ref 64), some (.ref 65)]) (stk' := [.int 3900, .ref 131, .ref 131, .ref 114]) (fun _ _ => rfl) ?_
    refine hw_call (As := [.ref 131, .int 3900]) (rest := [.ref 131, .ref 114]) (k_67 (d := d + 0) rfl (by decide) (Nat.le_of_ble_eq_true rfl)) rfl rfl rfl rfl rfl rfl ?_
    refine hw_put rfl rfl (by decide) (Nat.le_of_ble_eq_true rfl) rfl ?_
    refine hw_run 2 (pc' := 147) (loc' := [some (.ref 114), some (.ref 61), some (.ref 64), some (.ref 65)]) (stk' := [.int 0, .ref 114]) (fun _ _ => rfl) ?_
    refine hw_put rfl rfl (by decide) (Nat.le_of_ble_eq_true rfl) rfl ?_
    exact hw_retv rfl rfl ⟨rfl, rfl, rfl, rfl⟩)
  subst q2 q3 q4 q5
  exact q1
def kh_102 (f : Nat → Option am_C) : am_H := am_up (rowN (am_new (am_up (am_new (f, 133) (.inr (10, am_fs 10))) 133 (.inr (10, [.ref 114, .null]))) (.inr (7, am_fs 7))) 134 18000) 133 (.inr (10, [.ref 114, .ref 134]))
set_option maxRecDepth 100000 in
set_option maxHeartbeats 4000000 in
theorem k_102 {fm : Value} {d : Nat} (f : Nat → Option am_C) : am_R fm (d + 2) 102 [.ref 133, .ref 114] (am_new (f, 133) (.inr (10, am_fs 10))) none (kh_102 f) 2 19 := by
  obtain ⟨r, h', mc, ms, q1, q2, q3, q4, q5⟩ := hw_R (fm := fm) (d := d + 1) (y := 102) (As := [.ref 133, .ref 114]) (h := am_new (f, 133) (.inr (10, am_fs 10))) (nL := 2) (loc0 := [some (.ref 133), some (.ref 114)]) (P := fun r h' mc ms => r = none ∧ h' = kh_102 f ∧ mc = 2 ∧ ms = 19) rfl rfl rfl (by
    refine hw_run 4 (pc' := 6) (loc' := [some (.ref 133), some (.ref 114)]) (stk' := [.ref 114, .ref 133]) (fun _ _ => rfl) ?_
    refine hw_put rfl rfl (by decide) (Nat.le_of_ble_eq_true rfl) rfl ?_
    refine hw_run 1 (pc' := 10) (loc' := [some (.ref 133), some (.ref 114)]) (stk' := [.ref 133]) (fun _ _ => rfl) ?_
    refine hw_newo (ci := 7) rfl ?_
    refine hw_run 2 (pc' := 17) (loc' := [some (.ref 133), some (.ref 114)]) (stk' := [.int 18000, .ref 134, .ref 134, .ref 133]) (fun _ _ => rfl) ?_
    refine hw_call (As := [.ref 134, .int 18000]) (rest := [.ref 134, .ref 133]) (k_67 (d := d + 0) rfl (by decide) (Nat.le_of_ble_eq_true rfl)) rfl rfl rfl rfl rfl rfl ?_
    refine hw_put rfl rfl (by decide) (Nat.le_of_ble_eq_true rfl) rfl ?_
    exact hw_retv rfl rfl ⟨rfl, rfl, rfl, rfl⟩)
  subst q2 q3 q4 q5
  exact q1
def kh_7 (f : Nat → Option am_C) : am_H := am_up (am_up (kh_102 (am_up (kh_42 (am_up (kh_53 (am_up (kh_16 (kh_33 (kh_62 (kh_91 (am_up (rowN (am_new (fillN (am_up (rowN (am_new (am_new (f, 57) (.inr (0, am_fs 0))) (.inr (7, am_fs 7))) 58 20) 57 (.inr (0, [.ref 58, .null, .null, .null, .null, .null, .int 0])))) (.inr (7, am_fs 7))) 61 1500) 57 (.inr (0, [.ref 58, .ref 61, .null, .null, .null, .null, .int 0]))).1).1).1).1) 57 (.inr (0, [.ref 58, .ref 61, .ref 82, .null, .null, .null, .int 0]))).1) 57 (.inr (0, [.ref 58, .ref 61, .ref 82, .ref 89, .null, .null, .int 0]))).1) 57 (.inr (0, [.ref 58, .ref 61, .ref 82, .ref 89, .ref 114, .null, .int 0]))).1) 57 (.inr (0, [.ref 58, .ref 61, .ref 82, .ref 89, .ref 114, .ref 133, .int 0]))) 57 (.inr (0, [.ref 58, .ref 61, .ref 82, .ref 89, .ref 114, .ref 133, .int 0]))
set_option maxRecDepth 100000 in
set_option maxHeartbeats 4000000 in
theorem k_7 {fm : Value} {d : Nat} (f : Nat → Option am_C) : am_R fm (d + 4) 7 [.ref 57] (am_new (f, 57) (.inr (0, am_fs 0))) none (kh_7 f) 78 736 := by
  obtain ⟨r, h', mc, ms, q1, q2, q3, q4, q5⟩ := hw_R (fm := fm) (d := d + 3) (y := 7) (As := [.ref 57]) (h := am_new (f, 57) (.inr (0, am_fs 0))) (nL := 4) (loc0 := [some (.ref 57), none, none, none]) (P := fun r h' mc ms => r = none ∧ h' = kh_7 f ∧ mc = 78 ∧ ms = 736) rfl rfl rfl (by
    refine hw_run 3 (pc' := 5) (loc' := [some (.ref 57), none, none, none]) (stk' := [.ref 57]) (fun _ _ => rfl) ?_
    refine hw_newo (ci := 7) rfl ?_
    refine hw_run 2 (pc' := 11) (loc' := [some (.ref 57), none, none, none]) (stk' := [.int 20, .ref 58, .ref 58, .ref 57]) (fun _ _ => rfl) ?_
    refine hw_call (As := [.ref 58, .int 20]) (rest := [.ref 58, .ref 57]) (k_67 (d := d + 2) rfl (by decide) (Nat.le_of_ble_eq_true rfl)) rfl rfl rfl rfl rfl rfl ?_
    refine hw_put rfl rfl (by decide) (Nat.le_of_ble_eq_true rfl) rfl ?_
    refine hw_run 1 (pc' := 18) (loc' := [some (.ref 57), none, none, none]) (stk' := [.ref 57]) (fun _ _ => rfl) ?_
    refine hw_get (v := .ref 58) rfl rfl rfl ?_
    refine hw_run 2 (pc' := 24) (loc' := [some (.ref 57), none, none, none]) (stk' := [.int 0, .int 20, .ref 58]) (fun _ _ => rfl) ?_
    refine hw_call (As := [.ref 58, .int 20, .int 0]) (rest := []) (k_73 (d := d + 0) rfl rfl rfl trivial) rfl rfl rfl rfl rfl rfl ?_
    refine hw_run 1 (pc' := 28) (loc' := [some (.ref 57), none, none, none]) (stk' := [.ref 57]) (fun _ _ => rfl) ?_
    refine hw_newo (ci := 7) rfl ?_
    refine hw_run 2 (pc' := 35) (loc' := [some (.ref 57), none, none, none]) (stk' := [.int 1500, .ref 61, .ref 61, .ref 57]) (fun _ _ => rfl) ?_
    refine hw_call (As := [.ref 61, .int 1500]) (rest := [.ref 61, .ref 57]) (k_67 (d := d + 2) rfl (by decide) (Nat.le_of_ble_eq_true rfl)) rfl rfl rfl rfl rfl rfl ?_
    refine hw_put rfl rfl (by decide) (Nat.le_of_ble_eq_true rfl) rfl ?_
    refine hw_newo (ci := 9) rfl ?_
    refine hw_run 2 (pc' := 46) (loc' := [some (.ref 57), none, none, none]) (stk' := [.ref 57, .ref 63, .ref 63]) (fun _ _ => rfl) ?_
    refine hw_get (v := .ref 61) rfl rfl rfl ?_
    refine hw_call (As := [.ref 63, .ref 61]) (rest := [.ref 63]) (k_91 (d := d + 2) _) rfl rfl rfl rfl rfl rfl ?_
    refine hw_run 1 (pc' := 53) (loc' := [some (.ref 57), some (.ref 63), none, none]) (stk' := []) (fun _ _ => rfl) ?_
    refine hw_newo (ci := 6) rfl ?_
    refine hw_run 2 (pc' := 58) (loc' := [some (.ref 57), some (.ref 63), none, none]) (stk' := [.ref 57, .ref 64, .ref 64]) (fun _ _ => rfl) ?_
    refine hw_get (v := .ref 61) rfl rfl rfl ?_
    refine hw_call (As := [.ref 64, .ref 61]) (rest := [.ref 64]) (k_62 (d := d + 2) _) rfl rfl rfl rfl rfl rfl ?_
    refine hw_run 1 (pc' := 65) (loc' := [some (.ref 57), some (.ref 63), some (.ref 64), none]) (stk' := []) (fun _ _ => rfl) ?_
    refine hw_newo (ci := 3) rfl ?_
    refine hw_run 1 (pc' := 69) (loc' := [some (.ref 57), some (.ref 63), some (.ref 64), none]) (stk' := [.ref 65, .ref 65]) (fun _ _ => rfl) ?_
    refine hw_call (As := [.ref 65]) (rest := [.ref 65]) (k_33 (d := d + 1) _) rfl rfl rfl rfl rfl rfl ?_
    refine hw_run 2 (pc' := 74) (loc' := [some (.ref 57), some (.ref 63), some (.ref 64), some (.ref 65)]) (stk' := [.ref 57]) (fun _ _ => rfl) ?_
    refine hw_newo (ci := 1) rfl ?_
    refine hw_run 2 (pc' := 79) (loc' := [some (.ref 57), some (.ref 63), some (.ref 64), some (.ref 65)]) (stk' := [.ref 57, .ref 82, .ref 82, .ref 57]) (fun _ _ => rfl) ?_
    refine hw_get (v := .ref 61) rfl rfl rfl ?_
    refine hw_run 1 (pc' := 83) (loc' := [some (.ref 57), some (.ref 63), some (.ref 64), some (.ref 65)]) (stk' := [.ref 63, .ref 61, .ref 82, .ref 82, .ref 57]) (fun _ _ => rfl) ?_
    refine hw_call (As := [.ref 82, .ref 61, .ref 63]) (rest := [.ref 82, .ref 57]) (k_16 (d := d + 1) _) rfl rfl rfl rfl rfl rfl ?_
    refine hw_put rfl rfl (by decide) (Nat.le_of_ble_eq_true rfl) rfl ?_
    refine hw_run 1 (pc' := 90) (loc' := [some (.ref 57), some (.ref 63), some (.ref 64), some (.ref 65)]) (stk' := [.ref 57]) (fun _ _ => rfl) ?_
    refine hw_newo (ci := 5) rfl ?_
    refine hw_run 2 (pc' := 95) (loc' := [some (.ref 57), some (.ref 63), some (.ref 64), some (.ref 65)]) (stk' := [.ref 57, .ref 89, .ref 89, .ref 57]) (fun _ _ => rfl) ?_
    refine hw_get (v := .ref 61) rfl rfl rfl ?_
    refine hw_run 4 (pc' := 102) (loc' := [some (.ref 57), some (.ref 63), some (.ref 64), some (.ref 65)]) (stk' := [.ref 57, .ref 65, .ref 64, .ref 63, .ref 61, .ref 89, .ref 89, .ref 57]) (fun _ _ => rfl) ?_
    refine hw_get (v := .ref 82) rfl rfl rfl ?_
    refine hw_call (As := [.ref 89, .ref 61, .ref 63, .ref 64, .ref 65, .ref 82]) (rest := [.ref 89, .ref 57]) (k_53 (d := d + 0) _) rfl rfl rfl rfl rfl rfl ?_
    refine hw_put rfl rfl (by decide) (Nat.le_of_ble_eq_true rfl) rfl ?_
    refine hw_run 1 (pc' := 112) (loc' := [some (.ref 57), some (.ref 63), some (.ref 64), some (.ref 65)]) (stk' := [.ref 57]) (fun _ _ => rfl) ?_
    refine hw_newo (ci := 4) rfl ?_
    refine hw_run 2 (pc' := 117) (loc' := [some (.ref 57), some (.ref 63), some (.ref 64), some (.ref 65)]) (stk' := [.ref 57, .ref 114, .ref 114, .ref 57]) (fun _ _ => rfl) ?_
    refine hw_get (v := .ref 61) rfl rfl rfl ?_
    refine hw_run 2 (pc' := 122) (loc' := [some (.ref 57), some (.ref 63), some (.ref 64), some (.ref 65)]) (stk' := [.ref 65, .ref 64, .ref 61, .ref 114, .ref 114, .ref 57]) (fun _ _ => rfl) ?_
    refine hw_call (As := [.ref 114, .ref 61, .ref 64, .ref 65]) (rest := [.ref 114, .ref 57]) (k_42 (d := d + 1) _) rfl rfl rfl rfl rfl rfl ?_
    refine hw_put rfl rfl (by decide) (Nat.le_of_ble_eq_true rfl) rfl ?_
    refine hw_run 1 (pc' := 129) (loc' := [some (.ref 57), some (.ref 63), some (.ref 64), some (.ref 65)]) (stk' := [.ref 57]) (fun _ _ => rfl) ?_
    refine hw_newo (ci := 10) rfl ?_
    refine hw_run 2 (pc' := 134) (loc' := [some (.ref 57), some (.ref 63), some (.ref 64), some (.ref 65)]) (stk' := [.ref 57, .ref 133, .ref 133, .ref 57]) (fun _ _ => rfl) ?_
    refine hw_get (v := .ref 114) rfl rfl rfl ?_
    refine hw_call (As := [.ref 133, .ref 114]) (rest := [.ref 133, .ref 57]) (k_102 (d := d + 1) _) rfl rfl rfl rfl rfl rfl ?_
    refine hw_put rfl rfl (by decide) (Nat.le_of_ble_eq_true rfl) rfl ?_
    refine hw_run 2 (pc' := 145) (loc' := [some (.ref 57), some (.ref 63), some (.ref 64), some (.ref 65)]) (stk' := [.int 0, .ref 57]) (fun _ _ => rfl) ?_
    refine hw_put rfl rfl (by decide) (Nat.le_of_ble_eq_true rfl) rfl ?_
    exact hw_retv rfl rfl ⟨rfl, rfl, rfl, rfl⟩)
  subst q2 q3 q4 q5
  exact q1
