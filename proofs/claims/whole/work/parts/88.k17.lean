/-! THE LAW, 6: the four calls that may throw -/
section La5
variable {p : Program} {l : Launch} {e : Env} {s : State} {m : MethodId} {args : Array Value} {below : List Frame} {meth : Method} {c : Code} {Q : State → Prop}
variable {D : va_G} {dA : Nat → ClassId} {b : Nat} {ext : Nat → Nat} {fm : Value} {sx : Nat × (Nat → Int32)} {X : Nat} {Z : zr_Z} {i : Int32}
theorem T_define (hc : LC p l s m args c D dA b ext fm) (h : REL Z Z) (hw : SI sx i) (kk : ∀ Z', REL Z' Z' → LW p l e s m args below meth c Q D dA b ext sx 591 (ll i) [] Z' X) : LW p l e s m args below meth c Q D dA b ext sx 215 (ll i) [] Z (X + 1) := by
  have hu := hc.2.2.2.2
  have hd : decode (am_Mt 0).2.1 217 = .ok (.invokestatic 46, 3) := by decide +kernel
  refine LW_rz hc (rz_run 2 (pc' := 217) (loc' := ll i) (stk' := [.ref 174, .ref 57]) (fun _ _ _ => rfl) rz_refl) ?_
  rcases st_define h  with ⟨a, C', h1, h2⟩ | ⟨x, C', hx, ht, b0, Z', h1, h2, h3, -⟩
  · obtain ⟨Z', h3, h4, h5, h6⟩ := h2 (vp_updL C'.2.2.2.2 0 a.toInt64)
    refine LW_mono (Nat.le_succ _) ?_
    refine LW_ret (y := 202) (As := [.ref 57, .ref 174]) (rest := []) (r := 0) hc hok_202 rfl hd (by decide) rfl (hr_define hu h1) (by decide +kernel) ?_
    exact LW_rz hc (tl_define hu  h3 h4 (fun _ => by rw [h6]; rfl)) (kk Z' h5)
  · rcases ht with ⟨rfl, hf, rfl⟩ | ⟨rfl, hf, h20, h21, rfl⟩
    · refine LW_thr (y := 202) (As := [.ref 57, .ref 174]) (rest := []) (As' := []) (rst := [.int 0, .ref 174]) (r := 1) (n := 3) (pcC := 3) (locC := [some (.ref 57), some (.ref 174), none]) (pre := []) (x := ⟨0, 8, 11, 13⟩) (rs := [⟨0, 8, 14, 15⟩]) (n2 := 2) (pc2 := 13) (loc2 := fun a => [some (.ref 57), some (.ref 174), some (.ref a)]) hc hok_202 rfl hd (by decide) rfl tok_12a (by decide) (fun _ => rfl) (ii := 7) (by decide +kernel) (by decide +kernel) (by decide) (x_12a (d := 16) hf) rfl (Or.inl rfl) (by decide +kernel) (by decide) (by decide +kernel) (fun _ _ _ _ => rfl) (by decide +kernel) ?_
      exact LW_rz hc (tl_define hu  h1 h2 (fun hh => absurd hh hx)) (kk Z' h3)
    · refine LW_thr (y := 202) (As := [.ref 57, .ref 174]) (rest := []) (As' := []) (rst := [.int 0, .ref 174]) (r := 2) (n := 3) (pcC := 3) (locC := [some (.ref 57), some (.ref 174), none]) (pre := [⟨0, 8, 11, 13⟩]) (x := ⟨0, 8, 14, 15⟩) (rs := []) (n2 := 2) (pc2 := 16) (loc2 := fun a => [some (.ref 57), some (.ref 174), some (.ref a)]) hc hok_202 rfl hd (by decide) rfl tok_12b (by decide) (fun _ => rfl) (ii := 7) (by decide +kernel) (by decide +kernel) (by decide) (x_12b (d := 16) hf h20 h21) rfl (Or.inr ⟨rfl, _, rfl, by decide, by decide +kernel⟩) (by decide +kernel) (by decide) (by decide +kernel) (fun _ _ _ _ => rfl) (by decide +kernel) ?_
      exact LW_rz hc (tl_define hu  h1 h2 (fun hh => absurd hh hx)) (kk Z' h3)
theorem T_read (hc : LC p l s m args c D dA b ext fm) (h : REL Z Z) (hw : SI sx i) (kk : ∀ Z', REL Z' Z' → LW p l e s m args below meth c Q D dA b ext sx 591 (ll i) [] Z' X) : LW p l e s m args below meth c Q D dA b ext sx 270 (ll i) [] Z (X + 1) := by
  have hu := hc.2.2.2.2
  have hd : decode (am_Mt 0).2.1 272 = .ok (.invokestatic 59, 3) := by decide +kernel
  refine LW_rz hc (rz_run 2 (pc' := 272) (loc' := ll i) (stk' := [.ref 174, .ref 57]) (fun _ _ _ => rfl) rz_refl) ?_
  rcases st_read h  with ⟨a, C', h1, h2⟩ | ⟨x, C', hx, ht, b0, Z', h1, h2, h3, -⟩
  · obtain ⟨Z', h3, h4, h5, h6⟩ := h2 (vp_updL C'.2.2.2.2 0 a.toInt64)
    refine LW_mono (Nat.le_succ _) ?_
    refine LW_ret (y := 203) (As := [.ref 57, .ref 174]) (rest := []) (r := 0) hc hok_203 rfl hd (by decide) rfl (hr_read hu h1) (by decide +kernel) ?_
    exact LW_rz hc (tl_read hu  h3 h4 (fun _ => by rw [h6]; rfl)) (kk Z' h5)
  · obtain ⟨rfl, hq⟩ := ht
    refine LW_thr (y := 203) (As := [.ref 57, .ref 174]) (rest := []) (As' := []) (rst := [.int 0, .ref 174]) (r := 1) (n := 3) (pcC := 3) (locC := [some (.ref 57), some (.ref 174), none]) (pre := []) (x := ⟨0, 8, 11, 13⟩) (rs := []) (n2 := 2) (pc2 := 13) (loc2 := fun a => [some (.ref 57), some (.ref 174), some (.ref a)]) hc hok_203 rfl hd (by decide) rfl tok_14 (by decide) (fun _ => rfl) (ii := 17) (by decide +kernel) (by decide +kernel) (by decide) (x_14 (d := 16) hu hq) rfl (Or.inl rfl) (by decide +kernel) (by decide) (by decide +kernel) (fun _ _ _ _ => rfl) (by decide +kernel) ?_
    exact LW_rz hc (tl_read hu  h1 h2 (fun hh => absurd hh hx)) (kk Z' h3)
theorem T_plain (hc : LC p l s m args c D dA b ext fm) (h : REL Z Z) (hw : SI sx i) (kk : ∀ Z', REL Z' Z' → LW p l e s m args below meth c Q D dA b ext sx 591 (ll i) [] Z' X) : LW p l e s m args below meth c Q D dA b ext sx 441 (ll i) [] Z (X + 1) := by
  have hu := hc.2.2.2.2
  have hd : decode (am_Mt 0).2.1 449 = .ok (.invokestatic 76, 3) := by decide +kernel
  refine LW_rz hc (rz_run 1 (pc' := 442) (loc' := ll i) (stk' := [.ref 57]) (fun _ _ _ => rfl) (rz_word (i := i) (j := 1) (pc' := 448) (fun _ _ _ => rfl) rfl (hw 1 (by decide)) rfl (rz_run 1 (pc' := 449) (loc' := ll i) (stk' := [.ref 174, .int (sw sx i 1), .ref 57]) (fun _ _ _ => rfl) rz_refl))) ?_
  rcases st_plain h (sw sx i 1) with ⟨a, C', h1, h2⟩ | ⟨x, C', hx, ht, b0, Z', h1, h2, h3, -⟩
  · obtain ⟨Z', h3, h4, h5, h6⟩ := h2 (vp_updL C'.2.2.2.2 0 a.toInt64)
    refine LW_mono (Nat.le_succ _) ?_
    refine LW_ret (y := 204) (As := [.ref 57, .int (sw sx i 1), .ref 174]) (rest := []) (r := 0) hc hok_204 rfl hd (Nat.le_of_ble_eq_true rfl) rfl (hr_plain hu h1) (by decide +kernel) ?_
    exact LW_rz hc (tl_plain hu hw h3 h4 (fun _ => by rw [h6]; rfl)) (kk Z' h5)
  · obtain ⟨rfl, hf, rfl⟩ := ht
    refine LW_thr (y := 204) (As := [.ref 57, .int (sw sx i 1), .ref 174]) (rest := []) (As' := [.int (sw sx i 1)]) (rst := [.int 0, .ref 174]) (r := 1) (n := 4) (pcC := 4) (locC := [some (.ref 57), some (.int (sw sx i 1)), some (.ref 174), none]) (pre := []) (x := ⟨0, 9, 12, 24⟩) (rs := []) (n2 := 2) (pc2 := 14) (loc2 := fun a => [some (.ref 57), some (.int (sw sx i 1)), some (.ref 174), some (.ref a)]) hc hok_204 rfl hd (Nat.le_of_ble_eq_true rfl) rfl tok_3 (Nat.le_of_ble_eq_true rfl) (fun _ => rfl) (ii := 20) (by decide +kernel) (by decide +kernel) (by decide) (x_3 (d := 16) hf) rfl (Or.inl rfl) (by decide +kernel) (by decide) (by decide +kernel) (fun _ _ _ _ => rfl) (by decide +kernel) ?_
    exact LW_rz hc (tl_plain hu hw h1 h2 (fun hh => absurd hh hx)) (kk Z' h3)
theorem T_write (hc : LC p l s m args c D dA b ext fm) (h : REL Z Z) (hw : SI sx i) (kk : ∀ Z', REL Z' Z' → LW p l e s m args below meth c Q D dA b ext sx 591 (ll i) [] Z' X) : LW p l e s m args below meth c Q D dA b ext sx 497 (ll i) [] Z (X + 1) := by
  have hu := hc.2.2.2.2
  have hd : decode (am_Mt 0).2.1 499 = .ok (.invokestatic 80, 3) := by decide +kernel
  refine LW_rz hc (rz_run 2 (pc' := 499) (loc' := ll i) (stk' := [.ref 174, .ref 57]) (fun _ _ _ => rfl) rz_refl) ?_
  rcases st_write h  with ⟨a, C', h1, h2⟩ | ⟨x, C', hx, ht, b0, Z', h1, h2, h3, -⟩
  · obtain ⟨Z', h3, h4, h5, h6⟩ := h2 (vp_updL C'.2.2.2.2 0 a.toInt64)
    refine LW_mono (Nat.le_succ _) ?_
    refine LW_ret (y := 205) (As := [.ref 57, .ref 174]) (rest := []) (r := 0) hc hok_205 rfl hd (by decide) rfl (hr_write hu h1) (by decide +kernel) ?_
    exact LW_rz hc (tl_write hu  h3 h4 (fun _ => by rw [h6]; rfl)) (kk Z' h5)
  · obtain ⟨rfl, hf, rfl⟩ := ht
    refine LW_thr (y := 205) (As := [.ref 57, .ref 174]) (rest := []) (As' := []) (rst := [.int 0, .ref 174]) (r := 1) (n := 3) (pcC := 3) (locC := [some (.ref 57), some (.ref 174), none]) (pre := []) (x := ⟨0, 8, 11, 15⟩) (rs := []) (n2 := 2) (pc2 := 13) (loc2 := fun a => [some (.ref 57), some (.ref 174), some (.ref a)]) hc hok_205 rfl hd (by decide) rfl tok_4 (by decide) (fun _ => rfl) (ii := 26) (by decide +kernel) (by decide +kernel) (by decide) (x_4 (d := 16) hf) rfl (Or.inl rfl) (by decide +kernel) (by decide) (by decide +kernel) (fun _ _ _ _ => rfl) (by decide +kernel) ?_
    exact LW_rz hc (tl_write hu  h1 h2 (fun hh => absurd hh hx)) (kk Z' h3)
end La5
