/-! THE LAW, 7: its loop -/
section La6
variable {p : Program} {l : Launch} {e : Env} {s : State} {m : MethodId} {args : Array Value} {below : List Frame} {meth : Method} {c : Code} {Q : State → Prop}
variable {D : va_G} {dA : Nat → ClassId} {b : Nat} {ext : Nat → Nat} {fm : Value} {sx : Nat × (Nat → Int32)} {X : Nat} {Z : zr_Z} {i : Int32}
theorem L_step (hc : LC p l s m args c D dA b ext fm) (h : REL Z Z) (hw : SI sx i) (h0 : ¬ (i < 0 ∨ sx.1 ≤ i.toNatClampNeg)) (kk : ∀ Z', REL Z' Z' → LW p l e s m args below meth c Q D dA b ext sx 591 (ll i) [] Z' X) : LW p l e s m args below meth c Q D dA b ext sx 33 (ll i) [] Z (X + 1) := by
  have hu := hc.2.2.2.2
  refine LW_rz hc (rz_run 2 (pc' := 36) (loc' := ll i) (stk' := [.int i, .ref 0]) (fun _ _ _ => rfl) (rz_sald rfl h0 (rz_run 2 (pc' := 40) (loc' := ll i) (stk' := [.int (sx.2 i.toNatClampNeg &&& 15)]) (fun _ _ _ => rfl) rz_refl))) ?_
  obtain ⟨j, hj, ej⟩ := pk_andE (sx.2 i.toNatClampNeg) (m := 15) 4 rfl
  rw [ej]
  have hj' : j < 16 := hj
  have key : ∀ pc', (∀ h k z, am_run fm 0 1 (40, ll i, [.int (nI j)], h, k, z) = some (pc', ll i, [], h, k, z)) → LW p l e s m args below meth c Q D dA b ext sx pc' (ll i) [] Z (X + 1) → LW p l e s m args below meth c Q D dA b ext sx 40 (ll i) [.int (nI j)] Z (X + 1) := fun pc' hr hk => LW_rz hc (rz_run 1 hr rz_refl) hk
  have sim : ∀ pc', (∃ Z', rz fm sx 30 0 pc' (ll i) [] Z 591 (ll i) [] Z' ∧ REL Z' Z') → LW p l e s m args below meth c Q D dA b ext sx pc' (ll i) [] Z (X + 1) := fun pc' ⟨Z', r, R⟩ => LW_mono (Nat.le_succ _) (LW_rz hc r (kk Z' R))
  have hcs : j = 0 ∨ j = 1 ∨ j = 2 ∨ j = 3 ∨ j = 4 ∨ j = 5 ∨ j = 6 ∨ j = 7 ∨ j = 8 ∨ j = 9 ∨ j = 10 ∨ j = 11 ∨ j = 12 ∨ j = 13 ∨ j = 14 ∨ j = 15 := by omega
  rcases hcs with rfl | rfl | rfl | rfl | rfl | rfl | rfl | rfl | rfl | rfl | rfl | rfl | rfl | rfl | rfl | rfl
  · exact key 108 (fun _ _ _ => rfl) (sim _ (L_feed hu h hw))
  · exact key 179 (fun _ _ _ => rfl) (sim _ (L_end hu h hw))
  · exact key 204 (fun _ _ _ => rfl) (sim _ (L_wipe hu h hw))
  · exact key 215 (fun _ _ _ => rfl) (T_define hc h hw kk)
  · exact key 259 (fun _ _ _ => rfl) (sim _ (L_drop hu h hw))
  · exact key 270 (fun _ _ _ => rfl) (T_read hc h hw kk)
  · exact key 314 (fun _ _ _ => rfl) (sim _ (L_fault hu h hw))
  · exact key 339 (fun _ _ _ => rfl) (sim _ (L_node hu h hw))
  · exact key 376 (fun _ _ _ => rfl) (sim _ (L_letter hu h hw))
  · exact key 441 (fun _ _ _ => rfl) (T_plain hc h hw kk)
  · exact key 497 (fun _ _ _ => rfl) (T_write hc h hw kk)
  · exact key 541 (fun _ _ _ => rfl) (sim _ (L_output hu h hw))
  · exact key 566 (fun _ _ _ => rfl) (sim _ (L_about hu h hw))
  · exact key 591 (fun _ _ _ => rfl) (LW_mono (Nat.le_succ _) (kk Z h))
  · exact key 591 (fun _ _ _ => rfl) (LW_mono (Nat.le_succ _) (kk Z h))
  · exact key 591 (fun _ _ _ => rfl) (LW_mono (Nat.le_succ _) (kk Z h))
theorem L_loop (hc : LC p l s m args c D dA b ext fm) (hL : sx.1 ≤ 3072) (fin : ∀ Z i, LW p l e s m args below meth c Q D dA b ext sx 598 (ll i) [.int 1] Z 0) : ∀ (n t : Nat) (Z : zr_Z), 512 ≤ t + n → t ≤ 512 → REL Z Z → LW p l e s m args below meth c Q D dA b ext sx 23 (ll (nI (6 * t))) [] Z n := by
  have e6 : ∀ t : Nat, t ≤ 512 → (nI sx.1 - nI 6 < nI (6 * t) ↔ sx.1 < 6 * t + 6) := fun t ht => by
    rw [Int32.lt_iff_toInt_lt, pk_sub_toInt (by omega) (by decide), nI_toInt (by omega)]; omega
  have head : ∀ (t : Nat) (Z : zr_Z) (pcT X : Nat), (if nI sx.1 - nI 6 < nI (6 * t) then 597 else 33) = pcT → LW p l e s m args below meth c Q D dA b ext sx pcT (ll (nI (6 * t))) [] Z X → LW p l e s m args below meth c Q D dA b ext sx 23 (ll (nI (6 * t))) [] Z X := by
    intro t Z pcT X hp hk
    refine LW_rz hc (rz_run 2 (pc' := 26) (loc' := ll (nI (6 * t))) (stk' := [.ref 0, .int (nI (6 * t))]) (fun _ _ _ => rfl) (rz_salen rfl (rz_run 2 (pc' := 30) (loc' := ll (nI (6 * t))) (stk' := [.int (nI sx.1 - nI 6), .int (nI (6 * t))]) (fun _ _ _ => rfl) ?_))) hk
    exact rz_jmp (c := nI sx.1 - nI 6 < nI (6 * t)) (t1 := 597) (t2 := 33) (t := pcT) (loc' := ll (nI (6 * t))) (stk' := []) (fun _ _ _ => rfl) hp rz_refl
  have out : ∀ (t : Nat) (Z : zr_Z) (X : Nat), t ≤ 512 → sx.1 < 6 * t + 6 → LW p l e s m args below meth c Q D dA b ext sx 23 (ll (nI (6 * t))) [] Z X := by
    intro t Z X ht h
    refine head t Z 597 X (if_pos ((e6 t ht).mpr h)) ?_
    exact LW_mono (Nat.zero_le _) (LW_rz hc (rz_run 1 (pc' := 598) (loc' := ll (nI (6 * t))) (stk' := [.int 1]) (fun _ _ _ => rfl) rz_refl) (fin Z _))
  intro n
  induction n with
  | zero =>
    intro t Z h1 h2 hR
    exact out t Z 0 h2 (by omega)
  | succ n ih =>
    intro t Z h1 h2 hR
    by_cases hx : sx.1 < 6 * t + 6
    · exact out t Z _ h2 hx
    · refine head t Z 33 _ (if_neg (fun h => hx ((e6 t h2).mp h))) ?_
      have hin : ∀ j : Nat, j ≤ 5 → ¬ (nI (6 * t + j) < 0 ∨ sx.1 ≤ (nI (6 * t + j)).toNatClampNeg) := fun j hj => nI_in (by omega) (by omega)
      refine L_step hc hR (fun j hj => ?_) (hin 0 (by decide)) (fun Z' hR' => ?_)
      · simp only [List.mem_cons, List.not_mem_nil, or_false] at hj
        rcases hj with rfl | rfl | rfl | rfl | rfl
        · exact (nI_add (6 * t) 1).symm ▸ hin 1 (by decide)
        · exact (nI_add (6 * t) 2).symm ▸ hin 2 (by decide)
        · exact (nI_add (6 * t) 3).symm ▸ hin 3 (by decide)
        · exact (nI_add (6 * t) 4).symm ▸ hin 4 (by decide)
        · exact (nI_add (6 * t) 5).symm ▸ hin 5 (by decide)
      · have ee : nI (6 * t) + 6 = nI (6 * (t + 1)) := nI_add (6 * t) 6
        refine LW_rz hc (rz_run 2 (pc' := 23) (loc' := ll (nI (6 * t) + 6)) (stk' := []) (fun _ _ _ => rfl) rz_refl) ?_
        rw [ee]
        exact ih (t + 1) Z' (by omega) (by omega) hR'
end La6
