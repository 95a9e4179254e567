/-! REACHING A PLACE: steps from one place of a method to another, over the plain state -/
section Rz
variable {fm : Value} {sx : Nat × (Nat → Int32)} {d y pc pcT : Nat} {loc locT : am_L} {stk stkT rest : List Value} {Z ZT : zr_Z}
def rz (fm : Value) (sx : Nat × (Nat → Int32)) (d y pc : Nat) (loc : am_L) (stk : List Value) (Z : zr_Z) (pcT : Nat) (locT : am_L) (stkT : List Value) (ZT : zr_Z) : Prop :=
  ∀ h B, zr_P sx Z B h → ∀ k z, ∃ n h' mc ms B', am_N fm (am_R fm d) y n (pc, loc, stk, h, k, z) (pcT, locT, stkT, h', k + mc, z + ms) ∧ zr_P sx ZT B' h' ∧ mc + B' ≤ B ∧ ms + 2 * B' ≤ 2 * B
theorem rz_refl : rz fm sx d y pc loc stk Z pc loc stk Z := fun h B hP k z => ⟨0, h, 0, 0, B, rfl, hP, by omega, by omega⟩
theorem rz_steps {pc' : Nat} {loc' : am_L} {stk' : List Value} {Z' : zr_Z} (hs : rz fm sx d y pc loc stk Z pc' loc' stk' Z') (kk : rz fm sx d y pc' loc' stk' Z' pcT locT stkT ZT) : rz fm sx d y pc loc stk Z pcT locT stkT ZT := by
  intro h B hP k z
  obtain ⟨n, h', mc, ms, B', hN, hP', hB1, hB2⟩ := hs h B hP k z
  obtain ⟨n2, h2, mc2, ms2, B2, hN2, hP2, c1, c2⟩ := kk h' B' hP' (k + mc) (z + ms)
  refine ⟨n + n2, h2, mc + mc2, ms + ms2, B2, ?_, hP2, by omega, by omega⟩
  rw [← Nat.add_assoc, ← Nat.add_assoc]
  exact am_N_app n hN hN2
theorem rz_run (n : Nat) {pc' : Nat} {loc' : am_L} {stk' : List Value} (hr : ∀ h k z, am_run fm y n (pc, loc, stk, h, k, z) = some (pc', loc', stk', h, k, z)) (kk : rz fm sx d y pc' loc' stk' Z pcT locT stkT ZT) : rz fm sx d y pc loc stk Z pcT locT stkT ZT :=
  rz_steps (fun h B hP k z => ⟨n, h, 0, 0, B, am_run_N n (hr h k z), hP, by omega, by omega⟩) kk
theorem rz_st {o : am_O} {stk' : List Value} {pc' : Nat} {Z' : zr_Z} (ho : am_ops y pc = some o) (hs : ∀ h B, zr_P sx Z B h → ∃ h', (∀ k z, am_stp am_X (am_st fm) am_ty am_fs o pc loc stk h k z = some (pc', loc, stk', h', k, z)) ∧ zr_P sx Z' B h') (kk : rz fm sx d y pc' loc stk' Z' pcT locT stkT ZT) : rz fm sx d y pc loc stk Z pcT locT stkT ZT :=
  rz_steps (pc' := pc') (loc' := loc) (stk' := stk') (fun h B hP k z => by
    obtain ⟨h', h1, h2⟩ := hs h B hP
    exact ⟨1, h', 0, 0, B, ⟨_, Or.inl ⟨o, ho, h1 k z⟩, rfl⟩, h2, by omega, by omega⟩) kk
theorem rz_get {i n ci k id : Nat} {u v : Value} {fs : List Value} (ho : am_ops y pc = some (.getfield i, n, ci, k, u)) (hob : zr_ob Z.2.1 id = some (ci, fs)) (hv : fs[k]? = some v) (kk : rz fm sx d y (pc + 3) loc (v :: rest) Z pcT locT stkT ZT) : rz fm sx d y pc loc (.ref id :: rest) Z pcT locT stkT ZT :=
  rz_st ho (fun h B hP => ⟨h, fun k z => by
    obtain ⟨ga, gn, gf, G⟩ := hP
    have he := G.1 id _ hob
    simp [am_stp, am_getf, he, hv], hP⟩) kk
theorem rz_put {i n ci k id j : Nat} {u : Value} {x : Int32} {fs : List Value} (ho : am_ops y pc = some (.putfield i, n, ci, k, u)) (hob : zr_ob Z.2.1 id = some (ci, fs)) (hl : Nat.blt k fs.length = true) (hf : am_fit (am_ty ci k) (.int x) = true)
    (hup : ∀ (j' : Nat) (v : Nat × List Value), zr_ob (va_up Z.2.1 j x) j' = some v → (j' = id ∧ ∃ w, zr_ob Z.2.1 id = some w ∧ v = (w.1, w.2.set k (.int x))) ∨ (j' ≠ id ∧ zr_ob Z.2.1 j' = some v))
    (kk : rz fm sx d y (pc + 3) loc rest (Z.1, va_up Z.2.1 j x, Z.2.2) pcT locT stkT ZT) : rz fm sx d y pc loc (.int x :: .ref id :: rest) Z pcT locT stkT ZT :=
  rz_st ho (fun h B hP => by
    obtain ⟨ga, gn, gf, G⟩ := hP
    have he := G.1 id _ hob
    have q := zr_ob_fix hob
    have hl' : k < fs.length := Nat.le_of_ble_eq_true hl
    refine ⟨am_up h id (.inr (ci, fs.set k (.int x))), fun k z => by simp only [am_stp, am_putf, he]; rw [if_pos ⟨trivial, q.2.2.2.2, hl', hf⟩], ga, gn, gf, zr_G_fix G q.1 q.2.2.1 q.2.2.2.2 rfl (fun j' v hv => ?_) (Or.inr ⟨fun e => absurd q.2.2.2.1 (by rw [← e]; decide), rfl⟩) (fun j' h1 _ => Or.inr ⟨fun e => absurd q.2.2.2.1 (by omega), rfl⟩) (Or.inr ⟨fun e => absurd q.2.2.2.1 (by rw [← e]; decide), rfl⟩)⟩
    rcases hup j' v hv with ⟨e, w, hw, e2⟩ | z
    · refine Or.inl ⟨e, ?_⟩
      rw [hob] at hw
      cases hw
      rw [e2]
    · exact Or.inr z) kk
theorem rz_callf {o : am_O} {As : List Value} {r : Option Value} {Z' : zr_Z} (hl : zl fm sx d o.2.2.1 As Z (fun r1 Z1 => r1 = r ∧ Z1 = Z')) (ho : am_ops y pc = some o) (hstk : stk = As.reverse ++ rest) (hsum : Nat.ble (rest.map fun v => v.category).sum 8 = true) (hc : zr_cal o As = true)
    (kk : rz fm sx d y (pc + 3) loc (r.toList ++ rest) Z' pcT locT stkT ZT) : rz fm sx d y pc loc stk Z pcT locT stkT ZT :=
  rz_steps (pc' := pc + 3) (loc' := loc) (stk' := r.toList ++ rest) (Z' := Z') (fun h B hP k z => by
    obtain ⟨r1, h', mc, ms, Z1, B', a1, a2, a3, a4, a5, a6⟩ := hl h B hP
    obtain ⟨c1, c2, c3⟩ := zr_cal_ok hP hc
    subst a5 a6
    exact ⟨1, h', mc, ms, B', ⟨_, Or.inr (Or.inl ⟨o, As, rest, _, h', mc, ms, ho, hstk, Nat.le_of_ble_eq_true hsum, c1, c2, c3, a1, rfl⟩), rfl⟩, a2, a3, a4⟩) kk
/-- a branch whose way is known -/
theorem rz_jmp {c : Prop} [dc : Decidable c] {t1 t2 t : Nat} {loc' : am_L} {stk' : List Value} (hr : ∀ h k z, am_run fm y 1 (pc, loc, stk, h, k, z) = some (@ite Nat c dc t1 t2, loc', stk', h, k, z)) (ht : @ite Nat c dc t1 t2 = t) (kk : rz fm sx d y t loc' stk' Z pcT locT stkT ZT) : rz fm sx d y pc loc stk Z pcT locT stkT ZT :=
  rz_run 1 (fun h k z => by rw [hr h k z, ht]) kk
end Rz
section RzThrows
variable {fm : Value} {sx : Nat × (Nat → Int32)} {d : Nat} {Z : zr_Z}
theorem x_12a (hf : f_19 Z = false) : rz fm sx (d + 10) 12 0 [some (.ref 57), none] [] Z 10 [some (.ref 57), none] [] Z := by
  refine rz_run 1 (pc' := 1) (loc' := [some (.ref 57), none]) (stk' := [.ref 57]) (fun _ _ _ => rfl) ?_
  refine rz_get (v := .ref 82) rfl rfl rfl ?_
  refine rz_callf (As := [.ref 82]) (rest := []) (c_19 (d := d + 6)) rfl rfl rfl rfl ?_
  show rz fm sx (d + 10) 12 7 [some (.ref 57), none] [.int (bI (f_19 Z))] Z 10 [some (.ref 57), none] [] Z
  refine rz_jmp (c := ¬ bI (f_19 Z) = 0) (t1 := 20) (t2 := 10) (t := 10) (loc' := [some (.ref 57), none]) (stk' := []) (fun _ _ _ => rfl) (by rw [hf]; rfl) ?_
  exact rz_refl
theorem x_12b (hf : f_19 Z = true) (h20 : (f_20 Z 0 (zs Z 61)).1 = -1) (h21 : (f_21 (f_20 Z 0 (zs Z 61)).2).1 = -1) : rz fm sx (d + 10) 12 0 [some (.ref 57), none] [] Z 54 [some (.ref 57), some (.int (-1))] [] (f_21 (f_20 Z 0 (zs Z 61)).2).2 := by
  refine rz_run 1 (pc' := 1) (loc' := [some (.ref 57), none]) (stk' := [.ref 57]) (fun _ _ _ => rfl) ?_
  refine rz_get (v := .ref 82) rfl rfl rfl ?_
  refine rz_callf (As := [.ref 82]) (rest := []) (c_19 (d := d + 6)) rfl rfl rfl rfl ?_
  show rz fm sx (d + 10) 12 7 [some (.ref 57), none] [.int (bI (f_19 Z))] Z _ _ _ _
  refine rz_jmp (c := ¬ bI (f_19 Z) = 0) (t1 := 20) (t2 := 10) (t := 20) (loc' := [some (.ref 57), none]) (stk' := []) (fun _ _ _ => rfl) (by rw [hf]; rfl) ?_
  refine rz_run 1 (pc' := 21) (loc' := [some (.ref 57), none]) (stk' := [.ref 57]) (fun _ _ _ => rfl) ?_
  refine rz_get (v := .ref 82) rfl rfl rfl ?_
  refine rz_run 2 (pc' := 26) (loc' := [some (.ref 57), none]) (stk' := [.ref 57, .int 0, .ref 82]) (fun _ _ _ => rfl) ?_
  refine rz_get (v := .ref 61) rfl rfl rfl ?_
  refine rz_callf (As := [.ref 61]) (rest := [.int 0, .ref 82]) (c_row_size (id := 61) (by decide) (d := d + 9)) rfl rfl rfl rfl ?_
  show rz fm sx (d + 10) 12 32 [some (.ref 57), none] [.int (zs Z 61), .int 0, .ref 82] Z _ _ _ _
  refine rz_callf (As := [.ref 82, .int 0, .int (zs Z 61)]) (rest := []) (c_20 0 (zs Z 61) (d := d + 6)) rfl rfl rfl rfl ?_
  show rz fm sx (d + 10) 12 35 [some (.ref 57), none] [.int ((f_20 Z 0 (zs Z 61)).1)] ((f_20 Z 0 (zs Z 61)).2) _ _ _ _
  rw [h20]
  refine rz_run 3 (pc' := 38) (loc' := [some (.ref 57), some (.int (-1))]) (stk' := [.int (-1), .int (-1)]) (fun _ _ _ => rfl) ?_
  refine rz_jmp (c := ¬ (-1 : Int32) = (-1)) (t1 := 49) (t2 := 41) (t := 41) (loc' := [some (.ref 57), some (.int (-1))]) (stk' := []) (fun _ _ _ => rfl) rfl ?_
  refine rz_run 1 (pc' := 42) (loc' := [some (.ref 57), some (.int (-1))]) (stk' := [.ref 57]) (fun _ _ _ => rfl) ?_
  refine rz_get (v := .ref 82) rfl rfl rfl ?_
  refine rz_callf (As := [.ref 82]) (rest := []) (c_21 (d := d + 7)) rfl rfl rfl rfl ?_
  show rz fm sx (d + 10) 12 48 [some (.ref 57), some (.int (-1))] [.int ((f_21 ((f_20 Z 0 (zs Z 61)).2)).1)] ((f_21 ((f_20 Z 0 (zs Z 61)).2)).2) _ _ _ _
  rw [h21]
  refine rz_run 3 (pc' := 51) (loc' := [some (.ref 57), some (.int (-1))]) (stk' := [.int (-1), .int (-1)]) (fun _ _ _ => rfl) ?_
  refine rz_jmp (c := ¬ (-1 : Int32) = (-1)) (t1 := 64) (t2 := 54) (t := 54) (loc' := [some (.ref 57), some (.int (-1))]) (stk' := []) (fun _ _ _ => rfl) rfl ?_
  exact rz_refl
theorem x_3 {k : Int32} (hf : f_45 Z k = false) : rz fm sx (d + 10) 3 0 [some (.ref 57), some (.int k)] [] Z 11 [some (.ref 57), some (.int k)] [] Z := by
  refine rz_run 1 (pc' := 1) (loc' := [some (.ref 57), some (.int k)]) (stk' := [.ref 57]) (fun _ _ _ => rfl) ?_
  refine rz_get (v := .ref 114) rfl rfl rfl ?_
  refine rz_run 1 (pc' := 5) (loc' := [some (.ref 57), some (.int k)]) (stk' := [.int k, .ref 114]) (fun _ _ _ => rfl) ?_
  refine rz_callf (As := [.ref 114, .int k]) (rest := []) (c_45 k (d := d + 7)) rfl rfl rfl rfl ?_
  show rz fm sx (d + 10) 3 8 [some (.ref 57), some (.int k)] [.int (bI (f_45 Z k))] Z _ _ _ _
  refine rz_jmp (c := ¬ bI (f_45 Z k) = 0) (t1 := 21) (t2 := 11) (t := 11) (loc' := [some (.ref 57), some (.int k)]) (stk' := []) (fun _ _ _ => rfl) (by rw [hf]; rfl) ?_
  exact rz_refl
theorem x_4 (hf : f_44 Z = -1) : rz fm sx (d + 10) 4 0 [some (.ref 57)] [] Z 11 [some (.ref 57)] [] Z := by
  refine rz_run 1 (pc' := 1) (loc' := [some (.ref 57)]) (stk' := [.ref 57]) (fun _ _ _ => rfl) ?_
  refine rz_get (v := .ref 114) rfl rfl rfl ?_
  refine rz_callf (As := [.ref 114]) (rest := []) (c_44 (d := d + 8)) rfl rfl rfl rfl ?_
  show rz fm sx (d + 10) 4 7 [some (.ref 57)] [.int (f_44 Z)] Z _ _ _ _
  rw [hf]
  refine rz_run 1 (pc' := 8) (loc' := [some (.ref 57)]) (stk' := [.int (-1), .int (-1)]) (fun _ _ _ => rfl) ?_
  refine rz_jmp (c := ¬ (-1 : Int32) = (-1)) (t1 := 21) (t2 := 11) (t := 11) (loc' := [some (.ref 57)]) (stk' := []) (fun _ _ _ => rfl) rfl ?_
  exact rz_refl
theorem x_14 {Z' : zr_Z} (hu : fm = .null ∨ ∃ q, fm = .ref q) (hq : q_14 Z = some Z') : rz fm sx (d + 10) 14 0 [some (.ref 57)] [] Z 54 [some (.ref 57)] [] Z' := by
  unfold q_14 at hq
  obtain ⟨u1, hu1, hq⟩ := Option.bind_eq_some_iff.mp hq
  refine rz_run 1 (pc' := 1) (loc' := [some (.ref 57)]) (stk' := [.ref 57]) (fun _ _ _ => rfl) ?_
  refine rz_get (v := .ref 89) rfl rfl rfl ?_
  refine rz_callf (As := [.ref 89]) (rest := []) (c_54 hu hu1 (d := d + 2)) rfl rfl rfl rfl ?_
  show rz fm sx (d + 10) 14 7 [some (.ref 57)] [] u1 _ _ _ _
  refine rz_run 2 (pc' := 9) (loc' := [some (.ref 57)]) (stk' := [.ref 57, .ref 57]) (fun _ _ _ => rfl) ?_
  refine rz_get (v := .ref 89) rfl rfl rfl ?_
  refine rz_get (v := .int (zc u1 2)) rfl rfl rfl ?_
  refine rz_put (j := 4) rfl rfl rfl rfl (zr_obup4 _ _) ?_
  show rz fm sx (d + 10) 14 18 [some (.ref 57)] [] (zsc u1 4 (zc u1 2)) _ _ _ _
  refine rz_run 1 (pc' := 19) (loc' := [some (.ref 57)]) (stk' := [.ref 57]) (fun _ _ _ => rfl) ?_
  refine rz_get (v := .int (zc (zsc u1 4 (zc u1 2)) 4)) rfl rfl rfl ?_
  by_cases hc : zc u1 2 = 0
  · rw [if_neg (fun hh => hh hc)] at hq
    obtain ⟨u4, hu4, hq⟩ := Option.bind_eq_some_iff.mp hq
    refine rz_jmp (c := ¬ (zc (zsc u1 4 (zc u1 2)) 4) = 0) (t1 := 40) (t2 := 25) (t := 25) (loc' := [some (.ref 57)]) (stk' := []) (fun _ _ _ => rfl) (if_neg (fun hh => hh (by rw [zc_same]; exact hc))) ?_
    refine rz_run 1 (pc' := 26) (loc' := [some (.ref 57)]) (stk' := [.ref 57]) (fun _ _ _ => rfl) ?_
    refine rz_get (v := .ref 114) rfl rfl rfl ?_
    refine rz_callf (As := [.ref 114]) (rest := []) (c_46 hu hu4 (d := d + 0)) rfl rfl rfl rfl ?_
    show rz fm sx (d + 10) 14 32 [some (.ref 57)] [.int (bI u4.1)] u4.2 _ _ _ _
    by_cases hb : u4.1 = true
    · rw [if_pos hb] at hq; cases hq
    · rw [if_neg hb] at hq
      cases hq
      have hb' : u4.1 = false := by cases hh : u4.1 with
        | false => rfl
        | true => exact absurd hh hb
      refine rz_jmp (c := ¬ bI u4.1 = 0) (t1 := 40) (t2 := 35) (t := 35) (loc' := [some (.ref 57)]) (stk' := []) (fun _ _ _ => rfl) (by rw [hb']; rfl) ?_
      refine rz_run 2 (pc' := 37) (loc' := [some (.ref 57)]) (stk' := [.int 3, .ref 57]) (fun _ _ _ => rfl) ?_
      refine rz_put (j := 4) rfl rfl rfl rfl (zr_obup4 _ _) ?_
      show rz fm sx (d + 10) 14 40 [some (.ref 57)] [] (zsc u4.2 4 3) _ _ _ _
      refine rz_run 1 (pc' := 41) (loc' := [some (.ref 57)]) (stk' := [.ref 57]) (fun _ _ _ => rfl) ?_
      refine rz_get (v := .int 3) rfl rfl rfl ?_
      refine rz_jmp (c := (3 : Int32) = 0) (t1 := 64) (t2 := 47) (t := 47) (loc' := [some (.ref 57)]) (stk' := []) (fun _ _ _ => rfl) rfl ?_
      refine rz_run 1 (pc' := 48) (loc' := [some (.ref 57)]) (stk' := [.ref 57]) (fun _ _ _ => rfl) ?_
      refine rz_get (v := .ref 114) rfl rfl rfl ?_
      refine rz_callf (As := [.ref 114]) (rest := []) (c_43 (d := d + 8)) rfl rfl rfl rfl ?_
      exact rz_refl
  · rw [if_pos hc] at hq
    cases hq
    have hc' : ¬ zc (zsc u1 4 (zc u1 2)) 4 = 0 := by rw [zc_same]; exact hc
    refine rz_jmp (c := ¬ (zc (zsc u1 4 (zc u1 2)) 4) = 0) (t1 := 40) (t2 := 25) (t := 40) (loc' := [some (.ref 57)]) (stk' := []) (fun _ _ _ => rfl) (if_pos hc') ?_
    refine rz_run 1 (pc' := 41) (loc' := [some (.ref 57)]) (stk' := [.ref 57]) (fun _ _ _ => rfl) ?_
    refine rz_get (v := .int (zc (zsc u1 4 (zc u1 2)) 4)) rfl rfl rfl ?_
    refine rz_jmp (c := (zc (zsc u1 4 (zc u1 2)) 4) = 0) (t1 := 64) (t2 := 47) (t := 47) (loc' := [some (.ref 57)]) (stk' := []) (fun _ _ _ => rfl) (if_neg hc') ?_
    refine rz_run 1 (pc' := 48) (loc' := [some (.ref 57)]) (stk' := [.ref 57]) (fun _ _ _ => rfl) ?_
    refine rz_get (v := .ref 114) rfl rfl rfl ?_
    refine rz_callf (As := [.ref 114]) (rest := []) (c_43 (d := d + 8)) rfl rfl rfl rfl ?_
    exact rz_refl
end RzThrows
