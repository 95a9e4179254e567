/-! A CALCULUS over the plain state: zw a frame comes to its end with Q; zl a method called comes to its end with Q -/
def am_run (fm : Value) (y : Nat) : Nat → am_F → Option am_F
  | 0, f => some f
  | n + 1, f => match am_ops y f.1 with
    | some o => match am_stp am_X (am_st fm) am_ty am_fs o f.1 f.2.1 f.2.2.1 f.2.2.2.1 f.2.2.2.2.1 f.2.2.2.2.2 with
      | some g => am_run fm y n g
      | none => none
    | none => none
theorem am_run_N {fm : Value} {C : am_CR} {y : Nat} : ∀ (n : Nat) {f g : am_F}, am_run fm y n f = some g → am_N fm C y n f g
  | 0, f, g, h => by cases h; rfl
  | n + 1, f, g, h => by
    unfold am_run at h
    split at h
    · rename_i o ho
      split at h
      · rename_i f1 h1
        exact ⟨f1, Or.inl ⟨o, ho, h1⟩, am_run_N n h⟩
      · cases h
    · cases h
theorem am_N_app {fm : Value} {C : am_CR} {y : Nat} : ∀ (n : Nat) {m : Nat} {f g k : am_F}, am_N fm C y n f g → am_N fm C y m g k → am_N fm C y (n + m) f k
  | 0, m, f, g, k, h1, h2 => by cases h1; rw [Nat.zero_add]; exact h2
  | n + 1, m, f, g, k, ⟨f1, h0, h1⟩, h2 => by
    rw [show n + 1 + m = (n + m) + 1 by omega]
    exact ⟨f1, h0, am_N_app n h1 h2⟩
/-- what a frame of method y, called to depth d, comes to -/
def zw (fm : Value) (sx : Nat × (Nat → Int32)) (d y pc : Nat) (loc : am_L) (stk : List Value) (Z : zr_Z) (Q : Option Value → zr_Z → Prop) : Prop :=
  ∀ h B, zr_P sx Z B h → ∀ k z, ∃ n g o r Z' B', am_N fm (am_R fm d) y n (pc, loc, stk, h, k, z) g ∧ am_ops y g.1 = some o ∧ am_ret (am_Mt y).2.2.2.1 o g.2.2.1 r ∧ zr_P sx Z' B' g.2.2.2.1 ∧ g.2.2.2.2.1 + B' ≤ k + B ∧ g.2.2.2.2.2 + 2 * B' ≤ z + 2 * B ∧ Q r Z'
def zl (fm : Value) (sx : Nat × (Nat → Int32)) (d y : Nat) (As : List Value) (Z : zr_Z) (Q : Option Value → zr_Z → Prop) : Prop :=
  ∀ h B, zr_P sx Z B h → ∃ r h' mc ms Z' B', am_R fm d y As h r h' mc ms ∧ zr_P sx Z' B' h' ∧ mc + B' ≤ B ∧ ms + 2 * B' ≤ 2 * B ∧ Q r Z'
section Zw
variable {fm : Value} {sx : Nat × (Nat → Int32)} {d y pc : Nat} {loc : am_L} {stk : List Value} {Z : zr_Z} {Q : Option Value → zr_Z → Prop}
theorem zw_mono {Q' : Option Value → zr_Z → Prop} (h : zw fm sx d y pc loc stk Z Q) (hq : ∀ r Z', Q r Z' → Q' r Z') : zw fm sx d y pc loc stk Z Q' := by
  intro h0 B hP k z
  obtain ⟨n, g, o, r, Z', B', a1, a2, a3, a4, a5, a6, a7⟩ := h h0 B hP k z
  exact ⟨n, g, o, r, Z', B', a1, a2, a3, a4, a5, a6, hq r Z' a7⟩
theorem zl_mono {As : List Value} {Q' : Option Value → zr_Z → Prop} (h : zl fm sx d y As Z Q) (hq : ∀ r Z', Q r Z' → Q' r Z') : zl fm sx d y As Z Q' := by
  intro h0 B hP
  obtain ⟨r, h', mc, ms, Z', B', a1, a2, a3, a4, a5⟩ := h h0 B hP
  exact ⟨r, h', mc, ms, Z', B', a1, a2, a3, a4, hq r Z' a5⟩
/-- any steps to a frame with another state -/
theorem zw_steps {pc' : Nat} {loc' : am_L} {stk' : List Value} {Z' : zr_Z} (hs : ∀ h B, zr_P sx Z B h → ∀ k z, ∃ n h' mc ms B', am_N fm (am_R fm d) y n (pc, loc, stk, h, k, z) (pc', loc', stk', h', k + mc, z + ms) ∧ zr_P sx Z' B' h' ∧ mc + B' ≤ B ∧ ms + 2 * B' ≤ 2 * B)
    (kk : zw fm sx d y pc' loc' stk' Z' Q) : zw fm sx d y pc loc stk Z Q := by
  intro h B hP k z
  obtain ⟨n, h', mc, ms, B', hN, hP', hB1, hB2⟩ := hs h B hP k z
  obtain ⟨n2, g, o, r, Z2, B2, a1, a2, a3, a4, a5, a6, a7⟩ := kk h' B' hP' (k + mc) (z + ms)
  exact ⟨n + n2, g, o, r, Z2, B2, am_N_app n hN a1, a2, a3, a4, by omega, by omega, a7⟩
/-- a stretch of instructions that don't look at the heap -/
theorem zw_run (n : Nat) {pc' : Nat} {loc' : am_L} {stk' : List Value} (hr : ∀ h k z, am_run fm y n (pc, loc, stk, h, k, z) = some (pc', loc', stk', h, k, z)) (kk : zw fm sx d y pc' loc' stk' Z Q) : zw fm sx d y pc loc stk Z Q :=
  zw_steps (fun h B hP k z => ⟨n, h, 0, 0, B, am_run_N n (hr h k z), hP, by omega, by omega⟩) kk
theorem zw_br {c : Prop} [dc : Decidable c] {t1 t2 : Nat} {loc' : am_L} {stk' : List Value} (hr : ∀ h k z, am_run fm y 1 (pc, loc, stk, h, k, z) = some (@ite Nat c dc t1 t2, loc', stk', h, k, z)) (h1 : c → zw fm sx d y t1 loc' stk' Z Q) (h2 : ¬ c → zw fm sx d y t2 loc' stk' Z Q) : zw fm sx d y pc loc stk Z Q := by
  by_cases hc : c
  · exact zw_run 1 (fun h k z => by rw [hr h k z, if_pos hc]) (h1 hc)
  · exact zw_run 1 (fun h k z => by rw [hr h k z, if_neg hc]) (h2 hc)
/-- locals are forgotten -/
def am_msk : List Bool → am_L → am_L
  | true :: m, v :: l => v :: am_msk m l
  | false :: m, _ :: l => none :: am_msk m l
  | [], l => l
  | _, [] => []
theorem am_msk_len : ∀ (m : List Bool) (l : am_L), (am_msk m l).length = l.length
  | [], l => by cases l <;> rfl
  | true :: m, [] => rfl
  | false :: m, [] => rfl
  | true :: m, v :: l => by simp [am_msk, am_msk_len m l]
  | false :: m, v :: l => by simp [am_msk, am_msk_len m l]
theorem am_msk_get : ∀ (m : List Bool) (l : am_L) (i : Nat) (v : Value), am_get (am_msk m l) i = some v → am_get l i = some v
  | [], l, i, v, h => by cases l <;> exact h
  | true :: m, [], i, v, h => h
  | false :: m, [], i, v, h => h
  | true :: m, u :: l, 0, v, h => h
  | true :: m, u :: l, i + 1, v, h => am_msk_get m l i v h
  | false :: m, u :: l, 0, v, h => by cases h
  | false :: m, u :: l, i + 1, v, h => am_msk_get m l i v h
theorem zw_fgt (m : List Bool) {loc' : am_L} (hm : am_msk m loc = loc') (kk : zw fm sx d y pc loc' stk Z Q) : zw fm sx d y pc loc stk Z Q :=
  zw_steps (fun h B hP k z => ⟨1, h, 0, 0, B, ⟨_, Or.inr (Or.inr (Or.inl ⟨loc', by subst hm; exact ⟨am_msk_len m loc, am_msk_get m loc⟩, rfl⟩)), rfl⟩, hP, by omega, by omega⟩) kk
theorem zw_reti {v : Int32} {i : Instr} {n a b : Nat} {u : Value} (ho : am_ops y pc = some (.ireturn, n, a, b, u)) (hr : (am_Mt y).2.2.2.1 = some .int) (hq : Q (some (.int v)) Z) : zw fm sx d y pc loc [.int v] Z Q :=
  fun h B hP k z => ⟨0, _, _, some (.int v), Z, B, rfl, ho, ⟨v, .int, rfl, rfl, hr, rfl⟩, hP, Nat.le_refl _, Nat.le_refl _, hq⟩
theorem zw_retz {v : Int32} {n a b : Nat} {u : Value} (ho : am_ops y pc = some (.ireturn, n, a, b, u)) (hr : (am_Mt y).2.2.2.1 = some .boolean) (hv : v = 0 ∨ v = 1) (hq : Q (some (.int v)) Z) : zw fm sx d y pc loc [.int v] Z Q :=
  fun h B hP k z => ⟨0, _, _, some (.int v), Z, B, rfl, ho, ⟨v, .boolean, rfl, rfl, hr, by rcases hv with rfl | rfl <;> decide⟩, hP, Nat.le_refl _, Nat.le_refl _, hq⟩
theorem zw_retn {v : Int32} {ty : FieldType} {n a b : Nat} {u : Value} (ho : am_ops y pc = some (.ireturn, n, a, b, u)) (hr : (am_Mt y).2.2.2.1 = some ty) (hv : narrow ty (.int v) = .int v) (hq : Q (some (.int v)) Z) : zw fm sx d y pc loc [.int v] Z Q :=
  fun h B hP k z => ⟨0, _, _, some (.int v), Z, B, rfl, ho, ⟨v, ty, rfl, rfl, hr, hv⟩, hP, Nat.le_refl _, Nat.le_refl _, hq⟩
theorem zw_retv {n a b : Nat} {u : Value} (ho : am_ops y pc = some (.return_, n, a, b, u)) (hr : (am_Mt y).2.2.2.1 = none) (hq : Q none Z) : zw fm sx d y pc loc [] Z Q :=
  fun h B hP k z => ⟨0, _, _, none, Z, B, rfl, ho, ⟨rfl, rfl, hr⟩, hP, Nat.le_refl _, Nat.le_refl _, hq⟩
theorem zw_reta {q : Nat} {ty : FieldType} {n a b : Nat} {u : Value} (ho : am_ops y pc = some (.areturn, n, a, b, u)) (hr : (am_Mt y).2.2.2.1 = some ty) (ht : (∃ n, ty = .object n) ∨ ∃ t, ty = .array t) (hq : Q (some (.ref q)) Z) : zw fm sx d y pc loc [.ref q] Z Q :=
  fun h B hP k z => ⟨0, _, _, some (.ref q), Z, B, rfl, ho, ⟨.ref q, ty, rfl, rfl, hr, ht, Or.inr ⟨q, rfl⟩⟩, hP, Nat.le_refl _, Nat.le_refl _, hq⟩
/-- a method out of its body -/
theorem zl_of {As : List Value} {nL : Nat} {loc0 : am_L} (hn : (am_Mt y).2.2.1 = nL) (hl : Nat.ble (am_fl As).length nL = true) (he : am_ent nL As = loc0) (kk : zw fm sx d y 0 loc0 [] Z Q) : zl fm sx (d + 1) y As Z Q := by
  intro h B hP
  obtain ⟨n, g, o, r, Z', B', a1, a2, a3, a4, a5, a6, a7⟩ := kk h B hP 0 0
  subst hn he
  refine ⟨r, g.2.2.2.1, g.2.2.2.2.1, g.2.2.2.2.2, Z', B', ⟨n, g, o, Nat.le_of_ble_eq_true hl, a1, a2, a3, rfl⟩, a4, by omega, by omega, a7⟩
/-- a call may be made -/
def zr_cal (o : am_O) (As : List Value) : Bool := am_isM o.2.2.1 && Nat.beq o.2.2.2.1 (am_np o.2.2.1) && match o.1 with
  | .invokevirtual _ => !(am_Mt o.2.2.1).2.2.2.2 && !am_in o.2.2.1 && Nat.blt (am_mc o.2.2.1) 13 && Nat.beq As.length (o.2.2.2.1 + 1) && match As with
    | .ref id :: _ => match zr_ci id with
      | some ci => Nat.beq ci (am_mc o.2.2.1)
      | none => false
    | _ => false
  | .invokespecial _ => !(am_Mt o.2.2.1).2.2.2.2 && !(Nat.beq o.2.2.1 0) && am_in o.2.2.1 && Nat.beq As.length (o.2.2.2.1 + 1) && (am_Mt o.2.2.1).2.2.2.1.isNone && match As with
    | .ref _ :: _ => true
    | _ => false
  | .invokestatic _ => (am_Mt o.2.2.1).2.2.2.2 && Nat.beq As.length o.2.2.2.1
  | _ => false
theorem zr_cal_ok {B : Nat} {h : am_H} (P : zr_P sx Z B h) {o : am_O} {As : List Value} (hc : zr_cal o As = true) : am_isM o.2.2.1 = true ∧ o.2.2.2.1 = am_np o.2.2.1 ∧ am_call o (am_Mt o.2.2.1) h As = true := by
  obtain ⟨i, len, a, b, v⟩ := o
  unfold zr_cal at hc
  simp only [Bool.and_eq_true] at hc
  obtain ⟨⟨c1, c2⟩, c3⟩ := hc
  have hle := am_isM_le c1
  refine ⟨c1, Nat.eq_of_beq_eq_true c2, ?_⟩
  cases i with
  | invokevirtual j =>
    simp only [Bool.and_eq_true, Bool.not_eq_true'] at c3
    obtain ⟨⟨⟨⟨e1, e2⟩, e3⟩, e4⟩, e5⟩ := c3
    obtain ⟨C, T, N, m1, m2⟩ := am_mc_ok a hle (by have q : am_mc a ≤ 12 := (by simpa [Nat.blt] using e3); omega)
    unfold am_call
    simp only [Bool.and_eq_true, Bool.not_eq_true', decide_eq_true_eq]
    refine ⟨⟨⟨e1, am_in_no a hle e2⟩, ?_⟩, Nat.eq_of_beq_eq_true e4⟩
    split at e5
    · rename_i id r
      split at e5
      · rename_i ci hci
        obtain ⟨fs, hfs⟩ := zr_ci_ok P hci
        have e6 := Nat.eq_of_beq_eq_true e5
        subst e6
        unfold am_rcv
        simp only [hfs, m1]
        exact decide_eq_true m2
      · cases e5
    · cases e5
  | invokespecial j =>
    simp only [Bool.and_eq_true, Bool.not_eq_true'] at c3
    obtain ⟨⟨⟨⟨⟨e1, e2⟩, e3⟩, e4⟩, e5⟩, e6⟩ := c3
    unfold am_call
    simp only [Bool.and_eq_true, Bool.not_eq_true', decide_eq_true_eq]
    refine ⟨⟨⟨⟨⟨e1, fun q => ?_⟩, am_in_ok a hle e3⟩, Option.isNone_iff_eq_none.mp e5⟩, Nat.eq_of_beq_eq_true e4⟩, ?_⟩
    · have q : a = 0 := q
      subst q
      cases e2
    · split at e6
      · rfl
      · cases e6
  | invokestatic j =>
    simp only [Bool.and_eq_true] at c3
    unfold am_call
    simp only [Bool.and_eq_true, decide_eq_true_eq]
    exact ⟨c3.1, Nat.eq_of_beq_eq_true c3.2⟩
  | _ => cases c3
theorem zw_call {o : am_O} {As rest : List Value} (ho : am_ops y pc = some o) (hstk : stk = As.reverse ++ rest) (hsum : Nat.ble (rest.map fun v => v.category).sum 8 = true) (hc : zr_cal o As = true)
    (kk : zl fm sx d o.2.2.1 As Z (fun r Z' => zw fm sx d y (pc + 3) loc (r.toList ++ rest) Z' Q)) : zw fm sx d y pc loc stk Z Q := by
  intro h B hP k z
  obtain ⟨r, h', mc, ms, Z', B', a1, a2, a3, a4, a5⟩ := kk h B hP
  obtain ⟨c1, c2, c3⟩ := zr_cal_ok hP hc
  obtain ⟨n2, g, o2, r2, Z2, B2, b1, b2, b3, b4, b5, b6, b7⟩ := a5 h' B' a2 (k + mc) (z + ms)
  refine ⟨n2 + 1, g, o2, r2, Z2, B2, ⟨(pc + 3, loc, r.toList ++ rest, h', k + mc, z + ms), Or.inr (Or.inl ⟨o, As, rest, r, h', mc, ms, ho, hstk, Nat.le_of_ble_eq_true hsum, c1, c2, c3, a1, rfl⟩), b1⟩, b2, b3, b4, by omega, by omega, b7⟩
/-- a call whose answer and state are known -/
theorem zw_callf {o : am_O} {As rest : List Value} {r : Option Value} {Z' : zr_Z} (hl : zl fm sx d o.2.2.1 As Z (fun r1 Z1 => r1 = r ∧ Z1 = Z')) (ho : am_ops y pc = some o) (hstk : stk = As.reverse ++ rest) (hsum : Nat.ble (rest.map fun v => v.category).sum 8 = true) (hc : zr_cal o As = true)
    (kk : zw fm sx d y (pc + 3) loc (r.toList ++ rest) Z' Q) : zw fm sx d y pc loc stk Z Q :=
  zw_call ho hstk hsum hc (zl_mono hl fun r1 Z1 q => by rw [q.1, q.2]; exact kk)
theorem zw_mm {j : Nat} {i : Nat} {n b : Nat} {u : Value} {a x : Int32} {rest : List Value} (ho : am_ops y pc = some (.invokestatic i, n, j, b, u)) (hj : j = 206 ∨ j = 207) (hsum : Nat.ble (rest.map fun v => v.category).sum 8 = true)
    (kk : zw fm sx d y (pc + 3) loc (.int (if j = 206 then (if x < a then a else x) else (if a < x then a else x)) :: rest) Z Q) : zw fm sx d y pc loc (.int a :: .int x :: rest) Z Q :=
  zw_steps (pc' := pc + 3) (loc' := loc) (stk' := .int (if j = 206 then (if x < a then a else x) else (if a < x then a else x)) :: rest) (fun h B hP k z => ⟨1, h, 0, 0, B, ⟨_, Or.inr (Or.inr (Or.inr (Or.inr ⟨_, i, ho, rfl, hj, x, a, rest, rfl, Nat.le_of_ble_eq_true hsum, rfl⟩))), rfl⟩, hP, by omega, by omega⟩) kk
end Zw
