/-! THE LAW, 2: a calculus for its walk -/
section La2
variable {p : Program} {l : Launch} {e : Env} {s : State} {m : MethodId} {args : Array Value} {below : List Frame} {meth : Method} {c : Code} {Q : State → Prop}
variable {D : va_G} {dA : Nat → ClassId} {b : Nat} {ext : Nat → Nat} {fm : Value} {sx : Nat × (Nat → Int32)} {pc X : Nat} {loc : am_L} {stk rest : List Value} {Z Z' : zr_Z}
/-- the law comes to its end from here, X throws may still come -/
def LW (p : Program) (l : Launch) (e : Env) (s : State) (m : MethodId) (args : Array Value) (below : List Frame) (meth : Method) (c : Code) (Q : State → Prop) (D : va_G) (dA : Nat → ClassId) (b : Nat) (ext : Nat → Nat) (sx : Nat × (Nat → Int32)) (pc : Nat) (loc : am_L) (stk : List Value) (Z : zr_Z) (X : Nat) : Prop :=
  ∀ B h k z, zr_P sx Z B h → k + B + X ≤ 601024 → z + 2 * B + 6 * X ≤ 7293034 → ∀ (H : Heap) (locs : List Loc) (ls : Array Slot), xm_P D am_cls dA b am_X ext h H → va_S (fun q => b ≤ q) s.heap H locs → am_lc b am_X ext ls 7 loc → W p l e room_1 s m args below meth c H locs k z Q (F0 m pc ls (stk.map (am_vl b am_X ext)))
/-- what holds of the law all the while -/
def LC (p : Program) (l : Launch) (s : State) (m : MethodId) (args : Array Value) (c : Code) (D : va_G) (dA : Nat → ClassId) (b : Nat) (ext : Nat → Nat) (fm : Value) : Prop :=
  CallFix p m c (am_Mt 0).2.1 7 s args am_tb "MarkInlinesLaw" ∧ xm_K D am_cls dA b am_X ext (am_st fm) am_S am_str am_nst s ∧ TH b s ∧ l.flags = pinnedFlags ++ [noTraceFlag] ∧ (fm = .null ∨ ∃ q, fm = .ref q)
theorem LW_mono {X' : Nat} (h : X ≤ X') (k : LW p l e s m args below meth c Q D dA b ext sx pc loc stk Z X) : LW p l e s m args below meth c Q D dA b ext sx pc loc stk Z X' :=
  fun B h0 k0 z hP h1 h2 => k B h0 k0 z hP (by omega) (by omega)
theorem LW_rz (hc : LC p l s m args c D dA b ext fm) {pc' : Nat} {loc' : am_L} {stk' : List Value} (hr : rz fm sx 30 0 pc loc stk Z pc' loc' stk' Z') (kk : LW p l e s m args below meth c Q D dA b ext sx pc' loc' stk' Z' X) : LW p l e s m args below meth c Q D dA b ext sx pc loc stk Z X := by
  intro B h k z hP h1 h2 H locs ls hPm hS hl
  obtain ⟨n, h', mc, ms, B', hN, hP', hB1, hB2⟩ := hr h B hP k z
  refine xm_W_N (y := 0) (nL := 7) (C := am_R fm 30) (d := 30) (Nat.zero_le _) hc.1 (fun q => by cases q) hc.2.1 (fun y' As h r h' mc ms hy' hr' => xm_sound l D dA b ext fm 30 y' As h r h' mc ms hy' hr') (by decide) (by decide) n (pc, loc, stk, h, k, z) (pc', loc', stk', h', k + mc, z + ms) hN (show k + mc ≤ 601024 by omega) (show z + ms ≤ 7293034 by omega) ?_ H locs ls hPm hS hl
  intro H1 locs1 ls1 hPm1 hS1 hl1
  exact kk B' h' (k + mc) (z + ms) hP' (by omega) (by omega) H1 locs1 ls1 hPm1 hS1 hl1
/-- what a helper's words say -/
def HOK (y : Nat) (hs : List (Nat × Nat × Nat × Nat)) (i np : Nat) : Prop := Cond.methodLink "MarkInlinesLaw" i (am_Mt y).1 ∈ am_tb ∧ Cond.static (am_Mt y).1 ∈ am_tb ∧ Cond.initialized (am_Mt y).1.cls ∈ am_tb ∧ Cond.codeWith (am_Mt y).1 (am_Mt y).2.1 (am_Mt y).2.2.1 (am_Mt y).2.2.2.1 hs ∈ am_tb ∧
  ((am_Mt y).1.cls ≠ "java/lang/invoke/MethodHandle" ∧ (am_Mt y).1.cls ≠ "java/lang/invoke/VarHandle") ∧ (parseMethodDescriptor (am_Mt y).1.desc).map (fun d => d.parameters.length) = some np ∧ (am_Mt y).2.2.1 ≤ 20 ∧ y ≤ 212 ∧ am_in y = false ∧ plainName (am_Mt y).1.cls = true ∧ (am_Mt y).2.2.2.1 = some .int ∧ (am_Mt y).1.cls = "MarkInlinesLaw"
theorem hok_202 : HOK 202 [(0, 8, 11, 13), (0, 8, 14, 15)] 46 2 := by
  refine ⟨?_, ?_, ?_, ?_, ⟨?_, ?_⟩, ?_, ?_, ?_, rfl, ?_, rfl, rfl⟩ <;> decide +kernel
theorem hok_203 : HOK 203 [(0, 8, 11, 13)] 59 2 := by
  refine ⟨?_, ?_, ?_, ?_, ⟨?_, ?_⟩, ?_, ?_, ?_, rfl, ?_, rfl, rfl⟩ <;> decide +kernel
theorem hok_204 : HOK 204 [(0, 9, 12, 24)] 76 3 := by
  refine ⟨?_, ?_, ?_, ?_, ⟨?_, ?_⟩, ?_, ?_, ?_, rfl, ?_, rfl, rfl⟩ <;> decide +kernel
theorem hok_205 : HOK 205 [(0, 8, 11, 15)] 80 2 := by
  refine ⟨?_, ?_, ?_, ?_, ⟨?_, ?_⟩, ?_, ?_, ?_, rfl, ?_, rfl, rfl⟩ <;> decide +kernel
/-- a helper is called, and its call returns -/
theorem LW_ret (hc : LC p l s m args c D dA b ext fm) {y i np pcR : Nat} {hs : List (Nat × Nat × Nat × Nat)} {As : List Value} {locR : am_L} {r : Int32} (hk : HOK y hs i np) (hnp : As.length = np) (hd : decode (am_Mt 0).2.1 pc = .ok (.invokestatic i, 3)) (hlen : (am_fl As).length ≤ (am_Mt y).2.2.1) (hsum : Nat.ble (rest.map fun v => v.category).sum 8 = true)
    (hr : rz fm sx 28 y 0 (am_ent (am_Mt y).2.2.1 As) [] Z pcR locR [.int r] Z') (ho : decode (am_Mt y).2.1 pcR = .ok (.ireturn, 1)) (kk : LW p l e s m args below meth c Q D dA b ext sx (pc + 3) loc (.int r :: rest) Z' X) : LW p l e s m args below meth c Q D dA b ext sx pc loc (As.reverse ++ rest) Z X := by
  intro B h k z hP h1 h2 H locs ls hPm hS hl
  obtain ⟨a1, a2, a3, a4, a5, a6, a7, a8, a9, a10, a11, a12⟩ := hk
  obtain ⟨n, h', mc, ms, B', hN, hP', hB1, hB2⟩ := hr h B hP 0 0
  rw [Nat.zero_add, Nat.zero_add] at hN
  have hM := hm_ret (l := l) (D := D) (dA := dA) (b := b) (ext := ext) (hs := hs) a8 a9 a10 hlen a11 (o1 := 0) (o2 := 0) (u := .null) hN ho
  refine W_help (d := 29) (y := y) (i := i) (hs := hs) (fm := fm) hc.1 hc.2.1 hc.2.2.1 hd a1 a2 a3 a4 a5 (by rw [hnp]; exact a6) a7 hM (by decide) (by decide) (show k + mc ≤ 601024 by omega) (show z + ms ≤ 7293034 by omega) (Nat.le_of_ble_eq_true hsum) hPm hS hl.2.1 ?_
  intro H1 locs1 hPm1 hS1
  exact kk B' h' (k + mc) (z + ms) hP' (by omega) (by omega) H1 locs1 ls hPm1 hS1 hl
theorem zr_P_more {B : Nat} {h : am_H} (hP : zr_P sx Z B h) : zr_P sx Z B (h.1, h.2 + 1) := by
  obtain ⟨ga, gn, gf, g1, g2, g3, g4, g5, g6, g7, g8, g9⟩ := hP
  refine ⟨ga, gn, gf, g1, fun id hid => ?_, g3, g4, g5, g6, g7, Nat.le_trans g8 (Nat.le_succ _), g9⟩
  obtain ⟨r1, r2, r3, r4, r5, r6⟩ := g2 id hid
  exact ⟨r1, r2, r3, r4, Nat.lt_succ_of_lt r5, r6⟩
theorem rcv_57 {B y : Nat} {h : am_H} {As' : List Value} (hP : zr_P sx Z B h) (hcls : (am_Mt y).1.cls = "MarkInlines") : am_rcv h (am_Mt y) (.ref 57 :: As') = true := by
  obtain ⟨ga, gn, gf, g1, -⟩ := hP
  have he := g1 57 _ rfl
  unfold am_rcv
  dsimp only
  rw [he]
  dsimp only
  rw [show am_cls[0]? = some ("MarkInlines", am_T0, 7) from rfl]
  dsimp only
  rw [hcls]; decide
/-- what a throwing method's words and code say -/
def TOK (y' pcT ix it ic t : Nat) (tx X : String) (np : Nat) : Prop := am_isM y' = true ∧ (am_Mt y').1.cls = "MarkInlines" ∧ decode (am_Mt y').2.1 pcT = .ok (.new ix, 3) ∧ decode (am_Mt y').2.1 (pcT + 3) = .ok (.dup, 1) ∧ decode (am_Mt y').2.1 (pcT + 4) = .ok (.ldc it, 2) ∧ decode (am_Mt y').2.1 (pcT + 6) = .ok (.invokespecial ic, 3) ∧ decode (am_Mt y').2.1 (pcT + 9) = .ok (.athrow, 1) ∧
  thOk ic X = true ∧ X ∈ [thA, thI, thB] ∧ Bundle.fit X = true ∧ Cond.classLink "MarkInlines" ix X ∈ am_tb ∧ Cond.instantiable X 6 ∈ am_tb ∧ Cond.initialized X ∈ am_tb ∧ ("MarkInlines", it, tx, t) ∈ am_str ∧ am_mright (am_Mt y') np ∧ (am_Mt y').2.2.2.2 = false ∧ (am_Mt y').1.name ≠ "<init>"
set_option maxHeartbeats 4000000 in
/-- a helper is called, and its call throws -/
theorem LW_thr (hc : LC p l s m args c D dA b ext fm) {y i np n pcC pcT y' ix it ic t ii n2 pc2 : Nat} {tx Xn : String} {hs : List (Nat × Nat × Nat × Nat)} {As As' rst : List Value} {locC locT : am_L} {loc2 : Nat → am_L} {r : Int32} {pre rs : List ExceptionTableEntry} {x : ExceptionTableEntry} (hk : HOK y hs i np) (hnp : As.length = np) (hd : decode (am_Mt 0).2.1 pc = .ok (.invokestatic i, 3)) (hlen : (am_fl As).length ≤ (am_Mt y).2.2.1) (hsum : Nat.ble (rest.map fun v => v.category).sum 8 = true)
    (ht : TOK y' pcT ix it ic t tx Xn As'.length) (hlen' : (am_fl (.ref 57 :: As')).length ≤ (am_Mt y').2.2.1)
    (hrC : ∀ h, am_run fm y n (0, am_ent (am_Mt y).2.2.1 As, [], h, 0, 0) = some (pcC, locC, (Value.ref 57 :: As').reverse ++ rst, h, 0, 0)) (hdC : decode (am_Mt y).2.1 pcC = .ok (.invokevirtual ii, 3)) (hlkC : Cond.methodLink "MarkInlinesLaw" ii (am_Mt y').1 ∈ am_tb) (hsumC : (rst.map fun v => v.category).sum ≤ 8)
    (hr : rz fm sx 26 y' 0 (am_ent (am_Mt y').2.2.1 (.ref 57 :: As')) [] Z pcT locT [] Z')
    (htab : tableOf hs = pre ++ x :: rs) (hpass : pre = [] ∨ (Xn = thI ∧ ∃ q, pre = [q] ∧ q.catchType ≠ 0 ∧ Cond.classLink "MarkInlinesLaw" q.catchType thA ∈ am_tb)) (hcov : covers x pcC = true) (h0 : x.catchType ≠ 0) (hcl : Cond.classLink "MarkInlinesLaw" x.catchType Xn ∈ am_tb)
    (hr2 : ∀ a h k z, am_run fm y n2 (x.handlerPc, locC, [.ref a], h, k, z) = some (pc2, loc2 a, [.int r], h, k, z)) (ho2 : decode (am_Mt y).2.1 pc2 = .ok (.ireturn, 1))
    (kk : LW p l e s m args below meth c Q D dA b ext sx (pc + 3) loc (.int r :: rest) Z' X) : LW p l e s m args below meth c Q D dA b ext sx pc loc (As.reverse ++ rest) Z (X + 1) := by
  intro B h k z hP h1 h2 H locs ls hPm hS hl
  obtain ⟨a1, a2, a3, a4, a5, a6, a7, a8, a9, a10, a11, a12⟩ := hk
  obtain ⟨t1, t2, t3, t4, t5, t6, t7, t8, t9, t10, t11, t12, t13, t14, t15, t16, t17⟩ := ht
  obtain ⟨nT, h', mc, ms, B', hN, hP', hB1, hB2⟩ := hr h B hP 0 0
  rw [Nat.zero_add, Nat.zero_add] at hN
  have hT := th_met (l := l) (D := D) (dA := dA) (b := b) (ext := ext) (d := 26) hc.2.2.2.1 t1 t2 hlen' hN t3 t4 t5 t6 t7 t8 t9 t10 t11 t12 t13 t14 (by decide)
  have hM := hm_thr (l := l) (D := D) (dA := dA) (b := b) (ext := ext) (d := 26) (hs := hs) (r := r) (loc2 := loc2 h'.2) a8 a9 a10 a12 hlen a11 t9 (am_run_N n (hrC h)) hdC hlkC t15 t16 t17 rfl (rcv_57 hP t2) hsumC hT htab hpass hcov h0 hcl (fun k z => hr2 h'.2 _ k z) ho2
  refine W_help (d := 28) (y := y) (i := i) (hs := hs) (fm := fm) hc.1 hc.2.1 hc.2.2.1 hd a1 a2 a3 a4 a5 (by rw [hnp]; exact a6) a7 hM (by decide) (by decide) (show k + (mc + 1) ≤ 601024 by omega) (show z + (ms + 6) ≤ 7293034 by omega) (Nat.le_of_ble_eq_true hsum) hPm hS hl.2.1 ?_
  intro H1 locs1 hPm1 hS1
  exact kk B' (h'.1, h'.2 + 1) (k + (mc + 1)) (z + (ms + 6)) (zr_P_more hP') (by omega) (by omega) H1 locs1 ls hPm1 hS1 hl
end La2
