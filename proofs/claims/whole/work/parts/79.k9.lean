/-! THROWS, 4: a method that throws: its contract -/
section Th4
variable {l : Launch} {D : va_G} {dA : Nat → ClassId} {b : Nat} {ext : Nat → Nat} {fm : Value}
def am_PcT (D : va_G) (dA : Nat → ClassId) (b : Nat) (ext : Nat → Nat) (fm : Value) (As : List Value) (h : am_H) : Array Value → State → Prop := fun a U => xm_Pc D dA b ext fm As h a U ∧ TH b U
def am_QT (D : va_G) (dA : Nat → ClassId) (b : Nat) (ext : Nat → Nat) (h1 : am_H) (X : String) (mc ms : Nat) : Array Value → State → Outcome → State → Prop := fun _ st o t =>
  o = .threw (am_ad b am_X ext h1.2) ∧ xm_P D am_cls dA b am_X ext (h1.1, h1.2 + 1) t.heap ∧ va_F (fun q => b ≤ q) st t ∧ (∃ ce, t.heap[am_ad b am_X ext h1.2]? = some ce ∧ st.vm.findClass X = some ce.cls ∧ ce.vm = .none) ∧ ∃ L, FrameEndT st o t L mc ms ∧ ∀ q ∈ L, b ≤ q.base
theorem am_blindT {As : List Value} {h : am_H} : FrameBlind (am_PcT D dA b ext fm As h) := by
  intro a U g mk q
  exact ⟨xm_blind a U g mk q.1, q.2.to (State.WarmedH.refl U) (fun _ _ => rfl)⟩
set_option maxHeartbeats 4000000 in
theorem th_met (hfl : l.flags = pinnedFlags ++ [noTraceFlag]) {y n pc d k z : Nat} {As : List Value} {h h1 : am_H} {loc : am_L} {X tx : String} {ix ic it t : Nat} (hy : am_isM y = true) (hcls : (am_Mt y).1.cls = "MarkInlines") (hlen : (am_fl As).length ≤ (am_Mt y).2.2.1)
    (hN : am_N fm (am_R fm d) y n (0, am_ent (am_Mt y).2.2.1 As, [], h, 0, 0) (pc, loc, [], h1, k, z))
    (hd0 : decode (am_Mt y).2.1 pc = .ok (.new ix, 3)) (hd3 : decode (am_Mt y).2.1 (pc + 3) = .ok (.dup, 1)) (hd4 : decode (am_Mt y).2.1 (pc + 4) = .ok (.ldc it, 2)) (hd6 : decode (am_Mt y).2.1 (pc + 6) = .ok (.invokespecial ic, 3)) (hd9 : decode (am_Mt y).2.1 (pc + 9) = .ok (.athrow, 1))
    (hok : thOk ic X = true) (hX : X ∈ [thA, thI, thB]) (hfit : Bundle.fit X = true) (hcl : Cond.classLink "MarkInlines" ix X ∈ am_tb) (hin : Cond.instantiable X 6 ∈ am_tb) (hini : Cond.initialized X ∈ am_tb) (hst : ("MarkInlines", it, tx, t) ∈ am_str) (hd : 8 ≤ d) :
    MetFree l (am_Mt y).1 (headSpec (am_ws (am_Mt y)) (am_rm (d + 1) (k + 1) (z + 6))) (am_PcT D dA b ext fm As h) (fun _ _ _ _ _ => True) (am_QT D dA b ext h1 X (k + 1) (z + 6)) := by
  have hmr := am_m_ok y hy
  refine MetFree.of_bodyS (code := (am_Mt y).2.1) (maxLocals := (am_Mt y).2.2.1) (ret := (am_Mt y).2.2.2.1) hmr.1 ?_ ?_
  · intro args s m hp hn
    obtain ⟨meth, c, h1, h2, h3, h4, h5, h6, -, -⟩ := Cond.code_spec hn (atoms_spec (ws := am_ws (am_Mt y)) hp _ List.mem_cons_self)
    exact ⟨meth, c, h1, h2, h3, h4, h5, h6⟩
  · intro p e s m args below meth c s₁ B hml hv _
    obtain ⟨⟨rfl, hP, hK⟩, hTH⟩ := hv
    have hts0 := atoms_spec (ws := am_ws (am_Mt y)) B.pre
    have hts : ∀ w ∈ am_tb, w.before (As.map (am_vl b am_X ext)).toArray s = true := fun w hw => hts0 w (List.mem_cons_of_mem _ hw)
    have hown : s.vm.findClass (am_Mt y).1.cls = some m.cls := findClass_of_methodNamed B.named
    have hnm : meth.name = (am_Mt y).1.name := (name_of_methodNamed B.named B.method).1
    have hX0 := Stand.of_body B
    have htr : e.platform.stackTraces = false := Launch.traces_off hfl hX0.admits
    have hno : c.exceptionTable.isEmpty = true := B.noHandlers (hts0 _ List.mem_cons_self)
    have hl := lv_entry (As.map (am_vl b am_X ext)) (n := (am_Mt y).2.2.1) (by rw [am_sl_len]; exact hlen)
    have key : W p l e (am_rm (d + 1) (k + 1) (z + 6)) s m (As.map (am_vl b am_X ext)).toArray below meth c s.heap [] 0 0 (fun U => ∃ locs, ThQ s below D dA b ext h1 X locs k z U ∧ ∀ q ∈ locs, b ≤ q.base) (entryFrame m (As.map (am_vl b am_X ext)).toArray (am_Mt y).2.2.1) := by
      rw [lg_entry_eq]
      generalize (lg_sl (As.map (am_vl b am_X ext)) ++ List.replicate ((am_Mt y).2.2.1 - (lg_sl (As.map (am_vl b am_X ext))).length) Slot.unset).toArray = ls at hl ⊢
      refine xm_W_N (nL := (am_Mt y).2.2.1) (C := am_R fm d) (d := d) (am_isM_le hy) ⟨B.exec, B.bytes, hml, hown, hts⟩ (fun q => hnm.trans (am_in_ok y (am_isM_le hy) q)) hK (fun y' As h r h' mc ms hy' hr' => xm_sound l D dA b ext fm d y' As h r h' mc ms hy' hr') (Nat.le_refl _) (by show 40 + 40 * d ≤ 40 * (d + 1); omega) n _ (pc, loc, [], h1, k, z) hN (show k ≤ k + 1 by omega) (show z ≤ z + 6 by omega) ?_ s.heap [] ls hP va_S.rf (am_lc_ent hlen hl)
      intro H locs ls hP1 hS hl1 T hT X1
      obtain ⟨t1, a1, b1⟩ := th_own (fm := fm) (l := l) (R := am_rm (d + 1) (k + 1) (z + 6)) htr ⟨B.exec, B.bytes, hml, by rw [← hcls]; exact hown, hts⟩ hK hTH hno B.notSynchronized hd0 hd3 hd4 hd6 hd9 hok hX hfit hcl hin hini hst (show 8 ≤ d + 1 by omega) (show 200 ≤ 40 * (d + 1) by omega) (Nat.le_refl _) (Nat.le_refl _) hP1 hS hl1.2.1 T hT X1
      exact ⟨t1, a1, locs, b1, hS.2.2⟩
    have hh0 : s₁.heap = s.heap := by rw [B.state]; rfl
    obtain ⟨U, a1, locs, ⟨q1, q2, q3, q4, q5, q6, q7⟩, q8⟩ := key s₁ hh0 hX0
    exact ⟨U, _, a1, q1, q2, rfl, q5, q6, q7, locs, ⟨⟨_, rfl⟩, q3, q4⟩, q8⟩
end Th4
