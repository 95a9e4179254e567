/-! THROWS, 6: the law's helpers -/
section Th6
variable {l : Launch} {D : va_G} {dA : Nat → ClassId} {b : Nat} {ext : Nat → Nat} {fm : Value}
def am_wsH (y : Nat) (hs : List (Nat × Nat × Nat × Nat)) : List Cond := .codeWith (am_Mt y).1 (am_Mt y).2.1 (am_Mt y).2.2.1 (am_Mt y).2.2.2.1 hs :: am_tb
/-- a helper out of its body -/
theorem hm_of {y d mc ms : Nat} {hs : List (Nat × Nat × Nat × Nat)} {As : List Value} {h h' : am_H} {r : Int32} (hpl : plainName (am_Mt y).1.cls = true) (hlen : (am_fl As).length ≤ (am_Mt y).2.2.1)
    (body : ∀ (p : Program) (e : Env) (s : State) (m : MethodId) (below : List Frame) (meth : Method) (c : Code) (ls : Array Slot), l.admits e → CallFix p m c (am_Mt y).2.1 (am_Mt y).2.2.1 s (As.map (am_vl b am_X ext)).toArray am_tb (am_Mt y).1.cls → c.exceptionTable.toList = tableOf hs → meth.sig.returnType = (am_Mt y).2.2.2.1 → meth.locks = false → meth.name = (am_Mt y).1.name →
      xm_K D am_cls dA b am_X ext (am_st fm) am_S am_str am_nst s → TH b s → xm_P D am_cls dA b am_X ext h s.heap → am_lc b am_X ext ls (am_Mt y).2.2.1 (am_ent (am_Mt y).2.2.1 As) →
      W p l e (am_rm (d + 1) mc ms) s m (As.map (am_vl b am_X ext)).toArray below meth c s.heap [] 0 0 (MQ below (xm_Qc D dA b ext (some (.int r)) h') (As.map (am_vl b am_X ext)).toArray s mc ms (fun q => b ≤ q)) (F0 m 0 ls [])) :
    Met l (am_Mt y).1 (am_wsH y hs) (am_rm (d + 1) mc ms) (am_PcT D dA b ext fm As h) (xm_Qc D dA b ext (some (.int r)) h') mc ms (fun q => b ≤ q) := by
  refine MetFree.of_bodyS (code := (am_Mt y).2.1) (maxLocals := (am_Mt y).2.2.1) (ret := (am_Mt y).2.2.2.1) hpl ?_ ?_
  · intro args s m hp hn
    obtain ⟨m', meth, c, hn', h1, h2, h3, h4, -, h5, h6, -⟩ := Cond.codeWith_spec (atoms_spec (ws := am_wsH y hs) hp _ List.mem_cons_self)
    cases hn.symm.trans hn'
    exact ⟨meth, c, h1, h2, h3, h4, h5, h6⟩
  · intro p e s m args below meth c s₁ B hml hv _
    obtain ⟨⟨rfl, hP, hK⟩, hTH⟩ := hv
    have hts0 := atoms_spec (ws := am_wsH y hs) B.pre
    have hts : ∀ w ∈ am_tb, w.before (As.map (am_vl b am_X ext)).toArray s = true := fun w hw => hts0 w (List.mem_cons_of_mem _ hw)
    have hown : s.vm.findClass (am_Mt y).1.cls = some m.cls := findClass_of_methodNamed B.named
    have hnm : meth.name = (am_Mt y).1.name := (name_of_methodNamed B.named B.method).1
    have hX0 := Stand.of_body B
    have htab : c.exceptionTable.toList = tableOf hs := by
      obtain ⟨m', meth', c', hn', h1, h2, -, -, h5, -, -, -⟩ := Cond.codeWith_spec (hts0 _ List.mem_cons_self)
      cases B.named.symm.trans hn'
      cases B.method.symm.trans h1
      cases hX0.code.symm.trans h2
      rw [← h5, table_eq]
    have hl := lv_entry (As.map (am_vl b am_X ext)) (n := (am_Mt y).2.2.1) (by rw [am_sl_len]; exact hlen)
    have key : W p l e (am_rm (d + 1) mc ms) s m (As.map (am_vl b am_X ext)).toArray below meth c s.heap [] 0 0 (MQ below (xm_Qc D dA b ext (some (.int r)) h') (As.map (am_vl b am_X ext)).toArray s mc ms (fun q => b ≤ q)) (entryFrame m (As.map (am_vl b am_X ext)).toArray (am_Mt y).2.2.1) := by
      rw [lg_entry_eq]
      generalize (lg_sl (As.map (am_vl b am_X ext)) ++ List.replicate ((am_Mt y).2.2.1 - (lg_sl (As.map (am_vl b am_X ext))).length) Slot.unset).toArray = ls at hl ⊢
      exact body p e s m below meth c ls hX0.admits ⟨B.exec, B.bytes, hml, hown, hts⟩ htab B.returns B.notSynchronized hnm hK hTH hP (am_lc_ent hlen hl)
    have hh0 : s₁.heap = s.heap := by rw [B.state]; rfl
    obtain ⟨t, a1, o, b1, b2, b3⟩ := key s₁ hh0 hX0
    exact ⟨t, o, a1, b1, b2, b3.1, b3.2⟩
/-- a helper whose call returns -/
theorem hm_ret {y d n pc mc ms : Nat} {hs : List (Nat × Nat × Nat × Nat)} {As : List Value} {h h' : am_H} {r : Int32} {loc : am_L} {o1 o2 : Nat} {u : Value} (hy : y ≤ 212) (hin0 : am_in y = false) (hpl : plainName (am_Mt y).1.cls = true) (hlen : (am_fl As).length ≤ (am_Mt y).2.2.1) (hret : (am_Mt y).2.2.2.1 = some .int)
    (hN : am_N fm (am_R fm d) y n (0, am_ent (am_Mt y).2.2.1 As, [], h, 0, 0) (pc, loc, [.int r], h', mc, ms)) (ho : decode (am_Mt y).2.1 pc = .ok (.ireturn, 1)) :
    Met l (am_Mt y).1 (am_wsH y hs) (am_rm (d + 1) mc ms) (am_PcT D dA b ext fm As h) (xm_Qc D dA b ext (some (.int r)) h') mc ms (fun q => b ≤ q) := by
  refine hm_of hpl hlen fun p e s m below meth c ls ha CF htab hr hlk hnm hK hTH hP hl => ?_
  refine xm_W_N (nL := (am_Mt y).2.2.1) (C := am_R fm d) (d := d) hy CF (fun q => by rw [hin0] at q; cases q) hK (fun y' As h r h' mc ms hy' hr' => xm_sound l D dA b ext fm d y' As h r h' mc ms hy' hr') (Nat.le_refl _) (by show 40 + 40 * d ≤ 40 * (d + 1); omega) n _ (pc, loc, [.int r], h', mc, ms) hN (Nat.le_refl _) (Nat.le_refl _) ?_ s.heap [] ls hP va_S.rf hl
  intro H locs ls' hP1 hS hl1
  exact W.iret CF.1 CF.2.1 (hr.trans hret) (fun t ht _ => ⟨rfl, by rw [ht]; exact hP1, hS.F ht⟩) hS.2.2 ho hlk
set_option maxHeartbeats 4000000 in
/-- a helper whose call throws -/
theorem hm_thr {y y' d n pc mc ms n2 pc2 : Nat} {hs : List (Nat × Nat × Nat × Nat)} {As Ac As' rest : List Value} {h h1 : am_H} {r : Int32} {loc loc2 : am_L} {X : String} {i a : Nat} {pre rs : List ExceptionTableEntry} {x : ExceptionTableEntry} (hy : y ≤ 212) (hin0 : am_in y = false) (hpl : plainName (am_Mt y).1.cls = true) (hcls : (am_Mt y).1.cls = "MarkInlinesLaw") (hlen : (am_fl As).length ≤ (am_Mt y).2.2.1) (hret : (am_Mt y).2.2.2.1 = some .int) (hX : X ∈ [thA, thI, thB])
    (hN : am_N fm (am_R fm (d + 1)) y n (0, am_ent (am_Mt y).2.2.1 As, [], h, 0, 0) (pc, loc, Ac.reverse ++ rest, h, 0, 0))
    (hd : decode (am_Mt y).2.1 pc = .ok (.invokevirtual i, 3)) (hlk : Cond.methodLink "MarkInlinesLaw" i (am_Mt y').1 ∈ am_tb) (hM0 : am_mright (am_Mt y') As'.length) (hns : (am_Mt y').2.2.2.2 = false) (hni : (am_Mt y').1.name ≠ "<init>") (hAc : Ac = .ref a :: As') (hrc : am_rcv h (am_Mt y') Ac = true) (hsum : (rest.map fun v => v.category).sum ≤ 8)
    (hmet : MetFree l (am_Mt y').1 (headSpec (am_ws (am_Mt y')) (am_rm (d + 1) mc ms)) (am_PcT D dA b ext fm Ac h) (fun _ _ _ _ _ => True) (am_QT D dA b ext h1 X mc ms))
    (htab : tableOf hs = pre ++ x :: rs) (hpass : pre = [] ∨ (X = thI ∧ ∃ q, pre = [q] ∧ q.catchType ≠ 0 ∧ Cond.classLink "MarkInlinesLaw" q.catchType thA ∈ am_tb)) (hcov : covers x pc = true) (h0 : x.catchType ≠ 0) (hcl : Cond.classLink "MarkInlinesLaw" x.catchType X ∈ am_tb)
    (hrun : ∀ k z, am_run fm y n2 (x.handlerPc, loc, [.ref h1.2], (h1.1, h1.2 + 1), k, z) = some (pc2, loc2, [.int r], (h1.1, h1.2 + 1), k, z)) (ho : decode (am_Mt y).2.1 pc2 = .ok (.ireturn, 1)) :
    Met l (am_Mt y).1 (am_wsH y hs) (am_rm (d + 2) mc ms) (am_PcT D dA b ext fm As h) (xm_Qc D dA b ext (some (.int r)) (h1.1, h1.2 + 1)) mc ms (fun q => b ≤ q) := by
  refine hm_of (d := d + 1) hpl hlen fun p e s m below meth c ls ha CF htb hr hlk' hnm hK hTH hP hl => ?_
  refine xm_W_N (nL := (am_Mt y).2.2.1) (C := am_R fm (d + 1)) (d := d + 1) hy CF (fun q => by rw [hin0] at q; cases q) hK (fun y' As h r h' mc ms hy' hr' => xm_sound l D dA b ext fm (d + 1) y' As h r h' mc ms hy' hr') (Nat.le_refl _) (by show 40 + 40 * (d + 1) ≤ 40 * (d + 1 + 1); omega) n _ (pc, loc, Ac.reverse ++ rest, h, 0, 0) hN (Nat.zero_le _) (Nat.zero_le _) ?_ s.heap [] ls hP va_S.rf hl
  intro H locs ls' hP1 hS hl1
  have hpl' : e.platform.magicAccessors = ({} : Platform).magicAccessors := by rw [ha.platform]
  have CF' : CallFix p m c (am_Mt y).2.1 (am_Mt y).2.2.1 s (As.map (am_vl b am_X ext)).toArray am_tb "MarkInlinesLaw" := by rw [← hcls]; exact CF
  refine W_thrown (own := "MarkInlinesLaw") (d := d + 1) (k := 0) (z := 0) (mc := mc) (ms := ms) CF' hK hTH hX hd hlk hM0 hns hni hAc hrc hmet (Nat.le_refl _) (by show 39 + 40 * (d + 1) ≤ 40 * (d + 1 + 1); omega) (by show 0 + mc ≤ mc; omega) (by show 0 + ms ≤ ms; omega) hsum hP1 hS hl1.2.1 (by rw [htb]; exact htab) ?_ hcov h0 hcl ?_
  · intro cX hfX q hq
    rcases hpass with g | ⟨g1, q', g2, g3, g4⟩
    · rw [g] at hq; cases hq
    · rw [g2, List.mem_singleton] at hq
      subst hq
      rw [g1] at hfX
      refine RowPassed.of_words hpl' CF'.2.2.2.1 g3 (CF'.2.2.2.2 _ g4) hfX ?_
      rw [ncast_to (A := #[]) (s := s) (Vm.Alike.refl _)]; exact hTH.2.2.2
  · intro H1 locs1 hP2 hS2
    rw [Nat.zero_add, Nat.zero_add]
    refine xm_W_N (nL := (am_Mt y).2.2.1) (C := am_R fm (d + 1)) (d := d + 1) hy CF (fun q => by rw [hin0] at q; cases q) hK (fun y' As h r h' mc ms hy' hr' => xm_sound l D dA b ext fm (d + 1) y' As h r h' mc ms hy' hr') (Nat.le_refl _) (by show 40 + 40 * (d + 1) ≤ 40 * (d + 1 + 1); omega) n2 (x.handlerPc, loc, [.ref h1.2], (h1.1, h1.2 + 1), mc, ms) (pc2, loc2, [.int r], (h1.1, h1.2 + 1), mc, ms) (am_run_N n2 (hrun mc ms)) (Nat.le_refl _) (Nat.le_refl _) ?_ H1 locs1 ls' hP2 hS2 hl1
    intro H3 locs3 ls3 hP3 hS3 hl3
    exact W.iret CF.1 CF.2.1 (hr.trans hret) (fun t ht _ => ⟨rfl, by rw [ht]; exact hP3, hS3.F ht⟩) hS3.2.2 ho hlk'
end Th6
