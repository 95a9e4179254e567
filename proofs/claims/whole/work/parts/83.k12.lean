/-! THE LAW, 1: it calls a helper -/
section La1
variable {p : Program} {l : Launch} {e : Env} {R : Room} {s : State} {m : MethodId} {args : Array Value} {below : List Frame} {meth : Method} {c : Code} {H : Heap} {locs : List Loc} {Q : State → Prop}
variable {D : va_G} {dA : Nat → ClassId} {b : Nat} {ext : Nat → Nat} {fm : Value} {h h' : am_H} {cc : ByteArray} {pc : Nat} {ls : Array Slot} {nL k z mc ms d : Nat} {own : String} {As rest : List Value} {r : Int32}
theorem back_H {y : Nat} {hs : List (Nat × Nat × Nat × Nat)} {sargs : Array Value} (hM : Met l (am_Mt y).1 (am_wsH y hs) (am_rm d mc ms) (am_PcT D dA b ext fm As h) (xm_Qc D dA b ext (some (.int r)) h') mc ms (fun q => b ≤ q)) (hcw : Cond.codeWith (am_Mt y).1 (am_Mt y).2.1 (am_Mt y).2.2.1 (am_Mt y).2.2.2.1 hs ∈ am_tb) (hini : Cond.initialized (am_Mt y).1.cls ∈ am_tb) (hL : (am_Mt y).2.2.1 ≤ 20) (hts : ∀ w ∈ am_tb, w.before sargs s = true) (hR1 : d + 1 ≤ R.frames) (hR2 : 39 + 40 * d ≤ R.locals) :
    Back l R p e below s sargs (am_Mt y).1 3 8 (PreOf R mc ms (am_PcT D dA b ext fm As h)) (PostOf (xm_Qc D dA b ext (some (.int r)) h') mc ms (fun q => b ≤ q)) := by
  have hws := pay_in hts (fun w (hw : w ∈ am_tb) => am_tb_good hw)
  refine Back.of_freeWith (handlers := hs) (S := headSpec (am_wsH y hs) (am_rm d mc ms)) (P := am_PcT D dA b ext fm As h) (K := fun _ _ _ _ _ => True) (Q := fun a st o t => xm_Qc D dA b ext (some (.int r)) h' a st o t ∧ ∃ L, FrameEnd st o t L mc ms ∧ ∀ q ∈ L, b ≤ q.base) (bytes := (am_Mt y).2.1) (maxL := (am_Mt y).2.2.1) (ret := (am_Mt y).2.2.2.1)
    (E := fun a st o t L k n => k = mc ∧ n = ms ∧ ∀ q ∈ L, b ≤ q.base) hM hR1 (by show 8 + ((am_Mt y).2.2.1 + 11) + 40 * d ≤ R.locals; omega) ?_ ?_ (fun _ _ _ _ _ _ _ _ _ => trivial) ?_ ?_
  · intro m meth c A a X hp
    refine ⟨atoms_intro fun w hw => ?_, hws _ hcw _ _ X.warmed, hws _ hini _ _ X.warmed, hp.1, hp.2.1⟩
    rcases List.mem_cons.mp hw with rfl | hw
    · exact hws _ hcw _ _ X.warmed
    · exact hws _ hw _ _ X.warmed
  · intro m meth c A a g mk X hp
    exact am_blindT _ _ _ _ hp.2.2
  · intro a st o t ⟨hq, L, hF, hL⟩
    exact ⟨L, mc, ms, hF, rfl, rfl, hL⟩
  · intro m meth c A a g mk v t L k n X hp hq hF ⟨e1, e2, hL⟩
    subst e1; subst e2
    exact ⟨g, mk, t, L, rfl, rfl, hq.1, rfl, hL, rfl, rfl⟩
set_option maxHeartbeats 4000000 in
theorem W_help {y i : Nat} {hs : List (Nat × Nat × Nat × Nat)} (CF : CallFix p m c cc nL s args am_tb own) (hK : xm_K D am_cls dA b am_X ext (am_st fm) am_S am_str am_nst s) (hTH : TH b s)
    (hd : decode cc pc = .ok (.invokestatic i, 3)) (hlk : Cond.methodLink own i (am_Mt y).1 ∈ am_tb) (hstt : Cond.static (am_Mt y).1 ∈ am_tb) (hini : Cond.initialized (am_Mt y).1.cls ∈ am_tb) (hcw : Cond.codeWith (am_Mt y).1 (am_Mt y).2.1 (am_Mt y).2.2.1 (am_Mt y).2.2.2.1 hs ∈ am_tb)
    (hy : (am_Mt y).1.cls ≠ "java/lang/invoke/MethodHandle" ∧ (am_Mt y).1.cls ≠ "java/lang/invoke/VarHandle") (hnp : (parseMethodDescriptor (am_Mt y).1.desc).map (fun d => d.parameters.length) = some As.length) (hL : (am_Mt y).2.2.1 ≤ 20)
    (hM : Met l (am_Mt y).1 (am_wsH y hs) (am_rm d mc ms) (am_PcT D dA b ext fm As h) (xm_Qc D dA b ext (some (.int r)) h') mc ms (fun q => b ≤ q)) (hR1 : d + 1 ≤ R.frames) (hR2 : 39 + 40 * d ≤ R.locals) (hk1 : k + mc ≤ R.cells) (hk2 : z + ms ≤ R.slots) (hsum : (rest.map fun v => v.category).sum ≤ 8)
    (hP : xm_P D am_cls dA b am_X ext h H) (hS : va_S (fun q => b ≤ q) s.heap H locs) (hsz : ls.size = nL)
    (kk : ∀ (H1 : Heap) (locs1 : List Loc), xm_P D am_cls dA b am_X ext h' H1 → va_S (fun q => b ≤ q) s.heap H1 locs1 → W p l e R s m args below meth c H1 locs1 (k + mc) (z + ms) Q (F0 m (pc + 3) ls (.int r :: rest.map (am_vl b am_X ext)))) :
    W p l e R s m args below meth c H locs k z Q (F0 m pc ls ((As.reverse ++ rest).map (am_vl b am_X ext))) := by
  intro T hT X
  obtain ⟨hx, hb, hml, hown, hts⟩ := id CF
  have hB := back_H (p := p) (e := e) (below := below) (R := R) hM hcw hini hL hts hR1 hR2
  obtain ⟨mk, methM, cM, hnamed, hmethM, -, -, -, -, -, -, hsigM⟩ := Cond.codeWith_spec (hts _ hcw)
  have hstatic : methM.isStatic = true := Cond.static_spec hnamed hmethM (hts _ hstt)
  obtain ⟨kP, hkP, -⟩ := className_of_methodNamed hnamed
  have hinitP : kP.init = .initialized := Cond.initialized_spec (findClass_of_methodNamed hnamed) hkP (hts _ hini)
  have hstk : ((As.reverse ++ rest).map (am_vl b am_X ext)) = (As.map (am_vl b am_X ext)).reverse ++ rest.map (am_vl b am_X ext) := by rw [List.map_append, List.map_reverse]
  have hroom : 2 * (F0 m pc ls ((As.reverse ++ rest).map (am_vl b am_X ext))).monitorRoom + ((rest.map (am_vl b am_X ext)).map fun v => v.category).sum ≤ 8 := lv_room (by rw [am_cat_map]; exact hsum)
  have hlen : (As.map (am_vl b am_X ext)).length = methM.sig.parameters.length := by
    rw [hsigM] at hnp
    rw [List.length_map]; exact (Option.some.inj hnp).symm
  obtain ⟨vm₁, X₁, hstep₁⟩ := X.invokestatic hx hown (hts _ hlk) hnamed hmethM hstatic hkP hinitP hy (g := F0 m pc ls ((As.reverse ++ rest).map (am_vl b am_X ext))) rfl (argsL := As.map (am_vl b am_X ext)) (rest := rest.map (am_vl b am_X ext)) hlen hstk (by rw [hb]; exact hd)
  obtain ⟨v, B, X', hpost, hsteps⟩ := hB m meth c ⟨T.setVm vm₁, locs, k, z⟩ { F0 m pc ls ((As.reverse ++ rest).map (am_vl b am_X ext)) with stack := rest.map (am_vl b am_X ext) } (.invokestatic i) mk (As.map (am_vl b am_X ext)).toArray X₁ rfl (hsz.trans hml.symm) (by rw [hb]; exact hd) hroom (X₁.named hnamed)
    ⟨hk1, hk2, ⟨rfl, by show xm_P D am_cls dA b am_X ext h T.heap; rw [hT]; exact hP, xm_K_to hK hS (U := T.setVm vm₁) hT X₁.warmed⟩, hTH.to (U := T.setVm vm₁) X₁.warmed (fun q hq => by
      show T.heap[q]? = _
      rw [hT]; exact hS.2.1 q (Nat.lt_of_lt_of_le hq hK.2.1) (by omega))⟩
  obtain ⟨U', l2, c2, s2⟩ := B
  obtain ⟨g', mk', t, L, e1, e2, ⟨hv, hp1, hvf⟩, q1, hL', q2, q3⟩ := hpost
  dsimp only [Pt.U, Pt.locs, Pt.cells, Pt.slots] at X' e1 e2 q1 q2 q3 hsteps
  have hv' : v = some (.int r) := by injection hv
  subst q1 q2 q3 hv'
  have hSn : va_S (fun q => b ≤ q) s.heap U'.heap (locs ++ L) := by
    have hz' : T.heap.size ≤ t.heap.size := hvf.1
    refine ⟨Nat.le_trans hS.1 (by rw [e1, ← hT]; exact hz'), fun q g1 g2 => ?_, fun q hq => ?_⟩
    · have g3 : t.heap[q]? = T.heap[q]? := hvf.2 q (show q < T.heap.size by rw [hT]; exact Nat.lt_of_lt_of_le g1 hS.1) g2
      rw [e1, g3, hT]; exact hS.2.1 q g1 g2
    · rcases List.mem_append.mp hq with g | g
      · exact hS.2.2 q g
      · exact hL' q g
  obtain ⟨t2, a1, b1⟩ := kk U'.heap (locs ++ L) (by rw [e1]; exact hp1) hSn U' rfl X'
  exact ⟨t2, hstep₁ _ (fun acts => by rw [doInvoke_state]; exact hsteps.trans a1), b1⟩
end La1
