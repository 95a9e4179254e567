/-! THROWS, 5: a call that throws, and the handler -/
section Th5
variable {p : Program} {l : Launch} {e : Env} {R : Room} {s : State} {m : MethodId} {args : Array Value} {below : List Frame} {meth : Method} {c : Code} {H : Heap} {locs : List Loc} {Q : State → Prop}
variable {D : va_G} {dA : Nat → ClassId} {b : Nat} {ext : Nat → Nat} {fm : Value} {h h1 : am_H} {cc : ByteArray} {pc : Nat} {ls : Array Slot} {nL k z mc ms d : Nat} {own X : String} {As rest : List Value}
def PreT (R : Room) (mc ms : Nat) (Pc : Array Value → State → Prop) : Pt → Array Value → Prop := fun A a => A.cells + mc ≤ R.cells ∧ A.slots + ms ≤ R.slots ∧ Pc a A.U
def PostT (Q : Array Value → State → Outcome → State → Prop) (mc ms b : Nat) : Pt → Array Value → Addr → Pt → Prop := fun A a x B =>
  ∃ (g : JFrame) (mk : MethodId) (t : State) (L : List Loc), B.U.heap = t.heap ∧ B.U.vm = t.vm ∧ Q a (A.U.calling g mk a) (.threw x) t ∧ B.locs = A.locs ++ L ∧ (∀ q ∈ L, b ≤ q.base) ∧ B.cells = A.cells + mc ∧ B.slots = A.slots + ms
theorem back_T {q : am_M} {np : Nat} {sargs : Array Value} (hM : MetFree l q.1 (headSpec (am_ws q) (am_rm d mc ms)) (am_PcT D dA b ext fm As h) (fun _ _ _ _ _ => True) (am_QT D dA b ext h1 X mc ms)) (hmr : am_mright q np) (hts : ∀ w ∈ am_tb, w.before sargs s = true) (hR1 : d + 1 ≤ R.frames) (hR2 : 8 + (20 + 11) + 40 * d ≤ R.locals) :
    BackT l R p e below s sargs q.1 3 8 (PreT R mc ms (am_PcT D dA b ext fm As h)) (PostT (am_QT D dA b ext h1 X mc ms) mc ms b) := by
  have hws := pay_in hts (am_ws_good hmr)
  have hini : Cond.initialized q.1.cls ∈ am_tb := hmr.2.2.2 _ (by simp [am_mw, am_mw2])
  have hwi := pay_in hts (fun w (hw : w ∈ am_tb) => am_tb_good hw)
  refine BackT.of_free (S := headSpec (am_ws q) (am_rm d mc ms)) (bytes := q.2.1) (maxL := q.2.2.1) (ret := q.2.2.2.1) (E := fun a st o t L k n => k = mc ∧ n = ms ∧ ∀ q ∈ L, b ≤ q.base) hM hR1 (by have := hmr.2.2.1; show 8 + (q.2.2.1 + 11) + 40 * d ≤ R.locals; omega) ?_ ?_ (fun _ _ _ _ _ _ _ _ _ => trivial) ?_ ?_
  · intro m meth c A a X hp
    exact ⟨atoms_intro fun w hw => hws w hw _ _ X.warmed, hws _ List.mem_cons_self _ _ X.warmed, hwi _ hini _ _ X.warmed, hp.1, hp.2.1⟩
  · intro m meth c A a g mk X hp
    exact am_blindT _ _ _ _ hp.2.2
  · intro a st o t hq
    obtain ⟨L, hF, hL⟩ := hq.2.2.2.2
    exact ⟨L, mc, ms, hF, rfl, rfl, hL⟩
  · intro m meth c A a g mk v t L k n X hp hq hF ⟨e1, e2, hL⟩
    subst e1; subst e2
    exact ⟨g, mk, t, L, rfl, rfl, hq, rfl, hL, rfl, rfl⟩
set_option maxHeartbeats 4000000 in
theorem W_thrown {i y : Nat} {As' : List Value} {a : Nat} {pre rs : List ExceptionTableEntry} {x : ExceptionTableEntry} (CF : CallFix p m c cc nL s args am_tb own) (hK : xm_K D am_cls dA b am_X ext (am_st fm) am_S am_str am_nst s) (hTH : TH b s) (hX : X ∈ [thA, thI, thB])
    (hd : decode cc pc = .ok (.invokevirtual i, 3)) (hlk : Cond.methodLink own i (am_Mt y).1 ∈ am_tb) (hM0 : am_mright (am_Mt y) As'.length) (hns : (am_Mt y).2.2.2.2 = false) (hni : (am_Mt y).1.name ≠ "<init>") (hAs : As = .ref a :: As') (hrc : am_rcv h (am_Mt y) As = true)
    (hmet : MetFree l (am_Mt y).1 (headSpec (am_ws (am_Mt y)) (am_rm d mc ms)) (am_PcT D dA b ext fm As h) (fun _ _ _ _ _ => True) (am_QT D dA b ext h1 X mc ms)) (hR1 : d + 1 ≤ R.frames) (hR2 : 39 + 40 * d ≤ R.locals) (hk1 : k + mc ≤ R.cells) (hk2 : z + ms ≤ R.slots) (hsum : (rest.map fun v => v.category).sum ≤ 8)
    (hP : xm_P D am_cls dA b am_X ext h H) (hS : va_S (fun q => b ≤ q) s.heap H locs) (hsz : ls.size = nL)
    (hsplit : c.exceptionTable.toList = pre ++ x :: rs) (hpass : ∀ cX, s.vm.findClass X = some cX → ∀ y ∈ pre, RowPassed e.platform s m.cls pc cX y) (hcov : covers x pc = true) (h0 : x.catchType ≠ 0) (hcl : Cond.classLink own x.catchType X ∈ am_tb)
    (kk : ∀ (H1 : Heap) (locs1 : List Loc), xm_P D am_cls dA b am_X ext (h1.1, h1.2 + 1) H1 → va_S (fun q => b ≤ q) s.heap H1 locs1 → W p l e R s m args below meth c H1 locs1 (k + mc) (z + ms) Q (F0 m x.handlerPc ls [.ref (am_ad b am_X ext h1.2)])) :
    W p l e R s m args below meth c H locs k z Q (F0 m pc ls ((As.reverse ++ rest).map (am_vl b am_X ext))) := by
  intro T hT X0
  obtain ⟨hx, hb, hml, hown, hts⟩ := id CF
  have hmw := hM0.2.2.2
  have hinst := hts _ (hmw (.instanceMethod (am_Mt y).1) (by simp [am_mw, am_mw2, hns]))
  have hcode := hts _ (hmw (.code (am_Mt y).1 (am_Mt y).2.1 (am_Mt y).2.2.1 (am_Mt y).2.2.2.1) (by simp [am_mw]))
  have hsel := hts _ (hmw (.selects (am_Mt y).1.cls (am_Mt y).1 (am_Mt y).1) (by simp [am_mw, am_mw2, hns, hni]))
  have hdecl : (Cond.declares (am_Mt y).1).before args s = true := dec_of hinst hcode
  have hy : (am_Mt y).1.cls ≠ "java/lang/invoke/MethodHandle" ∧ (am_Mt y).1.cls ≠ "java/lang/invoke/VarHandle" := ⟨hM0.2.1.1, hM0.2.1.2.1⟩
  have hnf : NotFace s (am_Mt y).1 := by
    intro r0 hn
    obtain ⟨c2, r2, m2, q1, q2, q3, q4, kP, hkP, hkPi⟩ := Cond.selects_spec hsel
    cases hn.symm.trans q3
    exact ⟨kP, hkP, hkPi⟩
  subst hAs
  unfold am_rcv at hrc
  dsimp only at hrc
  · split at hrc
    · rename_i ci fs ha
      split at hrc
      · rename_i C T0 N0 hc
        have hC : C = (am_Mt y).1.cls := of_decide_eq_true hrc
        obtain ⟨cellB, hcB1, hcB2, hcB3⟩ := xm_recv hK.1 hP ha hc
        rw [hC] at hcB3
        have hstk : ((Value.ref a :: As').reverse ++ rest).map (am_vl b am_X ext) = (As'.map (am_vl b am_X ext)).reverse ++ .ref (am_ad b am_X ext a) :: rest.map (am_vl b am_X ext) := by
          simp [am_vl]
        have hroom : 2 * (F0 m pc ls (((Value.ref a :: As').reverse ++ rest).map (am_vl b am_X ext))).monitorRoom + ((rest.map (am_vl b am_X ext)).map fun v => v.category).sum ≤ 8 := lv_room (by rw [am_cat_map]; exact hsum)
        obtain ⟨v, vm₁, B, hW₁, X', hpost, st⟩ := X0.virtualThrows hx hown (hts _ hlk) hdecl hnf hsel hinst hy (back_T hmet hM0 hts hR1 (by omega)) hcB3 ⟨cellB, by rw [hT]; exact hcB1, rfl, hcB2⟩ (g := F0 m pc ls (((Value.ref a :: As').reverse ++ rest).map (am_vl b am_X ext))) rfl (hsz.trans hml.symm) (Steps.refl _) (argsL := As'.map (am_vl b am_X ext)) (rest := rest.map (am_vl b am_X ext))
          (fun sig hs => by
            have h2 := hM0.2.1.2.2
            rw [hs] at h2
            rw [List.length_map]
            exact (Option.some.inj h2).symm) hstk hroom (by rw [hb]; exact hd)
          (fun vm₁ hW₁ => ⟨hk1, hk2, ⟨rfl, by show xm_P D am_cls dA b am_X ext h T.heap; rw [hT]; exact hP, xm_K_to hK hS (U := T.setVm vm₁) hT hW₁⟩, hTH.to (U := T.setVm vm₁) hW₁ (fun q hq => by
            show T.heap[q]? = _
            rw [hT]; exact hS.2.1 q (Nat.lt_of_lt_of_le hq hK.2.1) (by omega))⟩)
        obtain ⟨U', l2, c2, s2⟩ := B
        obtain ⟨g', mk, t, L, e1, e2, ⟨hv, hp1, hvf, ⟨ce, hce1, hce2, hce3⟩, -⟩, q1, hL, q2, q3⟩ := hpost
        dsimp only [Pt.U, Pt.locs, Pt.cells, Pt.slots] at X' e1 e2 q1 q2 q3 st
        have hv' : v = am_ad b am_X ext h1.2 := by injection hv
        subst q1 q2 q3 hv'
        have hfX : s.vm.findClass X = some ce.cls := by
          have h3 : vm₁.findClass X = some ce.cls := hce2
          rw [hW₁.alike.findClass] at h3; exact h3
        have hasg : s.vm.assignable ce.cls ce.cls = true := by
          have h4 := hTH.2.2.1 X hX
          obtain ⟨c3, c4, g1, g2, g3⟩ := Cond.castable_spec h4
          cases g1.symm.trans hfX
          cases g2.symm.trans hfX
          exact g3
        obtain ⟨hend, hk0⟩ := X'.catches_of_link hown h0 (hts _ hcl) hfX hasg
        obtain ⟨vm', XV, st2⟩ := X'.thenCaughtThrough (am_ad b am_X ext h1.2) (g := { F0 m pc ls (((Value.ref a :: As').reverse ++ rest).map (am_vl b am_X ext)) with stack := rest.map (am_vl b am_X ext) }) rfl st (cell := ce) (by rw [e1]; exact hce1) (by rw [hce3]; rfl) hk0 pre x rs hsplit (hpass _ hfX) hcov hend
        have hSn : va_S (fun q => b ≤ q) s.heap U'.heap (locs ++ L) := by
          have hz' : T.heap.size ≤ t.heap.size := hvf.1
          refine ⟨Nat.le_trans hS.1 (by rw [e1, ← hT]; exact hz'), fun q g1 g2 => ?_, fun q hq => ?_⟩
          · have g3 : t.heap[q]? = T.heap[q]? := hvf.2 q (show q < T.heap.size by rw [hT]; exact Nat.lt_of_lt_of_le g1 hS.1) g2
            rw [e1, g3, hT]; exact hS.2.1 q g1 g2
          · rcases List.mem_append.mp hq with g | g
            · exact hS.2.2 q g
            · exact hL q g
        obtain ⟨t2, a1, b1⟩ := kk U'.heap (locs ++ L) (by rw [e1]; exact hp1) hSn (U'.setVm vm') rfl XV
        exact ⟨t2, st2.trans a1, b1⟩
      · cases hrc
    · cases hrc
end Th5
