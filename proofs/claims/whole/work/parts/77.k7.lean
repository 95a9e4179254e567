/-! THROWS, 3: an exception of its own, made and thrown -/
section Th3
variable {p : Program} {l : Launch} {e : Env} {R : Room} {s : State} {m : MethodId} {args : Array Value} {below : List Frame} {meth : Method} {c : Code} {H : Heap} {locs : List Loc} {k z : Nat}
variable {D : va_G} {dA : Nat → ClassId} {b : Nat} {ext : Nat → Nat} {fm : Value} {h : am_H} {cc : ByteArray} {pc : Nat} {ls : Array Slot} {nL : Nat}
/-- what stands when a method has thrown: one cell more, of six slots -/
def ThQ (s : State) (below : List Frame) (D : va_G) (dA : Nat → ClassId) (b : Nat) (ext : Nat → Nat) (h : am_H) (X : String) (locs : List Loc) (k z : Nat) (U : State) : Prop :=
  U.status = .running ∧ Ended U below (.threw (am_ad b am_X ext h.2)) ∧ s.WarmedH U.vm ∧ s.sameButNew ({ U with vm := s.vm } : State) locs (k + 1) (z + 6) ∧ xm_P D am_cls dA b am_X ext (h.1, h.2 + 1) U.heap ∧ va_F (fun q => b ≤ q) s U ∧
    ∃ ce, U.heap[am_ad b am_X ext h.2]? = some ce ∧ s.vm.findClass X = some ce.cls ∧ ce.vm = .none
theorem am_P_more {H' : Heap} (hP : xm_P D am_cls dA b am_X ext h H) (hz : H'.size = H.size + 1) (ho : ∀ q, q < H.size → H'[q]? = H[q]?) : xm_P D am_cls dA b am_X ext (h.1, h.2 + 1) H' := by
  obtain ⟨p1, p2, p3, p4⟩ := hP
  refine ⟨Nat.le_trans p1 (Nat.le_succ _), by show H'.size = b + (h.2 + 1 - am_X); rw [hz, p2]; omega, p3, fun a c ha => ?_⟩
  obtain ⟨q1, q2⟩ := p4 a c ha
  exact ⟨Nat.lt_succ_of_lt q1, q2.kept (ho _ q2.lt)⟩
set_option maxHeartbeats 4000000 in
theorem th_own {X tx : String} {ix ic it t : Nat} (htr : e.platform.stackTraces = false) (CF : CallFix p m c cc nL s args am_tb "MarkInlines") (hK : xm_K D am_cls dA b am_X ext (am_st fm) am_S am_str am_nst s) (hTH : TH b s) (hno : c.exceptionTable.isEmpty = true) (hlocks : meth.locks = false)
    (hd0 : decode cc pc = .ok (.new ix, 3)) (hd3 : decode cc (pc + 3) = .ok (.dup, 1)) (hd4 : decode cc (pc + 4) = .ok (.ldc it, 2)) (hd6 : decode cc (pc + 6) = .ok (.invokespecial ic, 3)) (hd9 : decode cc (pc + 9) = .ok (.athrow, 1))
    (hok : thOk ic X = true) (hX : X ∈ [thA, thI, thB]) (hfit : Bundle.fit X = true) (hcl : Cond.classLink "MarkInlines" ix X ∈ am_tb) (hin : Cond.instantiable X 6 ∈ am_tb) (hini : Cond.initialized X ∈ am_tb) (hst : ("MarkInlines", it, tx, t) ∈ am_str)
    (hR1 : 8 ≤ R.frames) (hR2 : 200 ≤ R.locals) (hk : k + 1 ≤ R.cells) (hz : z + 6 ≤ R.slots) (hP : xm_P D am_cls dA b am_X ext h H) (hS : va_S (fun q => b ≤ q) s.heap H locs) (hsz : ls.size = nL) :
    W p l e R s m args below meth c H locs k z (ThQ s below D dA b ext h X locs k z) (F0 m pc ls []) := by
  intro T hT X0
  obtain ⟨hx, hb, hml, hown, hts⟩ := CF
  have hws := pay_in hts (fun w hw => am_tb_good hw)
  have X1 := re_base X0 (by omega) (by omega)
  have hw' : ∀ w ∈ am_tb, w.before args (reS s T) = true := fun w hw => hws w hw args (reS s T) (State.WarmedH.refl s)
  have hlow : ∀ a : Nat, a < b → (reS s T).heap[a]? = s.heap[a]? := fun a ha => by
    show T.heap[a]? = _
    rw [hT]; exact hS.2.1 a (Nat.lt_of_lt_of_le ha hK.2.1) (by omega)
  have hTH' : TH b (reS s T) := hTH.to (State.WarmedH.refl s) hlow
  have hK' : xm_K D am_cls dA b am_X ext (am_st fm) am_S am_str am_nst (reS s T) := xm_K_to hK hS (U := reS s T) hT (State.WarmedH.refl s)
  have hsize : T.heap.size = am_ad b am_X ext h.2 := by rw [hT, hP.2.1, am_ad_new hP.1]
  obtain ⟨vm₁, cX, kX, hfX, hkX, -, -, X2, st1⟩ := X1.newCold hx (own := "MarkInlines") (C := X) (index := ix) (n := 6) hown (hw' _ hcl) (hw' _ hin) (hw' _ hini) (g := F0 m pc ls []) rfl (by rw [hb]; exact hd0) (show 0 + 1 ≤ R.cells - k by omega) (show 0 + 6 ≤ R.slots - z by omega)
  generalize hT1 : (T.setVm vm₁).pushCell { cls := cX, slots := kX.instanceTypes.map defaultValue, vm := .none } = T1 at X2 st1
  have hcellA : T1.heap[T.heap.size]? = some (freshCell cX kX) := by rw [← hT1]; exact State.heap_pushCell_size _ _
  have key : W p l e { R with cells := R.cells - k, slots := R.slots - z } (reS s T) m args below meth c T1.heap [] 1 6 (ThQ s below D dA b ext h X locs k z) (F0 m (pc + 3) ls [.ref T.heap.size]) := by
    refine lv_dup hx hb hd3 rfl ?_
    refine va_ldcS hx hb hown (hK'.2.2.2.1 _ hst) hd4 ?_
    intro T2 hT2 X3
    obtain ⟨U, hsteps, hrun, hend, hW, hsame, ce, hce, K⟩ := X3.ctorThrowS hx htr (own := "MarkInlines") (cls := X) (names := thU) (ic := ic) hown hfit (by decide +kernel) (th_words hok hX hw' hTH') (fun y hy => by cases hy) hfX hkX
      (a := T.heap.size) (by rw [hT2]; exact hcellA) (Nat.le_refl _) (msg := .ref (am_ad b am_X ext t)) rfl (g := F0 m (pc + 6) ls [.ref (am_ad b am_X ext t), .ref T.heap.size, .ref T.heap.size]) rfl (hsz.trans hml.symm) rfl rfl (rest := []) rfl (by rw [hb]; exact hd6) (by rw [hb]; exact hd9)
      (covers_of_empty hno _) (by show 2 + 3 < R.frames; omega) (by
        show 2 * 0 + 1 + (13 * (2 + 1) + 42) ≤ R.locals; omega) hlocks
    have hkept := re_kept hsame
    have hUs : U.heap.size = T.heap.size + 1 := by
      have h1 : U.heap.size ≤ T.heap.size + 1 := hsame.2.2.1
      have h2 := (Array.getElem?_eq_some_iff.mp hce).1
      omega
    refine ⟨U, hsteps, hrun, by rw [← hsize]; exact hend, hW, ?_, ?_, ?_, ce, by rw [← hsize]; exact hce, K.cls, K.vm⟩
    · have := re_same X0 hsame
      rwa [List.append_nil] at this
    · refine am_P_more hP (by rw [hUs, hT]) (fun q hq => ?_)
      have := hkept q (by show q < T.heap.size; rw [hT]; exact hq)
      rw [show (reS s T).heap = H from hT] at this
      exact this
    · refine ⟨Nat.le_trans (by rw [hT]; exact hS.1 : s.heap.size ≤ T.heap.size) (by omega), fun q h1 h2 => ?_⟩
      have := hkept q (by show q < T.heap.size; rw [hT]; exact Nat.lt_of_lt_of_le h1 hS.1)
      rw [show (reS s T).heap = H from hT] at this
      exact this.trans (hS.2.1 q h1 h2)
  obtain ⟨t', a1, b1⟩ := key T1 rfl X2
  exact ⟨t', st1 _ a1, b1⟩
end Th3
