/-! calls, again -/
section XmCall
variable {p : Program} {l : Launch} {e : Env} {R : Room} {s : State} {m : MethodId} {args : Array Value} {below : List Frame} {meth : Method} {c : Code} {H : Heap} {locs : List Loc} {Q : State → Prop}
variable {D : va_G} {dA : Nat → ClassId} {b : Nat} {ext : Nat → Nat} {fm : Value} {h h' : am_H} {cc : ByteArray} {pc : Nat} {ls : Array Slot} {nL : Nat} {loc : am_L} {k z mc ms d : Nat} {own : String} {ini : Bool} {o : am_O} {As rest : List Value} {r : Option Value}
def xm_Pc (D : va_G) (dA : Nat → ClassId) (b : Nat) (ext : Nat → Nat) (fm : Value) (As : List Value) (h : am_H) : Array Value → State → Prop :=
  va_Pc (As.map (am_vl b am_X ext)) (fun U => xm_P D am_cls dA b am_X ext h U.heap ∧ xm_K D am_cls dA b am_X ext (am_st fm) am_S am_str am_nst U)
def xm_Qc (D : va_G) (dA : Nat → ClassId) (b : Nat) (ext : Nat → Nat) (r : Option Value) (h' : am_H) : Array Value → State → Outcome → State → Prop :=
  fun _ st oc t => oc = .returned (r.map (am_vl b am_X ext)) ∧ xm_P D am_cls dA b am_X ext h' t.heap ∧ va_F (fun q => b ≤ q) st t
def xm_Met (l : Launch) (D : va_G) (dA : Nat → ClassId) (b : Nat) (ext : Nat → Nat) (fm : Value) (d : Nat) (q : am_M) (As : List Value) (h : am_H) (r : Option Value) (h' : am_H) (mc ms : Nat) : Prop :=
  Met l q.1 (am_ws q) (am_rm d mc ms) (xm_Pc D dA b ext fm As h) (xm_Qc D dA b ext r h') mc ms (fun q => b ≤ q)
theorem xm_K_to {X : Nat} {cl : List vw_C} {st : Nat → Value} {S : List (String × String × String)} {str : List (String × Nat × String × Nat)} {nst : List (String × Nat × String × String × String)} (hK : xm_K D cl dA b X ext st S str nst s) (hS : va_S (fun q => b ≤ q) s.heap H locs) {U : State} (hU : U.heap = H) (hW : s.WarmedH U.vm) : xm_K D cl dA b X ext st S str nst U := by
  obtain ⟨h1, h2, h3, h4, h5, h6⟩ := hK
  refine ⟨va_K.moved hW.alike h1, by rw [hU]; exact Nat.le_trans h2 hS.1, fun j q hq => ?_, fun q hq => vk_R.warm hW (h4 q hq), fun q hq => va_Nw.warmF hW (h5 q hq), fun i => arrOfT_moved hW.alike (h6 i)⟩
  rw [hU]
  exact va_Z.moved hW.alike (va_Z.kept (h3 j q hq) hS.2.1)
theorem xm_blind : FrameBlind (xm_Pc D dA b ext fm As h) := by
  intro a U g mk q
  obtain ⟨q0, q1, h1, h2, h3, h4, h5, h6⟩ := q
  exact ⟨q0, q1, va_K.moved (u := U) (U := U.calling g mk a) (Vm.Alike.refl U.vm) h1, h2, fun j q hq => va_Z.moved (u := U) (U := U.calling g mk a) (Vm.Alike.refl U.vm) (h3 j q hq), fun q hq => vk_R.same (u := U) (U := U.calling g mk a) rfl (h4 q hq), fun q hq => va_Nw.same (u := U) (U := U.calling g mk a) rfl rfl (h5 q hq), fun i => arrOfT_moved (E := U.calling g mk a) (Vm.Alike.refl U.vm) (h6 i)⟩
theorem xm_go {a0 : Array Value} {st0 rs : List Value} (hr : va_Run p l e R s m args below meth c H locs k z mc ms (F0 m pc ls st0) rs (xm_Qc D dA b ext r h' a0) (fun q => b ≤ q)) (hS : va_S (fun q => b ≤ q) s.heap H locs)
    (kk : ∀ (H1 : Heap) (locs1 : List Loc), xm_P D am_cls dA b am_X ext h' H1 → va_S (fun q => b ≤ q) s.heap H1 locs1 → W p l e R s m args below meth c H1 locs1 (k + mc) (z + ms) Q (F0 m (pc + 3) ls ((r.map (am_vl b am_X ext)).toList ++ rs))) : W p l e R s m args below meth c H locs k z Q (F0 m pc ls st0) := by
  intro T hT X
  obtain ⟨v, st₀, t, T', L, h0, X', hL, e1, e2, ⟨hv, hp, hz, hk⟩, st⟩ := hr T hT X
  have hv' : v = r.map (am_vl b am_X ext) := by cases hv; rfl
  subst hv'
  rw [h0] at hz hk
  obtain ⟨t2, a1, b1⟩ := kk T'.heap (locs ++ L) (by rw [e1]; exact hp)
    ⟨Nat.le_trans hS.1 (by rw [e1]; exact hz), fun q h1 h2 => by rw [e1, hk q (Nat.lt_of_lt_of_le h1 hS.1) h2]; exact hS.2.1 q h1 h2, fun q hq => by
      rcases List.mem_append.mp hq with h | h
      · exact hS.2.2 q h
      · exact hL q h⟩ T' rfl X'
  exact ⟨t2, st t2 a1, b1⟩
/-- an object that a method is called on -/
theorem xm_recv {X : Nat} {cl : List vw_C} {tys : List (ClassId × FieldType)} (hK : va_K D cl tys s) (hP : xm_P D cl dA b X ext h H) {a ci : Nat} {fs : List Value} {q : vw_C} (ha : h.1 a = some (.inr (ci, fs))) (hc : cl[ci]? = some q) : ∃ cell : Cell, H[am_ad b X ext a]? = some cell ∧ cell.vm.isStatics = false ∧ s.vm.findClass q.1 = some cell.cls := by
  rcases (hP.2.2.2 a _ ha).2 with ⟨hX, h2⟩ | ⟨h1, h2⟩
  · obtain ⟨r, cell, g1, q1, q2, q3, q5, q4⟩ := h2
    rw [xm_ad_old hX]
    exact ⟨cell, q1, q3, by rw [q2]; exact (hK.1 ci q hc).2.1⟩
  · exact va_recv hK (xm_P_one hP ha h1) (ci := ci) (q0 := 0) hc rfl
theorem xm_W_call (CF : CallFix p m c cc nL s args am_tb own) (hK : xm_K D am_cls dA b am_X ext (am_st fm) am_S am_str am_nst s) (hok : am_right own ini cc pc o) (hM0 : am_mright (am_Mt o.2.2.1) o.2.2.2.1) (hcall : am_call o (am_Mt o.2.2.1) h As = true)
    (hmet : xm_Met l D dA b ext fm d (am_Mt o.2.2.1) As h r h' mc ms) (hR1 : d + 1 ≤ R.frames) (hR2 : 39 + 40 * d ≤ R.locals) (hk1 : k + mc ≤ R.cells) (hk2 : z + ms ≤ R.slots) (hsum : (rest.map fun v => v.category).sum ≤ 8)
    (hP : xm_P D am_cls dA b am_X ext h H) (hS : va_S (fun q => b ≤ q) s.heap H locs) (hl : am_lc b am_X ext ls nL loc)
    (kk : ∀ (H1 : Heap) (locs1 : List Loc), xm_P D am_cls dA b am_X ext h' H1 → va_S (fun q => b ≤ q) s.heap H1 locs1 → W p l e R s m args below meth c H1 locs1 (k + mc) (z + ms) Q (F0 m (pc + 3) ls ((r.toList ++ rest).map (am_vl b am_X ext)))) :
    W p l e R s m args below meth c H locs k z Q (F0 m pc ls ((As.reverse ++ rest).map (am_vl b am_X ext))) := by
  obtain ⟨hx, hb, hml, hown, hts⟩ := id CF
  obtain ⟨hok1, hok2⟩ := hok
  have hkk : ∀ (H1 : Heap) (locs1 : List Loc), xm_P D am_cls dA b am_X ext h' H1 → va_S (fun q => b ≤ q) s.heap H1 locs1 → W p l e R s m args below meth c H1 locs1 (k + mc) (z + ms) Q (F0 m (pc + 3) ls ((r.map (am_vl b am_X ext)).toList ++ rest.map (am_vl b am_X ext))) := by
    intro H1 locs1 h1 h2
    have := kk H1 locs1 h1 h2
    rw [List.map_append] at this
    cases r <;> exact this
  have hstk : ((As.reverse ++ rest).map (am_vl b am_X ext)) = (As.map (am_vl b am_X ext)).reverse ++ rest.map (am_vl b am_X ext) := by rw [List.map_append, List.map_reverse]
  have hroom : 2 * (F0 m pc ls ((As.reverse ++ rest).map (am_vl b am_X ext))).monitorRoom + ((rest.map (am_vl b am_X ext)).map fun v => v.category).sum ≤ 8 := lv_room (by rw [am_cat_map]; exact hsum)
  obtain ⟨i, len, y, n, v⟩ := o
  unfold am_ok at hok1
  rw [Bool.and_eq_true] at hok1
  obtain ⟨hd0, hok1⟩ := hok1
  have hd : decode cc pc = .ok (i, len) := of_decide_eq_true hd0
  have hpre : ∀ U : State, U.heap = H → s.WarmedH U.vm → xm_Pc D dA b ext fm As h (As.map (am_vl b am_X ext)).toArray U := fun U hU hW => ⟨rfl, by rw [hU]; exact hP, xm_K_to hK hS hU hW⟩
  have hrm : (am_rm d mc ms).frames + 1 ≤ R.frames ∧ 8 + ((am_Mt y).2.2.1 + 11) + (am_rm d mc ms).locals ≤ R.locals := ⟨hR1, by have : (am_Mt y).2.2.1 ≤ 20 := hM0.2.2.1; show 8 + ((am_Mt y).2.2.1 + 11) + 40 * d ≤ _; omega⟩
  have hmw := hM0.2.2.2
  cases i with
  | invokevirtual i =>
    have hlen : len = 3 := of_decide_eq_true hok1
    subst hlen
    simp only [am_call, Bool.and_eq_true, decide_eq_true_eq, Bool.not_eq_true'] at hcall
    obtain ⟨⟨⟨c1, c2⟩, c3⟩, c4⟩ := hcall
    have hmw : ∀ w ∈ am_mw (am_Mt y), w ∈ am_tb := hmw
    have cb := callB_of (s := s) (args := args) (R := R) (own := own) (index := i) (rm := am_rm d mc ms) (mc := mc) (ms := ms) n hts (am_ws_good hM0) rfl rfl rfl (hts _ (hmw (.initialized (am_Mt y).1.cls) (by simp [am_mw, am_mw2]))) (hts (.methodLink own i (am_Mt y).1) (hok2 _ (List.mem_append_right _ (by simp [am_link])))) hM0.2.1 hrm
    unfold am_rcv at c3
    split at c3
    · rename_i a As' 
      split at c3
      · rename_i ci fs ha
        split at c3
        · rename_i C T N hc
          have hC : C = (am_Mt y).1.cls := of_decide_eq_true c3
          have hrecv := xm_recv hK.1 hP ha hc
          rw [hC] at hrecv
          refine xm_go (va_runV (C := (am_Mt y).1.cls) (As := As'.map (am_vl b am_X ext)) CF hmet ⟨cb, hts _ (hmw (.instanceMethod (am_Mt y).1) (by simp [am_mw, am_mw2, c1])), hts _ (hmw (.selects (am_Mt y).1.cls (am_Mt y).1 (am_Mt y).1) (by simp [am_mw, am_mw2, c1, c2]))⟩ ⟨xm_blind, hrecv, hpre⟩ rfl (by rw [List.length_map]; simp at c4; exact c4) hl.2.1 ?_ hroom hd ⟨hk1, hk2⟩) hS hkk
          show ((Value.ref a :: As').reverse ++ rest).map (am_vl b am_X ext) = _
          rw [hstk]
          simp
          rfl
        · cases c3
      · cases c3
    · cases c3
  | invokespecial i =>
    have hlen : len = 3 := of_decide_eq_true hok1
    subst hlen
    simp only [am_call, Bool.and_eq_true, decide_eq_true_eq, Bool.not_eq_true'] at hcall
    obtain ⟨⟨⟨⟨⟨c1, c2⟩, c3⟩, c4⟩, c5⟩, c6⟩ := hcall
    have hmw : ∀ w ∈ am_mw (am_Mt y), w ∈ am_tb := hmw
    have cb := callB_of (s := s) (args := args) (R := R) (own := own) (index := i) (rm := am_rm d mc ms) (mc := mc) (ms := ms) n hts (am_ws_good hM0) rfl rfl rfl (hts _ (hmw (.initialized (am_Mt y).1.cls) (by simp [am_mw, am_mw2]))) (hts (.methodLink own i (am_Mt y).1) (hok2 _ (List.mem_append_right _ (by have c2 : ¬ y = 0 := c2; simp [am_link, c2])))) hM0.2.1 hrm
    have c4 : (am_Mt y).2.2.2.1 = none := c4
    rw [c4] at cb
    split at c6
    · rename_i a As'
      refine xm_go (va_runI (b := am_ad b am_X ext a) (As := As'.map (am_vl b am_X ext)) CF hmet ⟨cb, c3, hts _ (hmw (.instanceMethod (am_Mt y).1) (by simp [am_mw, am_mw2, c1]))⟩ ⟨xm_blind, hpre⟩ rfl (by rw [List.length_map]; simp at c5; exact c5) hl.2.1 ?_ hroom hd ⟨hk1, hk2⟩) hS hkk
      show ((Value.ref a :: As').reverse ++ rest).map (am_vl b am_X ext) = _
      rw [hstk]
      simp
      rfl
    · cases c6
  | invokestatic i =>
    have hlen : len = 3 := of_decide_eq_true hok1
    subst hlen
    simp only [am_call, Bool.and_eq_true, decide_eq_true_eq] at hcall
    obtain ⟨c1, c2⟩ := hcall
    have hmw : ∀ w ∈ am_mw (am_Mt y), w ∈ am_tb := hmw
    have cb := callB_of (s := s) (args := args) (R := R) (own := own) (index := i) (rm := am_rm d mc ms) (mc := mc) (ms := ms) n hts (am_ws_good hM0) rfl rfl rfl (hts _ (hmw (.initialized (am_Mt y).1.cls) (by simp [am_mw, am_mw2]))) (hts (.methodLink own i (am_Mt y).1) (hok2 _ (List.mem_append_right _ (by simp [am_link])))) hM0.2.1 hrm
    exact xm_go (va_runS (As := As.map (am_vl b am_X ext)) CF hmet ⟨cb, hts _ (hmw (.static (am_Mt y).1) (by simp [am_mw, am_mw2, c1]))⟩ ⟨xm_blind, hpre⟩ rfl (by rw [List.length_map]; exact c2) hl.2.1 hstk hroom hd ⟨hk1, hk2⟩) hS hkk
  | _ => exact absurd hcall (by simp [am_call])
end XmCall
section XmSound
variable {p : Program} {l : Launch} {e : Env} {R : Room} {s : State} {m : MethodId} {args : Array Value} {below : List Frame} {meth : Method} {c : Code} {H : Heap} {locs : List Loc} {Q : State → Prop}
variable {D : va_G} {dA : Nat → ClassId} {b : Nat} {ext : Nat → Nat} {fm : Value} {h : am_H} {cc : ByteArray} {pc : Nat} {ls : Array Slot} {k z : Nat} {own : String} {rest : List Value}
theorem xm_W_cpy (hx : p.tables.exec = Jvm.exec) (hb : c.code = cc) (hml : c.maxLocals = ls.size) {index : Nat} (hown : s.vm.findClass own = some m.cls) (hlink : (Cond.methodLink own index arraycopyName).before args s = true) (hnat : (Cond.native arraycopyName).before args s = true) (hstat : (Cond.static arraycopyName).before args s = true) (hini : (Cond.initialized "java/lang/System").before args s = true)
    (hK : va_K D am_cls (am_tys dA) s) (hAr : ∀ i : Nat, ArrOfT s (dA i) (xm_kty i)) (hP : xm_P D am_cls dA b am_X ext h H) (hS : va_S (fun q => b ≤ q) s.heap H locs) {a0 a1 n0 n1 : Nat} {f g : Nat → Int32} (ha0 : h.1 a0 = some (.inl (0, n0, .inl f))) (ha1 : h.1 a1 = some (.inl (0, n1, .inl g))) (hX1 : am_X ≤ a1)
    {sp dp n : Int32} (h1 : ¬ sp < 0) (h2 : ¬ dp < 0) (h3 : ¬ n < 0) (h4 : sp.toNatClampNeg + n.toNatClampNeg ≤ n0) (h5 : dp.toNatClampNeg + n.toNatClampNeg ≤ n1)
    (hframes : 1 ≤ R.frames) (hlocals : (rest.map fun v => v.category).sum + (nativeFrameWords "java/lang/System" "arraycopy" 5 + 11) ≤ R.locals) (hdg : decode cc pc = .ok (.invokestatic index, 3))
    (kk : ∀ (H1 : Heap) (locs1 : List Loc), xm_P D am_cls dA b am_X ext (am_up h a1 (.inl (0, n1, .inl (va_cpy f g sp.toNatClampNeg dp.toNatClampNeg n.toNatClampNeg)))) H1 → va_S (fun q => b ≤ q) s.heap H1 locs1 → W p l e R s m args below meth c H1 locs1 k z Q (F0 m (pc + 3) ls rest)) :
    W p l e R s m args below meth c H locs k z Q (F0 m pc ls (.int n :: .int dp :: .ref (am_ad b am_X ext a1) :: .int sp :: .ref (am_ad b am_X ext a0) :: rest)) := by
  have nn : ∀ z : Int32, ¬ z < 0 → z.toInt = (z.toNatClampNeg : Int) := by
    intro z hz
    have hz0 : (0 : Int) ≤ z.toInt := by
      have := Int32.not_lt.mp hz
      simpa using Int32.le_iff_toInt_le.mp this
    show z.toInt = ((z.toInt.toNat : Nat) : Int)
    omega
  intro T hT X
  obtain ⟨cs, hc0, hs2, hs3, hs4, -, hs5⟩ := xm_arr hK hAr hP ha0 (by decide)
  have hc1 : H[am_ad b am_X ext a1]? = some (vp_cell (dA 0) (n1, .inl g)) := ((hP.2.2.2 a1 _ ha1).2.resolve_left (fun q => absurd q.1 (by omega))).2
  obtain ⟨hns, k0, hk0, cm0, hkk0⟩ := hs2
  have hkk0 : k0.kind = .array cm0 .int := hkk0
  obtain ⟨-, k1, hk1, cm1, hkk1⟩ := (hK.2 0 _ rfl).1 n1 (fun j => .int (g j))
  obtain ⟨vm', X', step⟩ := X.arraycopy hx hown hlink hnat hstat hini (src := am_ad b am_X ext a0) (dst := am_ad b am_X ext a1) (cs := cs) (cd := vp_cell (dA 0) (n1, .inl g)) (srcPos := sp) (destPos := dp) (n := n) (by rw [hT]; exact hc0) (by rw [hT]; exact hc1)
    hns (fun _ h => by cases h) hs3 (fun h => by cases h) hk0 hk1 hkk0 hkk1 (by simp [refKind]) h1 h2 h3
    (by rw [nn sp h1, nn n h3]; omega)
    (by rw [nn dp h2, nn n h3]; show ¬ _ > ((arrV (dA 0) n1 (fun j => .int (g j))).slots.size : Int); rw [arrV_size]; omega)
    (fun vm₁ _ i hi => by
      have e : cs.slots.getD (sp.toNatClampNeg + i) .null = .int (f (sp.toNatClampNeg + i)) := by
        rw [Array.getD_eq_getD_getElem?, hs5 _ (by omega)]
        rfl
      refine ⟨?_, ?_⟩
      · rw [e]
        rfl
      · rw [e]
        exact trivial)
    (g := F0 m pc ls (.int n :: .int dp :: .ref (am_ad b am_X ext a1) :: .int sp :: .ref (am_ad b am_X ext a0) :: rest)) rfl (by rw [hml]) (rest := rest) rfl (by rw [hb]; exact hdg) hframes (by show 2 * 0 + _ + _ ≤ _; omega)
  have e1 : copied cs (vp_cell (dA 0) (n1, .inl g)) sp dp n = vp_cell (dA 0) (n1, .inl (va_cpy f g sp.toNatClampNeg dp.toNatClampNeg n.toNatClampNeg)) := va_copiedX (fun z => .int z) cs (dA 0) f g hs5 h4
  rw [e1] at X' step
  have hl : am_ad b am_X ext a1 < H.size := (Array.getElem?_eq_some_iff.mp hc1).1
  have hheap : ((T.setVm vm').setCell (am_ad b am_X ext a1) (vp_cell (dA 0) (n1, .inl (va_cpy f g sp.toNatClampNeg dp.toNatClampNeg n.toNatClampNeg)))).heap = H.setIfInBounds (am_ad b am_X ext a1) (vp_cell (dA 0) (n1, .inl (va_cpy f g sp.toNatClampNeg dp.toNatClampNeg n.toNatClampNeg))) := by rw [← hT]; rfl
  have oq : ∀ q : Nat, q ≠ am_ad b am_X ext a1 → (H.setIfInBounds (am_ad b am_X ext a1) (vp_cell (dA 0) (n1, .inl (va_cpy f g sp.toNatClampNeg dp.toNatClampNeg n.toNatClampNeg))))[q]? = H[q]? := fun q hq => by simp [Array.getElem?_setIfInBounds, Ne.symm hq]
  obtain ⟨t, a1', b1⟩ := kk _ _ (xm_P_up hP ha1 hX1 (by simp) oq (show (H.setIfInBounds (am_ad b am_X ext a1) _)[am_ad b am_X ext a1]? = some _ by simp [Array.getElem?_setIfInBounds, hl])) ⟨by simp; exact hS.1, fun q g1 g2 => by
      rw [oq q (fun e => g2 (by rw [e]; exact am_ad_ge hX1))]
      exact hS.2.1 q g1 g2, fun q hq => by
      rcases List.mem_append.mp hq with h | h
      · exact hS.2.2 q h
      · obtain ⟨z, -, hz⟩ := List.mem_map.mp h
        rw [← hz]
        exact am_ad_ge hX1⟩ _ hheap X'
  exact ⟨t, step t a1', b1⟩
end XmSound
section XmSound2
variable {p : Program} {l : Launch} {e : Env} {R : Room} {s : State} {m : MethodId} {args : Array Value} {below : List Frame} {meth : Method} {c : Code} {Q : State → Prop}
variable {D : va_G} {dA : Nat → ClassId} {b : Nat} {ext : Nat → Nat} {fm : Value}
theorem xm_W_N {y d nL : Nat} {C : am_CR} (hy : y ≤ 212) (CF : CallFix p m c (am_Mt y).2.1 nL s args am_tb (am_Mt y).1.cls) (hini : am_in y = true → meth.name = "<init>") (hK : xm_K D am_cls dA b am_X ext (am_st fm) am_S am_str am_nst s)
    (hC : ∀ y' As h r h' mc ms, am_isM y' = true → C y' As h r h' mc ms → xm_Met l D dA b ext fm d (am_Mt y') As h r h' mc ms) (hR1 : d + 1 ≤ R.frames) (hR2 : 40 + 40 * d ≤ R.locals) :
    ∀ (n : Nat) (f g : am_F), am_N fm C y n f g → g.2.2.2.2.1 ≤ R.cells → g.2.2.2.2.2 ≤ R.slots →
      (∀ (H : Heap) (locs : List Loc) (ls : Array Slot), xm_P D am_cls dA b am_X ext g.2.2.2.1 H → va_S (fun q => b ≤ q) s.heap H locs → am_lc b am_X ext ls nL g.2.1 → W p l e R s m args below meth c H locs g.2.2.2.2.1 g.2.2.2.2.2 Q (F0 m g.1 ls (g.2.2.1.map (am_vl b am_X ext)))) →
      ∀ (H : Heap) (locs : List Loc) (ls : Array Slot), xm_P D am_cls dA b am_X ext f.2.2.2.1 H → va_S (fun q => b ≤ q) s.heap H locs → am_lc b am_X ext ls nL f.2.1 → W p l e R s m args below meth c H locs f.2.2.2.2.1 f.2.2.2.2.2 Q (F0 m f.1 ls (f.2.2.1.map (am_vl b am_X ext))) := by
  intro n
  induction n with
  | zero => intro f g hN _ _ kk; cases hN; exact kk
  | succ n ih =>
    intro f g hN hk1 hk2 kk H locs ls hP hS hl
    obtain ⟨f1, h1, h2⟩ := hN
    have hm := am_N_mono n h2
    have K := ih f1 g h2 hk1 hk2 kk
    have hx := CF.1
    rcases h1 with ⟨o, ho, hst⟩ | ⟨o, As, rest, r, h', mc, ms, ho, hstk, hsum, hM, hnp, hcall, hc, rfl⟩ | ⟨l', hle, rfl⟩ | ⟨o, i, ho, hi, hM, n', dp, sp, a1, a0, rest, n0, n1, x0, x1, hstk, ha0, ha1, hX, g1, g2, g3, g4, g5, hsum, rfl⟩ | ⟨o, i, ho, hi, hM, x, x', rest, hstk, hsum, rfl⟩
    · have hrt := am_ops_ok y hy f.1 o ho
      exact xm_W1 am_Gok CF hini hK hrt.1 (fun w hw => hrt.2 w (List.mem_append_left _ hw)) (by omega) (by omega) hst (Nat.le_trans hm.1 hk1) (Nat.le_trans hm.2 hk2) hP hS hl K
    · have hrt := am_ops_ok y hy f.1 o ho
      have hmr := am_m_ok o.2.2.1 hM
      rw [← hnp] at hmr
      rw [hstk]
      exact xm_W_call CF hK hrt hmr hcall (hC _ _ _ _ _ _ _ hM hc) hR1 (by omega) (Nat.le_trans hm.1 hk1) (Nat.le_trans hm.2 hk2) hsum hP hS hl (fun H1 locs1 hP1 hS1 => K H1 locs1 ls hP1 hS1 hl)
    · exact K H locs ls hP hS (am_lc_le hl hle)
    · have hrt := am_ops_ok y hy f.1 o ho
      obtain ⟨i', len, a, d', v⟩ := o
      dsimp only at hi hM
      subst hi hM
      have hok1 := hrt.1
      unfold am_ok at hok1
      rw [Bool.and_eq_true] at hok1
      have hd : decode (am_Mt y).2.1 f.1 = .ok (.invokestatic i, len) := of_decide_eq_true hok1.1
      have hlen : len = 3 := of_decide_eq_true hok1.2
      subst hlen
      have hts := CF.2.2.2.2
      rw [hstk]
      refine xm_W_cpy hx CF.2.1 (CF.2.2.1.trans hl.2.1.symm) CF.2.2.2.1 (hts (.methodLink (am_Mt y).1.cls i arraycopyName) (hrt.2 _ (List.mem_append_right _ (by simp [am_link]; rfl)))) (hts _ am_cpw.1) (hts _ am_cpw.2.1) (hts _ am_cpw.2.2) hK.1 hK.2.2.2.2.2 hP hS ha0 ha1 hX g1 g2 g3 g4 g5 (by omega) ?_ hd (fun H1 locs1 hP1 hS1 => K H1 locs1 ls hP1 hS1 hl)
      rw [am_cat_map]
      have : nativeFrameWords "java/lang/System" "arraycopy" 5 ≤ 20 := by decide +kernel
      omega
    · have hrt := am_ops_ok y hy f.1 o ho
      obtain ⟨i', len, a, d', v⟩ := o
      dsimp only at hi hM
      subst hi
      have hok1 := hrt.1
      unfold am_ok at hok1
      rw [Bool.and_eq_true] at hok1
      have hd : decode (am_Mt y).2.1 f.1 = .ok (.invokestatic i, len) := of_decide_eq_true hok1.1
      have hlen : len = 3 := of_decide_eq_true hok1.2
      subst hlen
      have hts := CF.2.2.2.2
      rw [hstk]
      have hlo : ((rest.map (am_vl b am_X ext)).map fun v => v.category).sum + 13 ≤ R.locals := by rw [am_cat_map]; omega
      rcases hM with rfl | rfl
      · exact va_mmax hx CF.2.1 (CF.2.2.1.trans hl.2.1.symm) CF.2.2.2.1 (hts (.methodLink (am_Mt y).1.cls i Lib.Math.max.name) (hrt.2 _ (List.mem_append_right _ (by simp [am_link]; rfl)))) (hts _ am_mmaxw.1) (hts _ am_mmaxw.2.1) (hts _ am_mmaxw.2.2) (by omega) hlo (Nat.le_trans hm.1 hk1) (Nat.le_trans hm.2 hk2) hd (K H locs ls hP hS hl)
      · exact va_mmin hx CF.2.1 (CF.2.2.1.trans hl.2.1.symm) CF.2.2.2.1 (hts (.methodLink (am_Mt y).1.cls i Lib.Math.min.name) (hrt.2 _ (List.mem_append_right _ (by simp [am_link]; rfl)))) (hts _ am_mminw.1) (hts _ am_mminw.2.1) (hts _ am_mminw.2.2) (by omega) hlo (Nat.le_trans hm.1 hk1) (Nat.le_trans hm.2 hk2) hd (K H locs ls hP hS hl)
end XmSound2
theorem xm_sound (l : Launch) (D : va_G) (dA : Nat → ClassId) (b : Nat) (ext : Nat → Nat) (fm : Value) : ∀ (d y : Nat) (As : List Value) (h : am_H) (r : Option Value) (h' : am_H) (mc ms : Nat), am_isM y = true → am_R fm d y As h r h' mc ms → xm_Met l D dA b ext fm d (am_Mt y) As h r h' mc ms := by
  intro d
  induction d with
  | zero => intro y As h r h' mc ms _ hr; cases hr
  | succ d ih =>
    intro y As h r h' mc ms hy hr
    obtain ⟨n, g, o, hlen, hN, ho, hret, hg⟩ := hr
    have hmr := am_m_ok y hy
    refine Met.ofW (cc := (am_Mt y).2.1) (maxL := (am_Mt y).2.2.1) (ret := (am_Mt y).2.2.2.1) hmr.1 rfl ?_
    intro p e s m args below meth c s₁ B hml hv
    obtain ⟨rfl, hP, hK⟩ := hv
    have hts0 := atoms_spec (ws := am_ws (am_Mt y)) B.pre
    have hts : ∀ w ∈ am_tb, w.before (As.map (am_vl b am_X ext)).toArray s = true := fun w hw => hts0 w (List.mem_cons_of_mem _ hw)
    have hown : s.vm.findClass (am_Mt y).1.cls = some m.cls := findClass_of_methodNamed B.named
    have hin : meth.name = (am_Mt y).1.name := (name_of_methodNamed B.named B.method).1
    have hl := lv_entry (As.map (am_vl b am_X ext)) (n := (am_Mt y).2.2.1) (by rw [am_sl_len]; exact hlen)
    rw [lg_entry_eq]
    generalize (lg_sl (As.map (am_vl b am_X ext)) ++ List.replicate ((am_Mt y).2.2.1 - (lg_sl (As.map (am_vl b am_X ext))).length) Slot.unset).toArray = ls at hl ⊢
    have hz : g.2.2.2.1 = h' ∧ g.2.2.2.2.1 = mc ∧ g.2.2.2.2.2 = ms := by rw [hg]; exact ⟨rfl, rfl, rfl⟩
    refine xm_W_N (Q := MQ below (xm_Qc D dA b ext r h') _ s mc ms (fun q => b ≤ q)) (nL := (am_Mt y).2.2.1) (am_isM_le hy) ⟨B.exec, B.bytes, hml, hown, hts⟩ (fun q => hin.trans (am_in_ok y (am_isM_le hy) q)) hK (fun y' As h r h' mc ms hy' hr' => ih y' As h r h' mc ms hy' hr') (Nat.le_refl _) (by show 40 + 40 * d ≤ 40 * (d + 1); omega) n _ g hN (by rw [hz.2.1]; exact Nat.le_refl _) (by rw [hz.2.2]; exact Nat.le_refl _) ?_ s.heap [] ls hP va_S.rf (am_lc_ent hlen hl)
    intro H locs ls hP hS hl
    rw [hz.2.1, hz.2.2]
    rw [hz.1] at hP
    have hrt := am_ops_ok y (am_isM_le hy) g.1 o ho
    have hok1 := hrt.1
    unfold am_ok at hok1
    rw [Bool.and_eq_true] at hok1
    have hd : decode (am_Mt y).2.1 g.1 = .ok (o.1, o.2.1) := of_decide_eq_true hok1.1
    obtain ⟨i, len, a, d', v⟩ := o
    have hlocks := B.notSynchronized
    unfold am_ret at hret
    cases i with
    | ireturn =>
      obtain ⟨v, ty, e1, rfl, e3, e4⟩ := hret
      have hlen : len = 1 := of_decide_eq_true hok1.2
      subst hlen
      rw [e1]
      exact W.zret B.exec B.bytes (B.returns.trans e3) e4 (fun t ht _ => ⟨rfl, by rw [ht]; exact hP, hS.F ht⟩) hS.2.2 hd hlocks
    | areturn =>
      obtain ⟨v, ty, e1, rfl, e3, e4, e5⟩ := hret
      have hlen : len = 1 := of_decide_eq_true hok1.2
      subst hlen
      rw [e1]
      refine W.aret (v := am_vl b am_X ext v) B.exec B.bytes (B.returns.trans e3) e4 ?_ (fun t ht _ => ⟨rfl, by rw [ht]; exact hP, hS.F ht⟩) hS.2.2 hd hlocks
      rcases e5 with rfl | ⟨a, rfl⟩
      · exact Or.inl rfl
      · exact Or.inr ⟨_, rfl⟩
    | return_ =>
      obtain ⟨e1, rfl, e3⟩ := hret
      have hlen : len = 1 := of_decide_eq_true hok1.2
      subst hlen
      rw [e1]
      exact W.vret B.exec B.bytes (B.returns.trans e3) (fun t ht _ => ⟨rfl, by rw [ht]; exact hP, hS.F ht⟩) hS.2.2 hd hlocks
    | _ => cases hret
