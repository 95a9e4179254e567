/-! CALLS: a method's contract over abstract heaps -/
def am_ws (q : am_M) : List Cond := .code q.1 q.2.1 q.2.2.1 q.2.2.2.1 :: am_tb
def am_st (fm : Value) (j : Nat) : Value := match j with
  | 0 => .int 1
  | 1 => .ref 1
  | _ => fm
def am_rm (d mc ms : Nat) : Room := { frames := d, cells := mc, slots := ms, locals := 40 * d }
/-- the words of a method itself -/
def am_mw2 (q : am_M) : List Cond := [.initialized q.1.cls] ++ (if q.2.2.2.2 then [.static q.1] else [.instanceMethod q.1] ++ (if q.1.name = "<init>" then [] else [.selects q.1.cls q.1 q.1]))
def am_mw (q : am_M) : List Cond := .code q.1 q.2.1 q.2.2.1 q.2.2.2.1 :: am_mw2 q
def am_mright (q : am_M) (np : Nat) : Prop := plainName q.1.cls = true ∧ (q.1.cls ≠ "java/lang/invoke/MethodHandle" ∧ q.1.cls ≠ "java/lang/invoke/VarHandle" ∧ (parseMethodDescriptor q.1.desc).map (fun d => d.parameters.length) = some np) ∧ q.2.2.1 ≤ 20 ∧ ∀ w ∈ am_mw q, w ∈ am_tb
def am_mchk (q : am_M) (np : Nat) (is : List Nat) : Bool := plainName q.1.cls && decide (q.1.cls ≠ "java/lang/invoke/MethodHandle" ∧ q.1.cls ≠ "java/lang/invoke/VarHandle" ∧ (parseMethodDescriptor q.1.desc).map (fun d => d.parameters.length) = some np) && decide (q.2.2.1 ≤ 20) && am_wchk (am_mw2 q) is
theorem am_mchk_ok {q : am_M} {np : Nat} {is : List Nat} (hc : Cond.code q.1 q.2.1 q.2.2.1 q.2.2.2.1 ∈ am_tb) (h : am_mchk q np is = true) : am_mright q np := by
  unfold am_mchk at h
  simp only [Bool.and_eq_true, decide_eq_true_eq] at h
  exact ⟨h.1.1.1, h.1.1.2, h.1.2, fun w hw => (List.mem_cons.mp hw).elim (fun e => e ▸ hc) (am_wchk_ok h.2 w)⟩
theorem am_tb_good {w : Cond} (h : w ∈ am_tb) : w ∈ am_tb ∧ ((w.onTables && w.keeps) = true ∨ ∃ ty, w = .arrayClass ty) := ⟨h, good_of_word (List.mem_filter.mp h).2⟩
theorem am_ws_good {q : am_M} {np : Nat} (h : am_mright q np) : GoodIn am_tb (am_ws q) := by
  intro w hw
  rcases List.mem_cons.mp hw with rfl | hw
  · exact am_tb_good (h.2.2.2 _ (by simp [am_mw]))
  · exact am_tb_good hw
/-- an object of the method's own class stands first -/
def am_rcv (h : am_H) (q : am_M) (As : List Value) : Bool := match As with
  | .ref a :: _ => match h.1 a with
    | some (.inr (ci, _)) => match am_cls[ci]? with
      | some (C, _, _) => decide (C = q.1.cls)
      | none => false
    | _ => false
  | _ => false
def am_call (o : am_O) (q : am_M) (h : am_H) (As : List Value) : Bool := match o.1 with
  | .invokevirtual _ => !q.2.2.2.2 && decide (q.1.name ≠ "<init>") && am_rcv h q As && decide (As.length = o.2.2.2.1 + 1)
  | .invokespecial _ => !q.2.2.2.2 && decide (o.2.2.1 ≠ 0) && decide (q.1.name = "<init>") && decide (q.2.2.2.1 = none) && decide (As.length = o.2.2.2.1 + 1) && match As with
    | .ref _ :: _ => true
    | _ => false
  | .invokestatic _ => q.2.2.2.2 && decide (As.length = o.2.2.2.1)
  | _ => false
section AmCall
variable {p : Program} {l : Launch} {e : Env} {R : Room} {s : State} {m : MethodId} {args : Array Value} {below : List Frame} {meth : Method} {c : Code} {H : Heap} {locs : List Loc} {Q : State → Prop}
variable {D : va_G} {dA : Nat → ClassId} {b : Nat} {ext : Nat → Nat} {fm : Value} {h h' : am_H} {cc : ByteArray} {pc : Nat} {ls : Array Slot} {nL : Nat} {loc : am_L} {k z mc ms d : Nat} {own : String} {ini : Bool} {o : am_O} {As rest : List Value} {r : Option Value}
def am_Pc (D : va_G) (dA : Nat → ClassId) (b : Nat) (ext : Nat → Nat) (fm : Value) (As : List Value) (h : am_H) : Array Value → State → Prop :=
  va_Pc (As.map (am_vl b am_X ext)) (fun U => am_P D am_cls dA b am_X ext h U.heap ∧ am_K D am_cls dA b am_X ext (am_st fm) am_S am_str am_nst U)
def am_Qc (D : va_G) (dA : Nat → ClassId) (b : Nat) (ext : Nat → Nat) (r : Option Value) (h' : am_H) : Array Value → State → Outcome → State → Prop :=
  fun _ st oc t => oc = .returned (r.map (am_vl b am_X ext)) ∧ am_P D am_cls dA b am_X ext h' t.heap ∧ va_F (fun q => b ≤ q) st t
def am_Met (l : Launch) (D : va_G) (dA : Nat → ClassId) (b : Nat) (ext : Nat → Nat) (fm : Value) (d : Nat) (q : am_M) (As : List Value) (h : am_H) (r : Option Value) (h' : am_H) (mc ms : Nat) : Prop :=
  Met l q.1 (am_ws q) (am_rm d mc ms) (am_Pc D dA b ext fm As h) (am_Qc D dA b ext r h') mc ms (fun q => b ≤ q)
theorem am_K_to {X : Nat} {cl : List vw_C} {st : Nat → Value} {S : List (String × String × String)} {str : List (String × Nat × String × Nat)} {nst : List (String × Nat × String × String × String)} (hK : am_K D cl dA b X ext st S str nst s) (hS : va_S (fun q => b ≤ q) s.heap H locs) {U : State} (hU : U.heap = H) (hW : s.WarmedH U.vm) : am_K D cl dA b X ext st S str nst U := by
  obtain ⟨h1, h2, h3, h4, h5⟩ := hK
  refine ⟨va_K.moved hW.alike h1, by rw [hU]; exact Nat.le_trans h2 hS.1, fun j q hq => ?_, fun q hq => vk_R.warm hW (h4 q hq), fun q hq => va_Nw.warmF hW (h5 q hq)⟩
  rw [hU]
  exact va_Z.moved hW.alike (va_Z.kept (h3 j q hq) hS.2.1)
theorem am_blind : FrameBlind (am_Pc D dA b ext fm As h) := by
  intro a U g mk q
  obtain ⟨q0, q1, h1, h2, h3, h4, h5⟩ := q
  exact ⟨q0, q1, va_K.moved (u := U) (U := U.calling g mk a) (Vm.Alike.refl U.vm) h1, h2, fun j q hq => va_Z.moved (u := U) (U := U.calling g mk a) (Vm.Alike.refl U.vm) (h3 j q hq), fun q hq => vk_R.same (u := U) (U := U.calling g mk a) rfl (h4 q hq), fun q hq => va_Nw.same (u := U) (U := U.calling g mk a) rfl rfl (h5 q hq)⟩
/-- from a run of the callee on -/
theorem am_go {a0 : Array Value} {st0 rs : List Value} (hr : va_Run p l e R s m args below meth c H locs k z mc ms (F0 m pc ls st0) rs (am_Qc D dA b ext r h' a0) (fun q => b ≤ q)) (hS : va_S (fun q => b ≤ q) s.heap H locs)
    (kk : ∀ (H1 : Heap) (locs1 : List Loc), am_P D am_cls dA b am_X ext h' H1 → va_S (fun q => b ≤ q) s.heap H1 locs1 → W p l e R s m args below meth c H1 locs1 (k + mc) (z + ms) Q (F0 m (pc + 3) ls ((r.map (am_vl b am_X ext)).toList ++ rs))) : W p l e R s m args below meth c H locs k z Q (F0 m pc ls st0) := by
  intro T hT X
  obtain ⟨v, st₀, t, T', L, h0, X', hL, e1, e2, ⟨hv, hp, hz, hk⟩, st⟩ := hr T hT X
  have hv' : v = r.map (am_vl b am_X ext) := by cases hv; rfl
  subst hv'
  rw [h0] at hz hk
  obtain ⟨t2, a1, b1⟩ := kk T'.heap (locs ++ L) (by rw [e1]; exact hp)
    ⟨Nat.le_trans hS.1 (by rw [e1]; exact hz), fun q h1 h2 => by rw [e1, hk q (Nat.lt_of_lt_of_le h1 hS.1) h2]; exact hS.2.1 q h1 h2, fun q hq => by
      rcases List.mem_append.mp hq with h | h
      · exact hS.2.2 q h
      · exact hL q h⟩ T' rfl X'
  exact ⟨t2, st t2 a1, b1⟩
theorem am_cat_map (vs : List Value) : ((vs.map (am_vl b am_X ext)).map fun v => v.category).sum = (vs.map fun v => v.category).sum := by
  rw [List.map_map]; congr 2; funext v; exact am_vl_cat b am_X ext v
set_option maxHeartbeats 4000000 in
theorem am_W_call (CF : CallFix p m c cc nL s args am_tb own) (hK : am_K D am_cls dA b am_X ext (am_st fm) am_S am_str am_nst s) (hok : am_right own ini cc pc o) (hM0 : am_mright (am_Mt o.2.2.1) o.2.2.2.1) (hcall : am_call o (am_Mt o.2.2.1) h As = true)
    (hmet : am_Met l D dA b ext fm d (am_Mt o.2.2.1) As h r h' mc ms) (hR1 : d + 1 ≤ R.frames) (hR2 : 39 + 40 * d ≤ R.locals) (hk1 : k + mc ≤ R.cells) (hk2 : z + ms ≤ R.slots) (hsum : (rest.map fun v => v.category).sum ≤ 8)
    (hP : am_P D am_cls dA b am_X ext h H) (hS : va_S (fun q => b ≤ q) s.heap H locs) (hl : am_lc b am_X ext ls nL loc)
    (kk : ∀ (H1 : Heap) (locs1 : List Loc), am_P D am_cls dA b am_X ext h' H1 → va_S (fun q => b ≤ q) s.heap H1 locs1 → W p l e R s m args below meth c H1 locs1 (k + mc) (z + ms) Q (F0 m (pc + 3) ls ((r.toList ++ rest).map (am_vl b am_X ext)))) :
    W p l e R s m args below meth c H locs k z Q (F0 m pc ls ((As.reverse ++ rest).map (am_vl b am_X ext))) := by
  obtain ⟨hx, hb, hml, hown, hts⟩ := id CF
  obtain ⟨hok1, hok2⟩ := hok
  have hkk : ∀ (H1 : Heap) (locs1 : List Loc), am_P D am_cls dA b am_X ext h' H1 → va_S (fun q => b ≤ q) s.heap H1 locs1 → W p l e R s m args below meth c H1 locs1 (k + mc) (z + ms) Q (F0 m (pc + 3) ls ((r.map (am_vl b am_X ext)).toList ++ rest.map (am_vl b am_X ext))) := by
    intro H1 locs1 h1 h2
    have := kk H1 locs1 h1 h2
    rw [List.map_append] at this
    cases r <;> exact this
  have hstk : ((As.reverse ++ rest).map (am_vl b am_X ext)) = (As.map (am_vl b am_X ext)).reverse ++ rest.map (am_vl b am_X ext) := by rw [List.map_append, List.map_reverse]
  have hroom : 2 * (F0 m pc ls ((As.reverse ++ rest).map (am_vl b am_X ext))).monitorRoom + ((rest.map (am_vl b am_X ext)).map fun v => v.category).sum ≤ 8 := lv_room (by rw [am_cat_map]; exact hsum)
  obtain ⟨i, len, y, n, v⟩ := o
  unfold am_ok at hok1
  rw [Bool.and_eq_true] at hok1
  obtain ⟨hd0, hok1⟩ := hok1
  have hd : decode cc pc = .ok (i, len) := of_decide_eq_true hd0
  have hpre : ∀ U : State, U.heap = H → s.WarmedH U.vm → am_Pc D dA b ext fm As h (As.map (am_vl b am_X ext)).toArray U := fun U hU hW => ⟨rfl, by rw [hU]; exact hP, am_K_to hK hS hU hW⟩
  have hrm : (am_rm d mc ms).frames + 1 ≤ R.frames ∧ 8 + ((am_Mt y).2.2.1 + 11) + (am_rm d mc ms).locals ≤ R.locals := ⟨hR1, by have : (am_Mt y).2.2.1 ≤ 20 := hM0.2.2.1; show 8 + ((am_Mt y).2.2.1 + 11) + 40 * d ≤ _; omega⟩
  have hmw := hM0.2.2.2
  cases i with
  | invokevirtual i =>
    have hlen : len = 3 := of_decide_eq_true hok1
    subst hlen
    simp only [am_call, Bool.and_eq_true, decide_eq_true_eq, Bool.not_eq_true'] at hcall
    obtain ⟨⟨⟨c1, c2⟩, c3⟩, c4⟩ := hcall
    have hmw : ∀ w ∈ am_mw (am_Mt y), w ∈ am_tb := hmw
    have cb := callB_of (s := s) (args := args) (R := R) (own := own) (index := i) (rm := am_rm d mc ms) (mc := mc) (ms := ms) n hts (am_ws_good hM0) rfl rfl rfl (hts _ (hmw (.initialized (am_Mt y).1.cls) (by simp [am_mw, am_mw2]))) (hts (.methodLink own i (am_Mt y).1) (hok2 _ (List.mem_append_right _ (by simp [am_link])))) hM0.2.1 hrm
    unfold am_rcv at c3
    split at c3
    · rename_i a As' 
      split at c3
      · rename_i ci fs ha
        split at c3
        · rename_i C T N hc
          have hC : C = (am_Mt y).1.cls := of_decide_eq_true c3
          have hrecv := va_recv hK.1 (am_P_one hP ha) (ci := ci) (q0 := 0) hc rfl
          rw [hC] at hrecv
          refine am_go (va_runV (C := (am_Mt y).1.cls) (As := As'.map (am_vl b am_X ext)) CF hmet ⟨cb, hts _ (hmw (.instanceMethod (am_Mt y).1) (by simp [am_mw, am_mw2, c1])), hts _ (hmw (.selects (am_Mt y).1.cls (am_Mt y).1 (am_Mt y).1) (by simp [am_mw, am_mw2, c1, c2]))⟩ ⟨am_blind, hrecv, hpre⟩ rfl (by rw [List.length_map]; simp at c4; exact c4) hl.2.1 ?_ hroom hd ⟨hk1, hk2⟩) hS hkk
          show ((Value.ref a :: As').reverse ++ rest).map (am_vl b am_X ext) = _
          rw [hstk]
          simp
          rfl
        · cases c3
      · cases c3
    · cases c3
  | invokespecial i =>
    have hlen : len = 3 := of_decide_eq_true hok1
    subst hlen
    simp only [am_call, Bool.and_eq_true, decide_eq_true_eq, Bool.not_eq_true'] at hcall
    obtain ⟨⟨⟨⟨⟨c1, c2⟩, c3⟩, c4⟩, c5⟩, c6⟩ := hcall
    have hmw : ∀ w ∈ am_mw (am_Mt y), w ∈ am_tb := hmw
    have cb := callB_of (s := s) (args := args) (R := R) (own := own) (index := i) (rm := am_rm d mc ms) (mc := mc) (ms := ms) n hts (am_ws_good hM0) rfl rfl rfl (hts _ (hmw (.initialized (am_Mt y).1.cls) (by simp [am_mw, am_mw2]))) (hts (.methodLink own i (am_Mt y).1) (hok2 _ (List.mem_append_right _ (by have c2 : ¬ y = 0 := c2; simp [am_link, c2])))) hM0.2.1 hrm
    have c4 : (am_Mt y).2.2.2.1 = none := c4
    rw [c4] at cb
    split at c6
    · rename_i a As'
      refine am_go (va_runI (b := am_ad b am_X ext a) (As := As'.map (am_vl b am_X ext)) CF hmet ⟨cb, c3, hts _ (hmw (.instanceMethod (am_Mt y).1) (by simp [am_mw, am_mw2, c1]))⟩ ⟨am_blind, hpre⟩ rfl (by rw [List.length_map]; simp at c5; exact c5) hl.2.1 ?_ hroom hd ⟨hk1, hk2⟩) hS hkk
      show ((Value.ref a :: As').reverse ++ rest).map (am_vl b am_X ext) = _
      rw [hstk]
      simp
      rfl
    · cases c6
  | invokestatic i =>
    have hlen : len = 3 := of_decide_eq_true hok1
    subst hlen
    simp only [am_call, Bool.and_eq_true, decide_eq_true_eq] at hcall
    obtain ⟨c1, c2⟩ := hcall
    have hmw : ∀ w ∈ am_mw (am_Mt y), w ∈ am_tb := hmw
    have cb := callB_of (s := s) (args := args) (R := R) (own := own) (index := i) (rm := am_rm d mc ms) (mc := mc) (ms := ms) n hts (am_ws_good hM0) rfl rfl rfl (hts _ (hmw (.initialized (am_Mt y).1.cls) (by simp [am_mw, am_mw2]))) (hts (.methodLink own i (am_Mt y).1) (hok2 _ (List.mem_append_right _ (by simp [am_link])))) hM0.2.1 hrm
    exact am_go (va_runS (As := As.map (am_vl b am_X ext)) CF hmet ⟨cb, hts _ (hmw (.static (am_Mt y).1) (by simp [am_mw, am_mw2, c1]))⟩ ⟨am_blind, hpre⟩ rfl (by rw [List.length_map]; exact c2) hl.2.1 hstk hroom hd ⟨hk1, hk2⟩) hS hkk
  | _ => exact absurd hcall (by simp [am_call])
end AmCall
