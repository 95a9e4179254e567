/-! how the instructions' rows are kept and checked -/
def am_tb : List Cond := lw_tbl.filter goodWord
/-- rows: place, instruction, the places of its words in the tables -/
def am_lf (l : List (Nat × am_O × List Nat)) (pc : Nat) : Option am_O := match l.find? (fun q => Nat.beq q.1 pc) with
  | some q => some q.2.1
  | none => none
def am_sel (cut : Nat) (f g : Nat → Option am_O) (pc : Nat) : Option am_O := bif Nat.ble pc cut then f pc else g pc
/-- a call's link -/
def am_link (M : Nat → MethodName) (own : String) (o : am_O) : List Cond := match o.1 with
  | .invokevirtual i => [.methodLink own i (M o.2.2.1)]
  | .invokestatic i => [.methodLink own i (M o.2.2.1)]
  | .invokespecial i => if o.2.2.1 = 0 then [] else [.methodLink own i (M o.2.2.1)]
  | _ => []
def am_wchk : List Cond → List Nat → Bool
  | [], _ => true
  | w :: ws, i :: is => decide (lw_tbl[i]? = some w) && goodWord w && am_wchk ws is
  | _ :: _, [] => false
theorem am_wchk_ok : ∀ {ws : List Cond} {is : List Nat}, am_wchk ws is = true → ∀ w ∈ ws, w ∈ am_tb
  | [], _, _, w, h => by cases h
  | w0 :: ws, [], h, _, _ => by cases h
  | w0 :: ws, i :: is, h, w, hw => by
    simp only [am_wchk, Bool.and_eq_true, decide_eq_true_eq] at h
    rcases List.mem_cons.mp hw with rfl | hw
    · exact List.mem_filter.mpr ⟨List.mem_of_getElem? h.1.1, h.1.2⟩
    · exact am_wchk_ok h.2 w hw
/-- an instruction's row is right, and its words are in the tables -/
def am_right (own : String) (ini : Bool) (cc : ByteArray) (pc : Nat) (o : am_O) : Prop := am_ok am_cls am_S am_str am_nst own ini cc pc o = true ∧ ∀ w ∈ am_words am_cls am_S own o ++ am_link (fun n => (am_Mt n).1) own o, w ∈ am_tb
def am_lchk (own : String) (ini : Bool) (cc : ByteArray) (q : Nat × am_O × List Nat) : Bool := am_ok am_cls am_S am_str am_nst own ini cc q.1 q.2.1 && am_wchk (am_words am_cls am_S own q.2.1 ++ am_link (fun n => (am_Mt n).1) own q.2.1) q.2.2
theorem am_lf_ok {own : String} {ini : Bool} {cc : ByteArray} {l : List (Nat × am_O × List Nat)} (h : l.all (am_lchk own ini cc) = true) : ∀ pc o, am_lf l pc = some o → am_right own ini cc pc o := by
  intro pc o ho
  unfold am_lf at ho
  split at ho
  · rename_i q hq
    cases ho
    have hm := List.mem_of_find?_eq_some hq
    have hb := List.find?_some hq
    have e : q.1 = pc := Nat.eq_of_beq_eq_true hb
    have hc := List.all_eq_true.mp h q hm
    unfold am_lchk at hc
    rw [Bool.and_eq_true, e] at hc
    exact ⟨hc.1, am_wchk_ok hc.2⟩
  · cases ho
theorem am_sel_ok {own : String} {ini : Bool} {cc : ByteArray} {cut : Nat} {f g : Nat → Option am_O} (hf : ∀ pc o, f pc = some o → am_right own ini cc pc o) (hg : ∀ pc o, g pc = some o → am_right own ini cc pc o) : ∀ pc o, am_sel cut f g pc = some o → am_right own ini cc pc o := by
  intro pc o ho
  unfold am_sel at ho
  cases hc : Nat.ble pc cut with
  | true => rw [hc] at ho; exact hf pc o ho
  | false => rw [hc] at ho; exact hg pc o ho
