/-! THROWS, 1: a walk begun anew where it stands; the statics of Throwable -/
section Th1
variable {p : Program} {l : Launch} {e : Env} {R : Room} {s : State} {m : MethodId} {args : Array Value} {below : List Frame} {meth : Method} {c : Code} {T : State} {locs : List Loc} {k z : Nat}
/-- the state at the call, with the heap that stands now -/
def reS (s T : State) : State := { s with heap := T.heap, slotsUsed := T.slotsUsed }
theorem re_base (X : Stand p l e R s m args below meth c T locs k z) (hk : k ≤ R.cells) (hz : z ≤ R.slots) : Stand p l e { R with cells := R.cells - k, slots := R.slots - z } (reS s T) m args below meth c T [] 0 0 := by
  have hroom := X.room
  have hbook := X.book
  have hs := X.heapSize
  have hu := X.used
  refine ⟨X.admits, X.cas, X.clock, X.frames, ?_, X.hears, X.method, X.code, X.here, X.tail, X.warmed, X.limits, X.bytes, ?_⟩
  · simp only [State.hasRoom, Bool.and_eq_true, decide_eq_true_eq] at hroom ⊢
    obtain ⟨⟨⟨⟨r1, r2⟩, r3⟩, r4⟩, r5⟩ := hroom
    refine ⟨⟨⟨⟨r1, r2⟩, ?_⟩, ?_⟩, hbook⟩
    · show T.heap.size + (R.cells - k) ≤ _
      omega
    · show T.slotsUsed + (R.slots - z) ≤ _
      omega
  · obtain ⟨e1, -⟩ := X.same
    refine ⟨?_, Nat.le_refl _, Nat.le_refl _, ?_, ?_, fun a cell h => ⟨cell, h, rfl, rfl, fun _ _ => rfl⟩⟩
    · exact e1
    · have : ((T.setVm (reS s T).vm).heap.toList.drop (reS s T).heap.size) = [] := by
        apply List.drop_eq_nil_of_le
        show T.heap.toList.length ≤ T.heap.size
        rw [Array.length_toList]; exact Nat.le_refl _
      rw [this]; rfl
    · have : ((T.setVm (reS s T).vm).heap.toList.drop (reS s T).heap.size) = [] := by
        apply List.drop_eq_nil_of_le
        show T.heap.toList.length ≤ T.heap.size
        rw [Array.length_toList]; exact Nat.le_refl _
      rw [this]; exact Nat.le_refl _
/-- what a walk from there leaves, seen from the call -/
theorem re_same (X : Stand p l e R s m args below meth c T locs k z) {U : State} {L : List Loc} {k1 z1 : Nat} (h : (reS s T).sameButNew ({ U with vm := (reS s T).vm } : State) L k1 z1) : s.sameButNew ({ U with vm := s.vm } : State) (locs ++ L) (k + k1) (z + z1) := by
  have e1 := X.same.1
  obtain ⟨q1, q2, q3, q4, q5, q6⟩ := h
  refine X.same.trans (u := ({ U with vm := s.vm } : State)) ⟨?_, q2, q3, q4, q5, q6⟩
  have e2 : (T.setVm s.vm).setFrames U.frames = ({ s.setFrames U.frames with heap := T.heap, slotsUsed := T.slotsUsed } : State) := by
    rw [e1]
    show ({ (s.setFrames T.frames).setFrames U.frames with heap := T.heap, slotsUsed := T.slotsUsed } : State) = _
    rw [State.setFrames_setFrames]
  show ({ U with vm := s.vm } : State) = { (T.setVm s.vm).setFrames U.frames with heap := U.heap, slotsUsed := U.slotsUsed }
  rw [e2]
  exact q1
/-- nothing that stood there has changed -/
theorem re_kept {s U : State} {k1 z1 : Nat} (h : s.sameButNew U [] k1 z1) : ∀ a : Nat, a < s.heap.size → U.heap[a]? = s.heap[a]? := by
  intro a ha
  obtain ⟨-, -, -, -, -, q6⟩ := h
  have hc : s.heap[a]? = some s.heap[a] := Array.getElem?_eq_getElem ha
  obtain ⟨c', h1, h2, h3, h4⟩ := q6 a _ hc
  rw [h1, hc, h2]
  have : c'.slots = (s.heap[a]).slots := by
    apply Array.ext_getElem?
    intro i
    exact h4 i (by simp)
  rw [this]
end Th1
/-- a static of the JDK that holds a reference, below b -/
def thS (C n d : String) (b : Nat) (U : State) : Prop := ∃ c k i f a cell v, U.vm.findClass C = some c ∧ U.fieldFound? C n d = some (c, k, i, f) ∧ f.isStatic = true ∧ k.statics = some a ∧ U.heap[a]? = some cell ∧ cell.vm.isStatics = true ∧ cell.cls = c ∧ f.slot < cell.slots.size ∧ k.staticTypes[f.slot]? = some f.type ∧ cell.slots[f.slot]? = some v ∧ (v = .null ∨ ∃ r, v = .ref r) ∧ a < b
theorem thS.of {C n d : String} {s : State} {args : Array Value} (h1 : (Cond.laysStatic C n d).before args s = true) (h2 : (Cond.isRef (.static C n d)).before args s = true) : thS C n d s.heap.size s := by
  obtain ⟨c, k, i, f, a, cell, hc, hi, hst, ha, hcell, hs, hcls, hlt, hty⟩ := Cond.laysStatic_spec h1
  have hv : ∃ v, (Term.static C n d).eval args s none [] s = some v ∧ (v = .null ∨ ∃ r, v = .ref r) := by
    simp only [Cond.before, Cond.holds, Cond.value] at h2
    cases hh : (Term.static C n d).eval args s none [] s with
    | none => rw [hh] at h2; cases h2
    | some v =>
      rw [hh] at h2
      cases v with
      | null => exact ⟨_, rfl, Or.inl rfl⟩
      | ref r => exact ⟨_, rfl, Or.inr ⟨r, rfl⟩⟩
      | _ => cases h2
  obtain ⟨v, hv, hr⟩ := hv
  obtain ⟨-, a', cell', ha', hcell', -, hslot⟩ := Term.static_spec hi hv
  cases ha.symm.trans ha'
  cases hcell.symm.trans hcell'
  exact ⟨c, k, i, f, a, cell, v, hc, hi, hst, ha, hcell, hs, hcls, hlt, hty, hslot, hr, (Array.getElem?_eq_some_iff.mp hcell).1⟩
theorem thS.to {C n d : String} {b : Nat} {s U : State} (h : thS C n d b s) (hW : s.WarmedH U.vm) (hq : ∀ a : Nat, a < b → U.heap[a]? = s.heap[a]?) : thS C n d b U := by
  obtain ⟨c, k, i, f, a, cell, v, h1, h2, h3, h4, h5, h6, h7, h8, h9, h10, h11, h12⟩ := h
  obtain ⟨k', hi', he⟩ := State.fieldFound?_setVm hW.alike h2
  exact ⟨c, k', i, f, a, cell, v, by rw [hW.alike.findClass]; exact h1, hi', h3, by rw [he]; exact h4, by rw [hq a h12]; exact h5, h6, h7, h8, by rw [he]; exact h9, h10, h11, h12⟩
theorem thS.lays {C n d : String} {b : Nat} {U : State} (h : thS C n d b U) (args : Array Value) : (Cond.laysStatic C n d).before args U = true := by
  obtain ⟨c, k, i, f, a, cell, v, h1, h2, h3, h4, h5, h6, h7, h8, h9, h10, h11, h12⟩ := h
  simp [Cond.before, Cond.holds, Cond.value, h1, h2, h3, h4, h5, h6, h7, h8, h9]
theorem thS.isref {C n d : String} {b : Nat} {U : State} (h : thS C n d b U) (args : Array Value) : (Cond.isRef (.static C n d)).before args U = true := by
  obtain ⟨c, k, i, f, a, cell, v, h1, h2, h3, h4, h5, h6, h7, h8, h9, h10, h11, h12⟩ := h
  have : (Term.static C n d).eval args U none [] U = some v := by
    simp [Term.eval, State.fieldNamed?, h2, h3, h4, h5, h6, h10]
  simp only [Cond.before, Cond.holds, Cond.value, this]
  rcases h11 with rfl | ⟨r, rfl⟩ <;> rfl
