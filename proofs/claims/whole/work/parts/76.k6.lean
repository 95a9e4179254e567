/-! THROWS, 2: the words; an exception is made and thrown -/
def thU : List String := ["java/lang/RuntimeException", "java/lang/Exception"]
def thA : String := "java/lang/IllegalArgumentException"
def thI : String := "java/lang/IllegalStateException"
def thB : String := "java/lang/IndexOutOfBoundsException"
def th8 (X : String) : List Cond := [.laysStatic Bundle.tN "UNASSIGNED_STACK" Bundle.steD, .laysStatic Bundle.tN "SUPPRESSED_SENTINEL" Bundle.listD, .declares (Bundle.initS "java/lang/RuntimeException"), .declares (Bundle.initS "java/lang/Exception"), .declares (Bundle.initS Bundle.tN), .castable X X, .isRef (.static Bundle.tN "UNASSIGNED_STACK" Bundle.steD), .isRef (.static Bundle.tN "SUPPRESSED_SENTINEL" Bundle.listD)]
def thOk (ic : Nat) (X : String) : Bool := (Bundle.ownAtoms "MarkInlines" ic X thU).all (fun w => am_tb.contains w || (th8 X).contains w)
theorem thOk_A : thOk 104 thA = true := by decide +kernel
theorem thOk_I : thOk 117 thI = true := by decide +kernel
theorem thOk_B : thOk 156 thB = true := by decide +kernel
/-- a method with code declares itself -/
theorem dec_of {x : MethodName} {bytes : ByteArray} {n : Nat} {ret : Option FieldType} {args args' : Array Value} {U : State} (h1 : (Cond.instanceMethod x).before args U = true) (h2 : (Cond.code x bytes n ret).before args U = true) : (Cond.declares x).before args' U = true := by
  obtain ⟨m, meth, hn, hm, hst, -⟩ := Cond.instanceMethod_spec h1
  obtain ⟨meth', c', hm', -, -, -, -, -, -, hsig⟩ := Cond.code_spec hn h2
  cases hm.symm.trans hm'
  simp [Cond.before, Cond.holds, Cond.value, hn, hm, hst, hsig]
/-- what exceptions want of a state -/
def TH (b : Nat) (U : State) : Prop := thS Bundle.tN "UNASSIGNED_STACK" Bundle.steD b U ∧ thS Bundle.tN "SUPPRESSED_SENTINEL" Bundle.listD b U ∧ (∀ X ∈ [thA, thI, thB], (Cond.castable X X).before #[] U = true) ∧ (Cond.not (.castable thI thA)).before #[] U = true
theorem cast_to {s U : State} (hal : s.vm.Alike U.vm) {A A' : Array Value} {X Y : String} : (Cond.castable X Y).before A' U = (Cond.castable X Y).before A s := by
  simp only [Cond.before, Cond.holds, Cond.value, hal.findClass, hal.assignable]
theorem ncast_to {s U : State} (hal : s.vm.Alike U.vm) {A A' : Array Value} {X Y : String} : (Cond.not (.castable X Y)).before A' U = (Cond.not (.castable X Y)).before A s := by
  simp only [Cond.before, Cond.holds, Cond.value, hal.findClass, hal.assignable]
theorem TH.to {b : Nat} {s U : State} (h : TH b s) (hW : s.WarmedH U.vm) (hq : ∀ a : Nat, a < b → U.heap[a]? = s.heap[a]?) : TH b U :=
  ⟨h.1.to hW hq, h.2.1.to hW hq, fun X hX => by rw [cast_to (A := #[]) hW.alike]; exact h.2.2.1 X hX, by rw [ncast_to (A := #[]) hW.alike]; exact h.2.2.2⟩
theorem th_words {b ic : Nat} {X : String} {args : Array Value} {U : State} (hok : thOk ic X = true) (hX : X ∈ [thA, thI, thB]) (hw : ∀ w ∈ am_tb, w.before args U = true) (hT : TH b U) : ∀ w ∈ Bundle.ownAtoms "MarkInlines" ic X thU, w.before args U = true := by
  have hin : ∀ Y bytes, Cond.instanceMethod (Bundle.initS Y) ∈ am_tb → Cond.code (Bundle.initS Y) bytes 2 none ∈ am_tb → (Cond.declares (Bundle.initS Y)).before args U = true := fun Y bytes h1 h2 => dec_of (hw _ h1) (hw _ h2)
  intro w hm
  have := List.all_eq_true.mp hok w hm
  rw [Bool.or_eq_true] at this
  rcases this with h | h
  · exact hw w (List.contains_iff_mem.mp h)
  · have h := List.contains_iff_mem.mp h
    simp only [th8, List.mem_cons, List.not_mem_nil, or_false] at h
    rcases h with e | e | e | e | e | e | e | e <;> rw [e]
    · exact hT.1.lays args
    · exact hT.2.1.lays args
    · exact hin "java/lang/RuntimeException" Bundle.six (by decide +kernel) (by decide +kernel)
    · exact hin "java/lang/Exception" Bundle.six (by decide +kernel) (by decide +kernel)
    · exact hin Bundle.tN LibCode.Throwable.InitS.code (by decide +kernel) (by decide +kernel)
    · rw [cast_to (A := #[]) (s := U) (Vm.Alike.refl _)]; exact hT.2.2.1 X hX
    · exact hT.1.isref args
    · exact hT.2.1.isref args
