/-! THE START, 2: the abstract heap at the law's entry -/
section Start2
variable {s : State} {b0 L : Nat} {xs : Nat → Int32}
/-- the cells that were there before -/
def sf_0 (L : Nat) (xs : Nat → Int32) : Nat → Option am_C := fun a => if a = 0 then some (.inl (0, L, .inl xs)) else if a = 1 then some (.inl (0, 16, .inl (fun j => zr_named.getD j 0))) else if a < 56 then (if a % 2 = 0 then some (.inr (12, [.ref (a + 1), .int 0])) else some (.inl (2, (am_byt.getD ((a - 3) / 2) []).length, .inl (fun i => (am_byt.getD ((a - 3) / 2) []).getD i 0)))) else none
def sx_ext (b0 aN r : Nat) (aK aV : Nat → Nat) : Nat → Nat := fun a => if a = 0 then b0 else if a = 1 then aN else if a = 56 then r else if a % 2 = 0 then aK ((a - 2) / 2) else aV ((a - 3) / 2)
def sd_A (c0 cN : ClassId) (cV : Nat → ClassId) (base : Nat → ClassId) : Nat → ClassId := fun i => if i = 4 then c0 else if i = 8 then cN else if i % 8 = 2 ∧ 18 ≤ i ∧ i < 234 then cV ((i - 18) / 8) else base (i % 4)
theorem sf_ext : zr_ext (L, xs) (sf_0 L xs) := by
  refine ⟨rfl, rfl, fun j hj => ⟨?_, ?_⟩⟩
  · unfold sf_0
    rw [if_neg (by omega), if_neg (by omega), if_pos (by omega), if_pos (by omega), show 2 + 2 * j + 1 = 3 + 2 * j by omega]
  · unfold sf_0
    rw [if_neg (by omega), if_neg (by omega), if_pos (by omega), if_neg (by omega), show (3 + 2 * j - 3) / 2 = j by omega]
theorem sn_num : ∀ j, j < 27 → (am_str.getD j ("", 0, "", 0)).2.2.2 = 2 + 2 * j := by decide +kernel
theorem ArrOfT.of {cell : Cell} {ty : FieldType} (h : s.isArrayOf cell ty) : ArrOfT s cell.cls ty := by
  obtain ⟨-, k, hk, comp, hkind⟩ := h
  exact fun n z => ⟨fun k h => (by cases h), k, hk, comp, hkind⟩
theorem sn_arr {args : Array Value} {ty : FieldType} (h : (Cond.arrayClass ty).before args s = true) : ∃ cA, ArrOfT s cA ty ∧ s.vm.findClass ("[" ++ ty.toString) = some cA := by
  obtain ⟨c, k, comp, h1, h2, h3⟩ := Cond.arrayClass_spec h
  exact ⟨c, fun n z => ⟨fun k h => (by cases h), k, h2, comp, h3⟩, h1⟩
/-- what holds at the start -/
def ST (b0 L : Nat) (xs : Nat → Int32) (s : State) (D : va_G) (dA : Nat → ClassId) (ext : Nat → Nat) (fm : Value) : Prop :=
  xm_K D am_cls dA s.heap.size am_X ext (am_st fm) am_S am_str am_nst s ∧ TH s.heap.size s ∧ (fm = .null ∨ ∃ q, fm = .ref q) ∧ ext 0 = b0 ∧ xm_P D am_cls dA s.heap.size am_X ext (sf_0 L xs, 57) s.heap
set_option maxHeartbeats 4000000 in
theorem st_all (hts : ∀ w ∈ lw_tbl, w.before #[Value.ref b0] s = true) (hX : va_X b0 L xs s s.heap) (hg : (Cond.and given_1 narrow_1).before #[Value.ref b0] s = true) : ∃ D dA ext fm, ST b0 L xs s D dA ext fm := by
  have hs := flat_of_before _ hg
  have hA : ∀ a : Nat, a < s.heap.size → ¬ (fun q => s.heap.size ≤ q) a := fun a h1 h2 => absurd (Nat.lt_of_lt_of_le h1 h2) (Nat.lt_irrefl _)
  -- strings
  have h0 : ∀ j : Nat, ∃ q : Nat × Nat, j < 27 → (Term.string (am_str.getD j ("", 0, "", 0)).1 (am_str.getD j ("", 0, "", 0)).2.1).eval #[Value.ref b0] s none [] s = some (.ref q.1) ∧ va_O "java/lang/String" q.1 (fun q => s.heap.size ≤ q) s s.heap ∧ va_OF "java/lang/String" "coder" "B" (.int 0) q.1 (fun q => s.heap.size ≤ q) s s.heap ∧ va_OF "java/lang/String" "value" "[B" (.ref q.2) q.1 (fun q => s.heap.size ≤ q) s s.heap ∧ va_T .byte q.2 (am_byt.getD j []).length (fun i => .int ((am_byt.getD j []).getD i 0)) (fun q => s.heap.size ≤ q) s s.heap := by
    intro j
    by_cases hj : j < 27
    · obtain ⟨aK, aV, h⟩ := sn_str hA hg hj
      exact ⟨(aK, aV), fun _ => h⟩
    · exact ⟨(0, 0), fun h => absurd h hj⟩
  obtain ⟨ad, had⟩ := Classical.axiomOfChoice h0
  obtain ⟨aN, hN1, hN2⟩ := sn_named hA hg
  obtain ⟨scr, hx1, hx2, hx3, hx4, hx5⟩ := hX
  have hb0 : b0 < s.heap.size := (Array.getElem?_eq_some_iff.mp hx1).1
  -- classes of arrays
  have hbase : ∀ i : Nat, ∃ cA : ClassId, ArrOfT s cA (xm_kty i) ∧ s.vm.findClass ("[" ++ (xm_kty i).toString) = some cA := by
    intro i
    refine sn_arr (hts _ (sn_tb.2.2.2.2.1 _ ?_))
    unfold xm_kty
    split <;> simp
  obtain ⟨base, hbase⟩ := Classical.axiomOfChoice hbase
  have hcV : ∀ j : Nat, ∃ cA : ClassId, j < 27 → ∃ cell, s.heap[(ad j).2]? = some cell ∧ cell.cls = cA := by
    intro j
    by_cases hj : j < 27
    · obtain ⟨cell, h1, -⟩ := (had j hj).2.2.2.2
      exact ⟨cell.cls, fun _ => ⟨cell, h1, rfl⟩⟩
    · exact ⟨base 0, fun h => absurd h hj⟩
  obtain ⟨cV, hcV⟩ := Classical.axiomOfChoice hcV
  obtain ⟨cN, hN3, hN4, hN5, hN6, hN7, hN8, hN9⟩ := id hN2
  -- the classes
  have htb : ∀ w ∈ am_tb, w.before #[Value.ref b0] s = true := fun w hw => hts w (List.mem_filter.mp hw).1
  have hD : ∀ c : Nat, ∃ q : ClassId × (Nat → Nat), ∀ r : vw_C, am_cls[c]? = some r → u_Kn s r.1 r.2.1 r.2.2 q.1 q.2 := by
    intro c
    cases hc : am_cls[c]? with
    | none => exact ⟨(base 0, fun _ => 0), fun r h => by cases h⟩
    | some r =>
      obtain ⟨C, T, N⟩ := r
      obtain ⟨n, hn⟩ := sn_inst _ (List.mem_of_getElem? hc)
      obtain ⟨cC, iS, hk⟩ := u_known (n := n) htb (am_Gok c C T N hc).1 (hts _ hn)
      exact ⟨(cC, iS), fun r h => by cases h; exact hk⟩
  obtain ⟨Dg, hD⟩ := Classical.axiomOfChoice hD
  -- the formatter
  have hfm : ∃ (r : Nat) (fm : Value), r < s.heap.size ∧ (fm = .null ∨ ∃ q, fm = .ref q) ∧ ∀ ext : Nat → Nat, ext 56 = r → (Term.static "jdk/internal/util/Preconditions" "SIOOBE_FORMATTER" "Ljava/util/function/BiFunction;").eval #[Value.ref b0] s none [] s = some (am_vl s.heap.size am_X ext fm) := by
    have h := hs _ sn_cs.2.1
    cases hv : (Term.static "jdk/internal/util/Preconditions" "SIOOBE_FORMATTER" "Ljava/util/function/BiFunction;").eval #[Value.ref b0] s none [] s with
    | none => simp [Cond.before, Cond.holds, Cond.value, hv] at h
    | some w =>
      simp only [Cond.before, Cond.holds, Cond.value, hv] at h
      cases w with
      | null => exact ⟨b0, .null, hb0, Or.inl rfl, fun _ _ => rfl⟩
      | ref t0 =>
        obtain ⟨t, e0⟩ : ∃ t : Nat, t = t0 := ⟨t0, rfl⟩
        subst e0
        by_cases ht : t < s.heap.size
        · exact ⟨t, .ref 56, ht, Or.inr ⟨_, rfl⟩, fun ext he => by
            show some (Value.ref t) = some (.ref (am_ad s.heap.size am_X ext 56))
            rw [xm_ad_old (by decide), he]⟩
        · refine ⟨b0, .ref (57 + (t - s.heap.size)), hb0, Or.inr ⟨_, rfl⟩, fun ext he => ?_⟩
          show some (Value.ref t) = some (.ref (am_ad s.heap.size am_X ext (57 + (t - s.heap.size))))
          rw [am_ad_new (show 57 ≤ 57 + (t - s.heap.size) by omega), show s.heap.size + (57 + (t - s.heap.size) - am_X) = t by show s.heap.size + (57 + (t - s.heap.size) - 57) = t; omega]
      | _ => simp at h
  obtain ⟨r, fm, hr, hfm1, hfm2⟩ := hfm
  have eK : ∀ j, j < 27 → sx_ext b0 aN r (fun j => (ad j).1) (fun j => (ad j).2) (2 + 2 * j) = (ad j).1 := fun j hj => by
    unfold sx_ext
    rw [if_neg (by omega), if_neg (by omega), if_neg (by omega), if_pos (by omega), show (2 + 2 * j - 2) / 2 = j by omega]
  have eV : ∀ j, j < 27 → sx_ext b0 aN r (fun j => (ad j).1) (fun j => (ad j).2) (3 + 2 * j) = (ad j).2 := fun j hj => by
    unfold sx_ext
    rw [if_neg (by omega), if_neg (by omega), if_neg (by omega), if_neg (by omega), show (3 + 2 * j - 3) / 2 = j by omega]
  have dV : ∀ j, j < 27 → sd_A scr.cls cN.cls cV base (4 * (3 + 2 * j + 1) + 2) = cV j := fun j hj => by
    unfold sd_A
    rw [if_neg (by omega), if_neg (by omega), if_pos (by omega), show (4 * (3 + 2 * j + 1) + 2 - 18) / 8 = j by omega]
  refine ⟨(fun c => (Dg c).1, fun c => (Dg c).2), sd_A scr.cls cN.cls cV base, sx_ext b0 aN r (fun j => (ad j).1) (fun j => (ad j).2), fm, ?_, ?_, hfm1, rfl, ?_⟩
  · refine ⟨⟨fun c q hq => hD c q hq, fun k q hq => ?_⟩, Nat.le_refl _, fun j q hq => ?_, fun q hq => ?_, fun q hq => ?_, fun i => ?_⟩
    · have hk : k < 4 := (List.getElem?_eq_some_iff.mp hq).1
      rcases (show k = 0 ∨ k = 1 ∨ k = 2 ∨ k = 3 by omega) with e | e | e | e <;> subst e <;> cases hq
      · exact hbase 0
      · exact hbase 1
      · exact hbase 2
      · exact hbase 3
    · have hj : j < 3 := (List.getElem?_eq_some_iff.mp hq).1
      have hw := sn_tb.1 q (List.mem_of_getElem? hq)
      rcases (show j = 0 ∨ j = 1 ∨ j = 2 by omega) with e | e | e <;> subst e <;> cases hq
      · exact va_Zof (hts _ hw.1) (hts _ hw.2) (va_eqi (hs _ sn_cs.1)) hA
      · exact va_Zof (hts _ hw.1) (hts _ hw.2) hN1 hA
      · exact va_Zof (hts _ hw.1) (hts _ hw.2) (hfm2 _ rfl) hA
    · obtain ⟨j, hj⟩ := List.mem_iff_getElem?.mp hq
      have hj27 : j < 27 := (List.getElem?_eq_some_iff.mp hj).1
      have e : am_str.getD j ("", 0, "", 0) = q := by rw [List.getD_eq_getElem?_getD, hj]; rfl
      have h1 := (had j hj27).1
      have h2 := sn_num j hj27
      rw [e] at h1 h2
      rw [h2, xm_ad_old (show 2 + 2 * j < 57 by omega), eK j hj27]
      exact vk_R.of (hts _ (sn_refs q hq)) h1
    · exact va_Nw.of rfl (hts _ (sn_tb.2.2.2.2.2 q hq))
    · unfold sd_A
      by_cases h4 : i = 4
      · rw [if_pos h4, h4]
        exact ArrOfT.of hx2
      · rw [if_neg h4]
        by_cases h8 : i = 8
        · rw [if_pos h8, h8]
          exact ArrOfT.of hN4
        · rw [if_neg h8]
          by_cases hv : i % 8 = 2 ∧ 18 ≤ i ∧ i < 234
          · rw [if_pos hv]
            have hj : (i - 18) / 8 < 27 := by omega
            obtain ⟨cell, g1, g2⟩ := (had _ hj).2.2.2.2
            obtain ⟨cell', g3, g4⟩ := hcV _ hj
            cases g1.symm.trans g3
            rw [← g4]
            have e : xm_kty i = .byte := by
              unfold xm_kty
              rw [show i % 4 = 2 by omega]
              rfl
            rw [e]
            exact ArrOfT.of g2.1
          · rw [if_neg hv]
            have e : xm_kty i = xm_kty (i % 4) := by
              unfold xm_kty
              rw [show i % 4 % 4 = i % 4 by omega]
            rw [e]
            exact (hbase (i % 4)).1
  · refine ⟨thS.of (hts _ sn_tb.2.1) (hs _ sn_cs.2.2.1), thS.of (hts _ sn_tb.2.2.1) (hs _ sn_cs.2.2.2.1), fun X hX => ?_, ?_⟩
    · rw [cast_to (A := #[Value.ref b0]) (s := s) (Vm.Alike.refl _)]
      exact hts _ (sn_tb.2.2.2.1 X hX)
    · rw [ncast_to (A := #[Value.ref b0]) (s := s) (Vm.Alike.refl _)]
      exact hs _ sn_cs.2.2.2.2
  · refine ⟨Nat.le_refl _, rfl, fun a ha => ?_, fun a c hc => ?_⟩
    · unfold sx_ext
      split
      · exact hb0
      split
      · exact (Array.getElem?_eq_some_iff.mp hN3).1
      split
      · exact hr
      rename_i g1 g2 g3
      have ha' : a < 57 := ha
      split
      · obtain ⟨cell, h1, -⟩ := (had ((a - 2) / 2) (by omega)).2.1
        exact (Array.getElem?_eq_some_iff.mp h1).1
      · obtain ⟨cell, h1, -⟩ := (had ((a - 3) / 2) (by omega)).2.2.2.2
        exact (Array.getElem?_eq_some_iff.mp h1).1
    · unfold sf_0 at hc
      dsimp only at hc
      split at hc
      · rename_i g0
        subst g0
        cases hc
        refine ⟨by show 0 < 57; decide, Or.inl ⟨by show 0 < 57; decide, scr, xs, rfl, by decide, hx1, rfl, hx2.1, hx3, ?_, ?_, fun j hj => ?_⟩⟩
        · rw [hx4]; exact Nat.le_refl _
        · rw [hx4]
        · exact hx5 j hj
      split at hc
      · rename_i g1
        subst g1
        cases hc
        exact ⟨by show 1 < 57; decide, Or.inl ⟨by show 1 < 57; decide, cN, _, rfl, by decide, hN3, rfl, hN4.1, hN5, hN6, hN7, hN8⟩⟩
      split at hc
      · rename_i g0 g1 g2
        split at hc
        · rename_i g3
          cases hc
          obtain ⟨j, rfl⟩ : ∃ j, a = 2 + 2 * j := ⟨(a - 2) / 2, by omega⟩
          have hj : j < 27 := by omega
          obtain ⟨-, ⟨cell, h1, h2, h3, -⟩, ⟨cf1, k1, i1, f1, cl1, a1, a2, a3, a4, a5, -⟩, ⟨cf2, k2, i2, f2, cl2, b1, b2, b3, b4, b5, -⟩, -⟩ := had j hj
          have hk := hD 12 _ rfl
          cases h1.symm.trans a3
          cases h1.symm.trans b3
          refine ⟨by omega, Or.inl ⟨by show 2 + 2 * j < 57; omega, _, cell, rfl, by rw [eK j hj]; exact h1, ?_, h2, a4, fun k hk2 => ?_⟩⟩
          · exact Option.some.inj (h3.symm.trans hk.2.1)
          · have hk2 : k < 2 := hk2
            rcases (show k = 0 ∨ k = 1 by omega) with e | e
            · subst e
              obtain ⟨cf, kf, fi, fd, q1, q2⟩ := hk.1 0 (by decide)
              cases b1.symm.trans q1
              show cell.slots[(Dg 12).2 0]? = _
              rw [← q2, b5]
              show some (Value.ref _) = some (Value.ref (am_ad _ _ _ (2 + 2 * j + 1)))
              rw [show 2 + 2 * j + 1 = 3 + 2 * j by omega, xm_ad_old (show 3 + 2 * j < 57 by omega), eV j hj]
            · subst e
              obtain ⟨cf, kf, fi, fd, q1, q2⟩ := hk.1 1 (by decide)
              cases a1.symm.trans q1
              show cell.slots[(Dg 12).2 1]? = _
              rw [← q2, a5]
              rfl
        · rename_i g3
          cases hc
          obtain ⟨j, rfl⟩ : ∃ j, a = 3 + 2 * j := ⟨(a - 3) / 2, by omega⟩
          have hj : j < 27 := by omega
          rw [show (3 + 2 * j - 3) / 2 = j by omega]
          obtain ⟨cell, h1, h2, h3, h4, h5, h6, -⟩ := (had j hj).2.2.2.2
          obtain ⟨cell', h7, h8⟩ := hcV j hj
          cases h1.symm.trans h7
          exact ⟨by omega, Or.inl ⟨by show 3 + 2 * j < 57; omega, cell, _, rfl, by decide, by rw [eV j hj]; exact h1, by rw [h8, dV j hj], h2.1, h3, h4, h5, h6⟩⟩
      · cases hc
end Start2
