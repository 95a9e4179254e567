/-! for loops: lengths, and numbers that grow -/
theorem zw_most {fm : Value} {sx : Nat × (Nat → Int32)} {d y pc : Nat} {loc : am_L} {stk : List Value} {Z : zr_Z} {Q : Option Value → zr_Z → Prop} (h : (∀ id, id ∈ zr_rows → (Z.1 id).length ≤ zr_most id) → zw fm sx d y pc loc stk Z Q) : zw fm sx d y pc loc stk Z Q := by
  intro h0 B hP k z
  have hP' := hP
  obtain ⟨ga, gn, gf, G⟩ := hP'
  exact h (fun id hid => (G.2.1 id hid).2.2.2.2.2.2.1) h0 B hP k z
theorem zl_most {fm : Value} {sx : Nat × (Nat → Int32)} {d y : Nat} {As : List Value} {Z : zr_Z} {Q : Option Value → zr_Z → Prop} (h : (∀ id, id ∈ zr_rows → (Z.1 id).length ≤ zr_most id) → zl fm sx d y As Z Q) : zl fm sx d y As Z Q := by
  intro h0 B hP
  have hP' := hP
  obtain ⟨ga, gn, gf, G⟩ := hP'
  exact h (fun id hid => (G.2.1 id hid).2.2.2.2.2.2.1) h0 B hP
theorem i32_rng (q : Int32) : -2147483648 ≤ q.toInt ∧ q.toInt < 2147483648 := by
  have h1 := Int32.le_toInt q
  have h2 := Int32.toInt_lt q
  exact ⟨h1, h2⟩
theorem i32_add {q k : Int32} (h1 : -2147483648 ≤ q.toInt + k.toInt) (h2 : q.toInt + k.toInt < 2147483648) : (q + k).toInt = q.toInt + k.toInt := by
  rw [Int32.toInt_add]
  exact Int.bmod_eq_of_le (by omega) (by omega)
theorem i32_lt {a b : Int32} : a < b ↔ a.toInt < b.toInt := Int32.lt_iff_toInt_lt
theorem i32_le {a b : Int32} : a ≤ b ↔ a.toInt ≤ b.toInt := Int32.le_iff_toInt_le
theorem zs_int {Z : zr_Z} {id : Nat} (hid : id ∈ zr_rows) (hm : ∀ id, id ∈ zr_rows → (Z.1 id).length ≤ zr_most id) : (zs Z id).toInt = ((Z.1 id).length : Int) ∧ (Z.1 id).length ≤ 18000 := by
  have := hm id hid
  have h2 := (zr_most_lt id hid).1
  exact ⟨nI_toInt (by omega), by omega⟩
/-- a step up of a number that is below a row's length -/
theorem i32_up {q : Int32} {Z : zr_Z} {id : Nat} (hid : id ∈ zr_rows) (hm : ∀ id, id ∈ zr_rows → (Z.1 id).length ≤ zr_most id) (h : q < zs Z id) (k : Int32) (hk : 0 ≤ k.toInt ∧ k.toInt ≤ 1000000) : (q + k).toInt = q.toInt + k.toInt := by
  have h1 := i32_lt.mp h
  have h2 := zs_int hid hm
  have h3 := i32_rng q
  exact i32_add (by omega) (by omega)
/-- a place that holds something lies in the row -/
theorem zt_lt {q : Int32} {Z : zr_Z} {id : Nat} (hid : id ∈ zr_rows) (hm : ∀ id, id ∈ zr_rows → (Z.1 id).length ≤ zr_most id) (h : zt Z id q ≠ -1) : q < zs Z id := by
  unfold zt rat at h
  by_cases c : q < 0
  · rw [if_pos c] at h; exact absurd rfl h
  · rw [if_neg c] at h
    obtain ⟨j, hj, rfl, hcl⟩ := nI_of_nn c
    rw [hcl] at h
    have h2 := (zr_most_lt id hid).1
    have h3 := hm id hid
    rcases Nat.lt_or_ge j (Z.1 id).length with z | z
    · exact nI_lt z (by omega)
    · rw [List.getD_eq_getElem?_getD, List.getElem?_eq_none z] at h
      exact absurd rfl h
