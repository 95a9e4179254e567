/-! MarkInlines.Row.add -/
/-- the row with a number more, if there is room -/
def radd (m : Nat) (l : List Int32) (x : Int32) : List Int32 := if l.length < m then l ++ [x] else l
section RowAdd
variable {fm : Value} {sx : Nat × (Nat → Int32)} {d id : Nat} {Z : zr_Z}
theorem zr_row_ne {c : Nat → Option am_C} {sz a n : Nat} {f : Nat → Int32} {l : List Int32} (hid : id ∈ zr_rows) (h : zr_row c sz id a n f l) : a ≠ id := fun q => by
  have := h.2.2.1
  rw [q, (zr_rows_fix id hid).1] at this
  cases this
/-- from place 42 on: the array has room -/
theorem row_add_end {h0 h : am_H} {B B' : Nat} {ga gn : Nat → Nat} {gf : Nat → Nat → Int32} {a' n' : Nat} {f' : Nat → Int32} (x : Int32) (hid : id ∈ zr_rows) (G : zr_G sx Z B h0 ga gn gf) (hlt : (Z.1 id).length < zr_most id) (hro : (Z.1 id).length < n')
    (ho : ∀ j, j ≠ id → j ≠ a' → h.1 j = h0.1 j) (hsz : h0.2 ≤ h.2) (ha : a' = ga id ∨ h0.2 ≤ a') (hr : zr_row h.1 h.2 id a' n' f' (Z.1 id)) (hB : zr_left (va_up gn id n') ≤ B') (mc ms : Nat) (hc : mc + B' ≤ B) (hs : ms + 2 * B' ≤ 2 * B) :
    hw fm d 71 42 [some (.ref id), some (.int x)] [] h (fun r h' mc' ms' => ∃ Z' B', zr_P sx Z' B' h' ∧ (mc' + mc) + B' ≤ B ∧ (ms' + ms) + 2 * B' ≤ 2 * B ∧ r = none ∧ Z' = (va_up Z.1 id (radd (zr_most id) (Z.1 id) x), Z.2)) := by
  have hne := zr_row_ne hid hr
  obtain ⟨r1, r2, r3, r4, r5, r6, r7, r8, r9, r10⟩ := (show zr_row h.1 h.2 id a' n' f' (Z.1 id) from hr)
  have hm := zr_most_lt id hid
  have hX := zr_rows_X id hid
  have el : (nI (Z.1 id).length).toNatClampNeg = (Z.1 id).length := nI_clamp (by omega)
  refine hw_run 1 (pc' := 43) (loc' := [some (.ref id), some (.int x)]) (stk' := [.ref id]) (fun _ _ => rfl) ?_
  refine hw_get (v := .ref a') rfl r1 rfl ?_
  refine hw_run 1 (pc' := 47) (loc' := [some (.ref id), some (.int x)]) (stk' := [.ref id, .ref a']) (fun _ _ => rfl) ?_
  refine hw_get (v := .int (nI (Z.1 id).length)) rfl r1 rfl ?_
  refine hw_run 1 (pc' := 51) (loc' := [some (.ref id), some (.int x)]) (stk' := [.int x, .int (nI (Z.1 id).length), .ref a']) (fun _ _ => rfl) ?_
  refine hw_iast rfl r2 r4 (by rw [el]; rintro (q | q); exact nI_pos (by omega) q; omega) ?_
  rw [el]
  have e1 : (am_up h a' (.inl (0, n', .inl (upd f' (Z.1 id).length x)))).1 id = some (.inr (7, [.int (nI (zr_most id)), .ref a', .int (nI (Z.1 id).length)])) := by simp [am_up, Ne.symm hne, r1]
  refine hw_run 2 (pc' := 54) (loc' := [some (.ref id), some (.int x)]) (stk' := [.ref id, .ref id]) (fun _ _ => rfl) ?_
  refine hw_get (v := .int (nI (Z.1 id).length)) rfl e1 rfl ?_
  refine hw_run 2 (pc' := 59) (loc' := [some (.ref id), some (.int x)]) (stk' := [.int (nI (Z.1 id).length + 1), .ref id]) (fun _ _ => rfl) ?_
  refine hw_put rfl e1 hX (Nat.le_of_ble_eq_true rfl) rfl ?_
  refine hw_retv rfl rfl ⟨(va_up Z.1 id (radd (zr_most id) (Z.1 id) x), Z.2), B', ?_, by omega, by omega, rfl, rfl⟩
  have er : radd (zr_most id) (Z.1 id) x = Z.1 id ++ [x] := by unfold radd; rw [if_pos hlt]
  rw [er]
  have hlen : (Z.1 id ++ [x]).length = (Z.1 id).length + 1 := by simp
  refine ⟨_, _, _, zr_G_row (a' := a') (n' := n') (f' := upd f' (Z.1 id).length x) G hid (fun q h1 h2 => by simp [am_up, h1, h2, ho q h1 h2]) hsz ha ⟨?_, ?_, r3, r4, r5, ?_, ?_, fun q v hq => ?_, r9, r10⟩ hB⟩
  · rw [hlen, ← nI_1]; simp [am_up]
  · simp [am_up, hne]
  · omega
  · omega
  · rcases Nat.lt_or_ge q (Z.1 id).length with c | c
    · rw [List.getElem?_append_left c] at hq
      rw [show upd f' (Z.1 id).length x q = f' q from if_neg (by omega)]
      exact r8 q v hq
    · rw [List.getElem?_append_right c] at hq
      have : q - (Z.1 id).length = 0 := by
        rcases Nat.eq_zero_or_pos (q - (Z.1 id).length) with z | z
        · exact z
        · rw [List.getElem?_eq_none (by simp; omega)] at hq; cases hq
      rw [this] at hq
      have e : q = (Z.1 id).length := by omega
      subst e
      simp at hq
      simp [upd, hq]
set_option maxRecDepth 100000 in
set_option maxHeartbeats 1000000 in
theorem c_row_add (hid : id ∈ zr_rows) (x : Int32) : zl fm sx (d + 2) 71 [.ref id, .int x] Z (fun r Z' => r = none ∧ Z' = (va_up Z.1 id (radd (zr_most id) (Z.1 id) x), Z.2)) := by
  refine zl_of_hw (nL := 2) (loc0 := [some (.ref id), some (.int x)]) rfl rfl rfl fun h B ga gn gf G => ?_
  have hrw := G.2.1 id hid
  have hsz := G.2.2.2.2.2.2.2.1
  have hleft := G.2.2.2.2.2.2.2.2
  have hne := zr_row_ne hid hrw
  obtain ⟨r1, r2, r3, r4, r5, r6, r7, r8, r9, r10⟩ := (show zr_row h.1 h.2 id (ga id) (gn id) (gf id) (Z.1 id) from hrw)
  have hm := zr_most_lt id hid
  have hX := zr_rows_X id hid
  refine hw_run 1 (pc' := 1) (loc' := [some (.ref id), some (.int x)]) (stk' := [.ref id]) (fun _ _ => rfl) ?_
  refine hw_get (v := .int (nI (Z.1 id).length)) rfl r1 rfl ?_
  refine hw_run 1 (pc' := 5) (loc' := [some (.ref id), some (.int x)]) (stk' := [.ref id, .int (nI (Z.1 id).length)]) (fun _ _ => rfl) ?_
  refine hw_get (v := .int (nI (zr_most id))) rfl r1 rfl ?_
  refine hw_br (c := nI (Z.1 id).length < nI (zr_most id)) (t1 := 12) (t2 := 11) (loc' := [some (.ref id), some (.int x)]) (stk' := []) (fun _ _ => rfl) (fun c1 => ?_) (fun c1 => ?_)
  rotate_left
  · refine hw_retv rfl rfl ⟨Z, B, ⟨ga, gn, gf, G⟩, by omega, by omega, rfl, ?_⟩
    have : ¬ (Z.1 id).length < zr_most id := fun q => c1 (nI_lt q (by omega))
    unfold radd
    rw [if_neg this, zr_up_self]
  have hlt := (nI_ltI (by omega) (by omega)).mp c1
  refine hw_run 1 (pc' := 13) (loc' := [some (.ref id), some (.int x)]) (stk' := [.ref id]) (fun _ _ => rfl) ?_
  refine hw_get (v := .int (nI (Z.1 id).length)) rfl r1 rfl ?_
  refine hw_run 1 (pc' := 17) (loc' := [some (.ref id), some (.int x)]) (stk' := [.ref id, .int (nI (Z.1 id).length)]) (fun _ _ => rfl) ?_
  refine hw_get (v := .ref (ga id)) rfl r1 rfl ?_
  refine hw_alen rfl r2 (by decide) ?_
  refine hw_br (c := nI (Z.1 id).length < nI (gn id)) (t1 := 42) (t2 := 24) (loc' := [some (.ref id), some (.int x)]) (stk' := []) (fun _ _ => rfl) (fun c2 => ?_) (fun c2 => ?_)
  · have hro := (nI_ltI (by omega) (by omega)).mp c2
    exact row_add_end x hid G hlt hro (fun _ _ _ => rfl) (Nat.le_refl _) (Or.inl rfl) hrw (by rw [zr_up_self]; exact hleft) 0 0 (by omega) (by omega)
  have hfull : (Z.1 id).length = gn id := by
    rcases Nat.lt_or_ge (Z.1 id).length (gn id) with q | q
    · exact absurd (nI_lt q (by omega)) c2
    · omega
  refine hw_run 2 (pc' := 26) (loc' := [some (.ref id), some (.int x)]) (stk' := [.ref id, .ref id]) (fun _ _ => rfl) ?_
  refine hw_get (v := .ref (ga id)) rfl r1 rfl ?_
  refine hw_run 2 (pc' := 31) (loc' := [some (.ref id), some (.int x)]) (stk' := [.ref id, .int 2, .ref (ga id), .ref id]) (fun _ _ => rfl) ?_
  refine hw_get (v := .ref (ga id)) rfl r1 rfl ?_
  refine hw_alen rfl r2 (by decide) ?_
  refine hw_run 1 (pc' := 36) (loc' := [some (.ref id), some (.int x)]) (stk' := [.int (2 * nI (gn id)), .ref (ga id), .ref id]) (fun _ _ => rfl) ?_
  rw [show (2 : Int32) * nI (gn id) = nI (2 * gn id) from pk_mul 2 (gn id)]
  have hX2 : am_X ≤ h.2 := Nat.le_trans (by decide) hsz
  have hzc : zr_zc id = 2 * zr_most id + 32 := rfl
  obtain ⟨r, h', mc, ms, hR, rfl, rfl, rfl, f', rfl, hf'⟩ := c_copyOf (fm := fm) (d := d) (m := 2 * gn id) r2 hX2 r5 (by omega) (by omega) (by omega)
  refine hw_call (As := [.ref (ga id), .int (nI (2 * gn id))]) (rest := [.ref id]) hR rfl rfl rfl rfl rfl rfl ?_
  have hid2 : id ≠ h.2 := by have := (zr_rows_fix id hid).2; omega
  have e1 : (am_up (am_new h (.inl (0, 2 * gn id, .inl (fun _ => 0)))) h.2 (.inl (0, 2 * gn id, .inl f'))).1 id = some (.inr (7, [.int (nI (zr_most id)), .ref (ga id), .int (nI (Z.1 id).length)])) := by simp [am_up, am_new, hid2, r1]
  refine hw_put rfl e1 hX (Nat.le_of_ble_eq_true rfl) rfl ?_
  have hfx : zr_fix h.2 = false := by
    unfold zr_fix
    have : Nat.ble h.2 174 = false := by
      cases q : Nat.ble h.2 174 with
      | false => rfl
      | true => have := Nat.le_of_ble_eq_true q; omega
    rw [this]; rfl
  have hlu := zr_left_up (gn := gn) hid (n' := 2 * gn id) (by omega) (by omega)
  refine row_add_end (n' := 2 * gn id) (a' := h.2) (f' := f') (B' := zr_left (va_up gn id (2 * gn id))) x hid G hlt (by omega) (fun j h1 h2 => by simp [am_up, am_new, h1, h2]) (Nat.le_succ _) (Or.inr (Nat.le_refl _)) ⟨?_, ?_, hfx, hX2, Nat.lt_succ_self _, by omega, r7, fun i v hi => ?_, by omega, by omega⟩ (Nat.le_refl _) 1 (2 * gn id) (by omega) (by omega)
  · simp [am_up]
  · simp [am_up, Ne.symm hid2]
  · have hil : i < (Z.1 id).length := by
      rcases Nat.lt_or_ge i (Z.1 id).length with q | q
      · exact q
      · rw [List.getElem?_eq_none q] at hi; cases hi
    rw [hf' i (by omega)]
    exact r8 i v hi
end RowAdd
