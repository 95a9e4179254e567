/-! MarkInlines.Row.refill; Arrays.fill -/
theorem am_up_up (h : am_H) (a : Nat) (c c' : am_C) : am_up (am_up h a c) a c' = am_up h a c' := by
  unfold am_up
  simp only [Prod.mk.injEq, and_true]
  funext q
  by_cases e : q = a <;> simp [e]
theorem am_up_self {h : am_H} {a : Nat} {c : am_C} (hc : h.1 a = some c) : am_up h a c = h := by
  unfold am_up
  have : (fun q => if q = a then some c else h.1 q) = h.1 := by
    funext q
    by_cases e : q = a
    · rw [if_pos e, e, hc]
    · rw [if_neg e]
  rw [this]
section RowFill
variable {fm : Value} {sx : Nat × (Nat → Int32)} {d id : Nat} {Z : zr_Z}
theorem c_rangeCheck {h : am_H} {m n : Nat} (hn : n ≤ m) (hm : m < 2 ^ 31) : am_R fm (d + 1) 211 [.int (nI m), .int 0, .int (nI n)] h none h 0 0 := by
  have : ∃ r h' mc ms, am_R fm (d + 1) 211 [.int (nI m), .int 0, .int (nI n)] h r h' mc ms ∧ r = none ∧ h' = h ∧ mc = 0 ∧ ms = 0 := by
    refine hw_R (nL := 3) (loc0 := [some (.int (nI m)), some (.int 0), some (.int (nI n))]) rfl rfl rfl ?_
    refine hw_run 2 (pc' := 2) (loc' := [some (.int (nI m)), some (.int 0), some (.int (nI n))]) (stk' := [.int (nI n), .int 0]) (fun _ _ => rfl) ?_
    refine hw_br (c := (0 : Int32) ≤ nI n) (t1 := 46) (t2 := 5) (loc' := [some (.int (nI m)), some (.int 0), some (.int (nI n))]) (stk' := []) (fun _ _ => rfl) (fun _ => ?_) (fun c => absurd (nI_pos' (by omega)) c)
    refine hw_run 1 (pc' := 47) (loc' := [some (.int (nI m)), some (.int 0), some (.int (nI n))]) (stk' := [.int 0]) (fun _ _ => rfl) ?_
    refine hw_br (c := (0 : Int32) ≤ 0) (t1 := 59) (t2 := 50) (loc' := [some (.int (nI m)), some (.int 0), some (.int (nI n))]) (stk' := []) (fun _ _ => rfl) (fun _ => ?_) (fun c => absurd (by decide) c)
    refine hw_run 2 (pc' := 61) (loc' := [some (.int (nI m)), some (.int 0), some (.int (nI n))]) (stk' := [.int (nI m), .int (nI n)]) (fun _ _ => rfl) ?_
    refine hw_br (c := nI n ≤ nI m) (t1 := 73) (t2 := 64) (loc' := [some (.int (nI m)), some (.int 0), some (.int (nI n))]) (stk' := []) (fun _ _ => rfl) (fun _ => ?_) (fun c => absurd (nI_le hn hm) c)
    exact hw_retv rfl rfl ⟨rfl, rfl, rfl, rfl⟩
  obtain ⟨r, h', mc, ms, h1, rfl, rfl, rfl, rfl⟩ := this
  exact h1
theorem fill_loop {h : am_H} {a m n : Nat} {f : Nat → Int32} {v : Int32} (hX : am_X ≤ a) (hn : n ≤ m) (hm : m < 2 ^ 31) : ∀ (k i : Nat), i + k = n → hw fm d 209 10 [some (.ref a), some (.int 0), some (.int (nI n)), some (.int v), some (.int (nI i))] [] (am_up h a (.inl (0, m, .inl (fun j => if j < i then v else f j))))
      (fun r h' mc ms => r = none ∧ h' = am_up h a (.inl (0, m, .inl (fun j => if j < n then v else f j))) ∧ mc = 0 ∧ ms = 0) := by
  intro k
  induction k with
  | zero =>
    intro i hi
    have : i = n := by omega
    subst this
    refine hw_run 2 (pc' := 13) (loc' := [some (.ref a), some (.int 0), some (.int (nI i)), some (.int v), some (.int (nI i))]) (stk' := [.int (nI i), .int (nI i)]) (fun _ _ => rfl) ?_
    refine hw_br (c := nI i ≤ nI i) (t1 := 27) (t2 := 16) (loc' := [some (.ref a), some (.int 0), some (.int (nI i)), some (.int v), some (.int (nI i))]) (stk' := []) (fun _ _ => rfl) (fun _ => ?_) (fun c => absurd (nI_le (Nat.le_refl _) (by omega)) c)
    exact hw_retv rfl rfl ⟨rfl, rfl, rfl, rfl⟩
  | succ k ih =>
    intro i hi
    have ei : (nI i).toNatClampNeg = i := nI_clamp (by omega)
    refine hw_run 2 (pc' := 13) (loc' := [some (.ref a), some (.int 0), some (.int (nI n)), some (.int v), some (.int (nI i))]) (stk' := [.int (nI n), .int (nI i)]) (fun _ _ => rfl) ?_
    refine hw_br (c := nI n ≤ nI i) (t1 := 27) (t2 := 16) (loc' := [some (.ref a), some (.int 0), some (.int (nI n)), some (.int v), some (.int (nI i))]) (stk' := []) (fun _ _ => rfl) (fun c => absurd c (nI_ge (by omega) (by omega))) (fun _ => ?_)
    refine hw_run 3 (pc' := 20) (loc' := [some (.ref a), some (.int 0), some (.int (nI n)), some (.int v), some (.int (nI i))]) (stk' := [.int v, .int (nI i), .ref a]) (fun _ _ => rfl) ?_
    refine hw_iast rfl (show (am_up h a _).1 a = some (.inl (0, m, .inl (fun j => if j < i then v else f j))) by simp [am_up]) hX (by rw [ei]; rintro (q | q); exact nI_pos (by omega) q; omega) ?_
    rw [am_up_up, ei]
    have e : upd (fun j => if j < i then v else f j) i v = (fun j => if j < i + 1 then v else f j) := by
      funext j
      unfold upd
      by_cases q : j = i
      · subst q; simp
      · rw [if_neg q]
        show (if j < i then v else f j) = _
        by_cases q2 : j < i
        · rw [if_pos q2, if_pos (by omega)]
        · rw [if_neg q2, if_neg (by omega)]
    rw [e]
    refine hw_run 2 (pc' := 10) (loc' := [some (.ref a), some (.int 0), some (.int (nI n)), some (.int v), some (.int (nI i + 1))]) (stk' := []) (fun _ _ => rfl) ?_
    rw [nI_1]
    exact ih (i + 1) (by omega)
theorem c_fill {h : am_H} {a m n : Nat} {f : Nat → Int32} {v : Int32} (ha : h.1 a = some (.inl (0, m, .inl f))) (hX : am_X ≤ a) (hn : n ≤ m) (hm : m < 2 ^ 31) : am_R fm (d + 2) 209 [.ref a, .int 0, .int (nI n), .int v] h none (am_up h a (.inl (0, m, .inl (fun j => if j < n then v else f j)))) 0 0 := by
  have : ∃ r h' mc ms, am_R fm (d + 2) 209 [.ref a, .int 0, .int (nI n), .int v] h r h' mc ms ∧ r = none ∧ h' = am_up h a (.inl (0, m, .inl (fun j => if j < n then v else f j))) ∧ mc = 0 ∧ ms = 0 := by
    refine hw_R (nL := 5) (loc0 := [some (.ref a), some (.int 0), some (.int (nI n)), some (.int v), none]) rfl rfl rfl ?_
    refine hw_run 1 (pc' := 1) (loc' := [some (.ref a), some (.int 0), some (.int (nI n)), some (.int v), none]) (stk' := [.ref a]) (fun _ _ => rfl) ?_
    refine hw_alen rfl ha (by decide) ?_
    refine hw_run 2 (pc' := 4) (loc' := [some (.ref a), some (.int 0), some (.int (nI n)), some (.int v), none]) (stk' := [.int (nI n), .int 0, .int (nI m)]) (fun _ _ => rfl) ?_
    refine hw_call (As := [.int (nI m), .int 0, .int (nI n)]) (rest := []) (c_rangeCheck (d := d) hn hm) rfl rfl rfl rfl rfl rfl ?_
    refine hw_run 2 (pc' := 10) (loc' := [some (.ref a), some (.int 0), some (.int (nI n)), some (.int v), some (.int 0)]) (stk' := []) (fun _ _ => rfl) ?_
    have q := fill_loop (fm := fm) (d := d + 1) (h := h) (a := a) (f := f) (v := v) hX hn hm n 0 (by omega)
    have e : (fun j => if j < 0 then v else f j) = f := by funext j; simp
    rw [e, am_up_self ha, nI_0] at q
    exact q
  obtain ⟨r, h', mc, ms, h1, rfl, rfl, rfl, rfl⟩ := this
  exact h1
/-- how long refill makes a row -/
def rlen (m : Nat) (n : Int32) : Nat := if n < 0 then 0 else min n.toNatClampNeg m
theorem rlen_eq {m : Nat} (hm : m < 2 ^ 31) (n : Int32) : (if (206 : Nat) = 206 then (if (0 : Int32) < (if (207 : Nat) = 206 then (if n < nI m then nI m else n) else (if nI m < n then nI m else n)) then (if (207 : Nat) = 206 then (if n < nI m then nI m else n) else (if nI m < n then nI m else n)) else 0) else (if (if (207 : Nat) = 206 then (if n < nI m then nI m else n) else (if nI m < n then nI m else n)) < (0 : Int32) then (if (207 : Nat) = 206 then (if n < nI m then nI m else n) else (if nI m < n then nI m else n)) else 0)) = nI (rlen m n) := by
  rw [if_pos rfl, if_neg (by decide : ¬ (207 : Nat) = 206)]
  unfold rlen
  by_cases c : n < 0
  · rw [if_pos c]
    have c2 : ¬ nI m < n := fun q => absurd (Int32.lt_trans q c) (nI_pos hm)
    rw [if_neg c2, if_neg (fun q => absurd (Int32.lt_trans q c) (by decide))]
    exact nI_0.symm
  · obtain ⟨j, hj, rfl, hcl⟩ := nI_of_nn c
    rw [if_neg c, hcl]
    by_cases c2 : nI m < nI j
    · have := (nI_ltI hm hj).mp c2
      rw [if_pos c2, Nat.min_eq_right (by omega)]
      by_cases c3 : (0 : Int32) < nI m
      · rw [if_pos c3]
      · rw [if_neg c3]
        have : m = 0 := by
          rcases Nat.eq_zero_or_pos m with q | q
          · exact q
          · exact absurd (by rw [← nI_0]; exact nI_lt q hm) c3
        rw [this, nI_0]
    · have : j ≤ m := by
        rcases Nat.lt_or_ge m j with q | q
        · exact absurd (nI_lt q hj) c2
        · exact q
      rw [if_neg c2, Nat.min_eq_left this]
      by_cases c3 : (0 : Int32) < nI j
      · rw [if_pos c3]
      · rw [if_neg c3]
        have : j = 0 := by
          rcases Nat.eq_zero_or_pos j with q | q
          · exact q
          · exact absurd (by rw [← nI_0]; exact nI_lt q hj) c3
        rw [this, nI_0]
set_option maxRecDepth 100000 in
set_option maxHeartbeats 1000000 in
theorem c_row_refill (hid : id ∈ zr_rows) (n v : Int32) : zl fm sx (d + 3) 73 [.ref id, .int n, .int v] Z (fun r Z' => r = none ∧ Z' = (va_up Z.1 id (List.replicate (rlen (zr_most id) n) v), Z.2)) := by
  refine zl_of_hw (nL := 3) (loc0 := [some (.ref id), some (.int n), some (.int v)]) rfl rfl rfl fun h B ga gn gf G => ?_
  have hrw := G.2.1 id hid
  have hsz := G.2.2.2.2.2.2.2.1
  have hleft := G.2.2.2.2.2.2.2.2
  have hne := zr_row_ne hid hrw
  obtain ⟨r1, r2, r3, r4, r5, r6, r7, r8, r9, r10⟩ := (show zr_row h.1 h.2 id (ga id) (gn id) (gf id) (Z.1 id) from hrw)
  have hm := zr_most_lt id hid
  have hX := zr_rows_X id hid
  have hrl : rlen (zr_most id) n ≤ zr_most id := by unfold rlen; split <;> omega
  generalize hc : rlen (zr_most id) n = c at hrl ⊢
  refine hw_run 4 (pc' := 4) (loc' := [some (.ref id), some (.int n), some (.int v)]) (stk' := [.ref id, .int n, .int 0, .ref id]) (fun _ _ => rfl) ?_
  refine hw_get (v := .int (nI (zr_most id))) rfl r1 rfl ?_
  refine hw_mm rfl (Or.inr rfl) rfl ?_
  refine hw_mm rfl (Or.inl rfl) rfl ?_
  rw [rlen_eq (by omega), hc]
  refine hw_put rfl r1 hX (Nat.le_of_ble_eq_true rfl) rfl ?_
  have e1 : (am_up h id (.inr (7, [.int (nI (zr_most id)), .ref (ga id), .int (nI c)]))).1 id = some (.inr (7, [.int (nI (zr_most id)), .ref (ga id), .int (nI c)])) := by simp [am_up]
  have e2 : (am_up h id (.inr (7, [.int (nI (zr_most id)), .ref (ga id), .int (nI c)]))).1 (ga id) = some (.inl (0, gn id, .inl (gf id))) := by simp [am_up, hne, r2]
  show hw fm (d + 2) 73 16 [some (.ref id), some (.int n), some (.int v)] [] (am_up h id (.inr (7, [.int (nI (zr_most id)), .ref (ga id), .int (nI c)]))) _
  have hz1 : (am_up h id (.inr (7, [.int (nI (zr_most id)), .ref (ga id), .int (nI c)]))).2 = h.2 := rfl
  have ho1 : ∀ j, j ≠ id → (am_up h id (.inr (7, [.int (nI (zr_most id)), .ref (ga id), .int (nI c)]))).1 j = h.1 j := fun j hj => by simp [am_up, hj]
  generalize am_up h id (.inr (7, [.int (nI (zr_most id)), .ref (ga id), .int (nI c)])) = h1 at e1 e2 hz1 ho1 ⊢
  have hrep : ∀ (f' : Nat → Int32) (g : Nat → Int32), f' = (fun j => if j < c then v else g j) → ∀ (i : Nat) (x : Int32), (List.replicate c v)[i]? = some x → f' i = x := by
    intro f' g hf i x hi
    subst hf
    have : i < c := by
      rcases Nat.lt_or_ge i c with q | q
      · exact q
      · rw [List.getElem?_eq_none (by simpa using q)] at hi; cases hi
    rw [List.getElem?_replicate_of_lt this] at hi
    simp [this]
    exact Option.some.inj hi
  refine hw_run 1 (pc' := 17) (loc' := [some (.ref id), some (.int n), some (.int v)]) (stk' := [.ref id]) (fun _ _ => rfl) ?_
  refine hw_get (v := .int (nI c)) rfl e1 rfl ?_
  refine hw_run 1 (pc' := 21) (loc' := [some (.ref id), some (.int n), some (.int v)]) (stk' := [.ref id, .int (nI c)]) (fun _ _ => rfl) ?_
  refine hw_get (v := .ref (ga id)) rfl e1 rfl ?_
  refine hw_alen rfl e2 (by decide) ?_
  refine hw_br (c := nI c ≤ nI (gn id)) (t1 := 48) (t2 := 28) (loc' := [some (.ref id), some (.int n), some (.int v)]) (stk' := []) (fun _ _ => rfl) (fun c2 => ?_) (fun c2 => ?_)
  · have hcg := (nI_leI (by omega) (by omega)).mp c2
    refine hw_run 1 (pc' := 49) (loc' := [some (.ref id), some (.int n), some (.int v)]) (stk' := [.ref id]) (fun _ _ => rfl) ?_
    refine hw_get (v := .ref (ga id)) rfl e1 rfl ?_
    refine hw_run 2 (pc' := 54) (loc' := [some (.ref id), some (.int n), some (.int v)]) (stk' := [.ref id, .int 0, .ref (ga id)]) (fun _ _ => rfl) ?_
    refine hw_get (v := .int (nI c)) rfl e1 rfl ?_
    refine hw_run 1 (pc' := 58) (loc' := [some (.ref id), some (.int n), some (.int v)]) (stk' := [.int v, .int (nI c), .int 0, .ref (ga id)]) (fun _ _ => rfl) ?_
    refine hw_call (As := [.ref (ga id), .int 0, .int (nI c), .int v]) (rest := []) (c_fill (d := d) e2 r4 hcg (by omega)) rfl rfl rfl rfl rfl rfl ?_
    refine hw_retv rfl rfl ⟨(va_up Z.1 id (List.replicate c v), Z.2), B, ?_, by omega, by omega, rfl, rfl⟩
    refine ⟨_, _, _, zr_G_row (a' := ga id) (n' := gn id) G hid (fun q h1' h2 => by simp [am_up, h2, ho1 q h1']) (by show h.2 ≤ h1.2; omega) (Or.inl rfl) ⟨?_, ?_, r3, r4, by show ga id < h1.2; omega, by simpa using hcg, by simpa using hrl, hrep _ (gf id) rfl, r9, r10⟩ (by rw [zr_up_self]; exact hleft)⟩
    · rw [List.length_replicate]; simp [am_up, Ne.symm hne, e1]
    · simp [am_up]
  · have hcg : gn id < c := by
      rcases Nat.lt_or_ge (gn id) c with q | q
      · exact q
      · exact absurd (nI_le q (by omega)) c2
    have hzc : zr_zc id = 2 * zr_most id + 32 := rfl
    refine hw_run 2 (pc' := 30) (loc' := [some (.ref id), some (.int n), some (.int v)]) (stk' := [.ref id, .ref id]) (fun _ _ => rfl) ?_
    refine hw_get (v := .int (nI c)) rfl e1 rfl ?_
    refine hw_run 2 (pc' := 35) (loc' := [some (.ref id), some (.int n), some (.int v)]) (stk' := [.ref id, .int 2, .int (nI c), .ref id]) (fun _ _ => rfl) ?_
    refine hw_get (v := .ref (ga id)) rfl e1 rfl ?_
    refine hw_alen rfl e2 (by decide) ?_
    refine hw_run 1 (pc' := 40) (loc' := [some (.ref id), some (.int n), some (.int v)]) (stk' := [.int (2 * nI (gn id)), .int (nI c), .ref id]) (fun _ _ => rfl) ?_
    rw [show (2 : Int32) * nI (gn id) = nI (2 * gn id) from pk_mul 2 (gn id)]
    refine hw_mm rfl (Or.inl rfl) rfl ?_
    have emax : (if (206 : Nat) = 206 then (if nI c < nI (2 * gn id) then nI (2 * gn id) else nI c) else (if nI (2 * gn id) < nI c then nI (2 * gn id) else nI c)) = nI (max c (2 * gn id)) := by
      rw [if_pos rfl]
      by_cases q : nI c < nI (2 * gn id)
      · rw [if_pos q, Nat.max_eq_right (Nat.le_of_lt ((nI_ltI (by omega) (by omega)).mp q))]
      · rw [if_neg q, Nat.max_eq_left]
        rcases Nat.lt_or_ge c (2 * gn id) with z | z
        · exact absurd (nI_lt z (by omega)) q
        · exact z
    rw [emax]
    have hN : max c (2 * gn id) ≤ zr_zc id ∧ 2 * gn id ≤ max c (2 * gn id) ∧ c ≤ max c (2 * gn id) := ⟨by omega, by omega, by omega⟩
    generalize max c (2 * gn id) = N at hN ⊢
    have eN : (nI N).toNatClampNeg = N := nI_clamp (by omega)
    refine hw_newa rfl (nI_pos (by omega)) (by rw [eN]; omega) ?_
    rw [eN]
    have hid2 : id ≠ h1.2 := by have := (zr_rows_fix id hid).2; omega
    have e3 : (am_new h1 (.inl (0, N, .inl (fun _ => 0)))).1 id = some (.inr (7, [.int (nI (zr_most id)), .ref (ga id), .int (nI c)])) := by simp [am_new, hid2, e1]
    refine hw_put rfl e3 hX (Nat.le_of_ble_eq_true rfl) rfl ?_
    show hw fm (d + 2) 73 48 [some (.ref id), some (.int n), some (.int v)] [] (am_up (am_new h1 (.inl (0, N, .inl (fun _ => 0)))) id (.inr (7, [.int (nI (zr_most id)), .ref h1.2, .int (nI c)]))) _
    have e4 : (am_up (am_new h1 (.inl (0, N, .inl (fun _ => 0)))) id (.inr (7, [.int (nI (zr_most id)), .ref h1.2, .int (nI c)]))).1 id = some (.inr (7, [.int (nI (zr_most id)), .ref h1.2, .int (nI c)])) := by simp [am_up]
    have e5 : (am_up (am_new h1 (.inl (0, N, .inl (fun _ => 0)))) id (.inr (7, [.int (nI (zr_most id)), .ref h1.2, .int (nI c)]))).1 h1.2 = some (.inl (0, N, .inl (fun _ => 0))) := by simp [am_up, am_new, Ne.symm hid2]
    have ho2 : ∀ j, j ≠ id → j ≠ h1.2 → (am_up (am_new h1 (.inl (0, N, .inl (fun _ => 0)))) id (.inr (7, [.int (nI (zr_most id)), .ref h1.2, .int (nI c)]))).1 j = h.1 j := fun j q1 q2 => by simp [am_up, am_new, q1, q2, ho1 j q1]
    have hz2 : (am_up (am_new h1 (.inl (0, N, .inl (fun _ => 0)))) id (.inr (7, [.int (nI (zr_most id)), .ref h1.2, .int (nI c)]))).2 = h1.2 + 1 := rfl
    generalize am_up (am_new h1 (.inl (0, N, .inl (fun _ => 0)))) id (.inr (7, [.int (nI (zr_most id)), .ref h1.2, .int (nI c)])) = h2 at e4 e5 ho2 hz2 ⊢
    have hX2 : am_X ≤ h1.2 := Nat.le_trans (by decide) (by omega : 175 ≤ h1.2)
    refine hw_run 1 (pc' := 49) (loc' := [some (.ref id), some (.int n), some (.int v)]) (stk' := [.ref id]) (fun _ _ => rfl) ?_
    refine hw_get (v := .ref h1.2) rfl e4 rfl ?_
    refine hw_run 2 (pc' := 54) (loc' := [some (.ref id), some (.int n), some (.int v)]) (stk' := [.ref id, .int 0, .ref h1.2]) (fun _ _ => rfl) ?_
    refine hw_get (v := .int (nI c)) rfl e4 rfl ?_
    refine hw_run 1 (pc' := 58) (loc' := [some (.ref id), some (.int n), some (.int v)]) (stk' := [.int v, .int (nI c), .int 0, .ref h1.2]) (fun _ _ => rfl) ?_
    refine hw_call (As := [.ref h1.2, .int 0, .int (nI c), .int v]) (rest := []) (c_fill (d := d) e5 hX2 hN.2.2 (by omega)) rfl rfl rfl rfl rfl rfl ?_
    have hlu := zr_left_up (gn := gn) hid (n' := N) (by omega) (by omega)
    have hfx : zr_fix h1.2 = false := by
      unfold zr_fix
      have : Nat.ble h1.2 174 = false := by
        cases q : Nat.ble h1.2 174 with
        | false => rfl
        | true => have := Nat.le_of_ble_eq_true q; omega
      rw [this]; rfl
    refine hw_retv rfl rfl ⟨(va_up Z.1 id (List.replicate c v), Z.2), zr_left (va_up gn id N), ?_, by omega, by omega, rfl, rfl⟩
    refine ⟨_, _, _, zr_G_row (a' := h1.2) (n' := N) G hid (fun q q1 q2 => by simp [am_up, q2, ho2 q q1 q2]) (by show h.2 ≤ h2.2; omega) (Or.inr (by omega)) ⟨?_, ?_, hfx, hX2, by show h1.2 < h2.2; omega, by simpa using hN.2.2, by simpa using hrl, hrep _ (fun _ => 0) rfl, by omega, by omega⟩ (Nat.le_refl _)⟩
    · rw [List.length_replicate]; simp [am_up, hid2, e4]
    · simp [am_up]
end RowFill
