/-! String.length, isEmpty, charAt on the class's own texts -/
theorem st_bytes : ∀ j, j < 27 → ((am_byt.getD j []).length < 200 ∧ ∀ b ∈ am_byt.getD j [], ((b &&& 255).toUInt32 % 65536).toInt32 = b ∧ narrow .char (.int b) = .int b) := by decide +kernel
theorem st_shr (x : Int32) : x >>> ((0 : Int32) &&& 31) = x := by
  have : ((0 : Int32) &&& 31) = 0 := by decide
  rw [this]
  simp
theorem st_mem {l : List Int32} {i : Nat} (hi : i < l.length) : l.getD i 0 ∈ l := by
  rw [List.getD_eq_getElem?_getD, List.getElem?_eq_getElem hi]
  exact List.getElem_mem hi
section Str
variable {fm : Value} {sx : Nat × (Nat → Int32)} {d : Nat} {Z : zr_Z}
theorem hw_retn {y pc : Nat} {loc : am_L} {h : am_H} {Q : Option Value → am_H → Nat → Nat → Prop} {v : Int32} {ty : FieldType} {n a b : Nat} {u : Value} (ho : am_ops y pc = some (.ireturn, n, a, b, u)) (hr : (am_Mt y).2.2.2.1 = some ty) (hv : narrow ty (.int v) = .int v) (hq : Q (some (.int v)) h 0 0) : hw fm d y pc loc [.int v] h Q :=
  fun k z => ⟨0, _, _, some (.int v), 0, 0, rfl, ho, ⟨v, ty, rfl, rfl, hr, hv⟩, rfl, rfl, hq⟩
theorem hw_bald {y pc : Nat} {loc : am_L} {rest : List Value} {h : am_H} {Q : Option Value → am_H → Nat → Nat → Prop} {n c b a m : Nat} {u : Value} {f : Nat → Int32} {i : Int32} (ho : am_ops y pc = some (.baload, n, c, b, u)) (he : h.1 a = some (.inl (2, m, .inl f))) (hin : ¬ (i < 0 ∨ m ≤ i.toNatClampNeg)) (kk : hw fm d y (pc + 1) loc (.int (f i.toNatClampNeg) :: rest) h Q) : hw fm d y pc loc (.int i :: .ref a :: rest) h Q :=
  hw_st ho (fun k z => by simp only [am_stp, am_bald, he]; rw [if_pos ⟨Or.inl trivial, hin⟩]) kk
theorem c_coder {h : am_H} {a v : Nat} (ha : h.1 a = some (.inr (12, [.ref v, .int 0]))) : am_R fm (d + 1) 184 [.ref a] h (some (.int 0)) h 0 0 := by
  have : ∃ r h' mc ms, am_R fm (d + 1) 184 [.ref a] h r h' mc ms ∧ r = some (.int 0) ∧ h' = h ∧ mc = 0 ∧ ms = 0 := by
    refine hw_R (nL := 1) (loc0 := [some (.ref a)]) rfl rfl rfl ?_
    refine hw_run 3 (pc' := 7) (loc' := [some (.ref a)]) (stk' := [.ref a]) (fun _ _ => rfl) ?_
    refine hw_get (v := .int 0) rfl ha rfl ?_
    refine hw_run 1 (pc' := 14) (loc' := [some (.ref a)]) (stk' := [.int 0]) (fun _ _ => rfl) ?_
    exact hw_retn (ty := .byte) rfl rfl (by decide) ⟨rfl, rfl, rfl, rfl⟩
  obtain ⟨r, h', mc, ms, h1, rfl, rfl, rfl, rfl⟩ := this
  exact h1
theorem c_isLatin1 {h : am_H} {a v : Nat} (ha : h.1 a = some (.inr (12, [.ref v, .int 0]))) : am_R fm (d + 1) 185 [.ref a] h (some (.int 1)) h 0 0 := by
  have : ∃ r h' mc ms, am_R fm (d + 1) 185 [.ref a] h r h' mc ms ∧ r = some (.int 1) ∧ h' = h ∧ mc = 0 ∧ ms = 0 := by
    refine hw_R (nL := 1) (loc0 := [some (.ref a)]) rfl rfl rfl ?_
    refine hw_run 3 (pc' := 7) (loc' := [some (.ref a)]) (stk' := [.ref a]) (fun _ _ => rfl) ?_
    refine hw_get (v := .int 0) rfl ha rfl ?_
    refine hw_run 3 (pc' := 18) (loc' := [some (.ref a)]) (stk' := [.int 1]) (fun _ _ => rfl) ?_
    exact hw_retn (ty := .boolean) rfl rfl (by decide) ⟨rfl, rfl, rfl, rfl⟩
  obtain ⟨r, h', mc, ms, h1, rfl, rfl, rfl, rfl⟩ := this
  exact h1
theorem am_rcv_str {h : am_H} {a v : Nat} {q : am_M} {r : List Value} (ha : h.1 a = some (.inr (12, [.ref v, .int 0]))) (hq : q.1.cls = "java/lang/String") : am_rcv h q (.ref a :: r) = true := by
  unfold am_rcv
  simp only [ha]
  show decide ("java/lang/String" = q.1.cls) = true
  rw [hq]
  exact decide_eq_true rfl
theorem am_call_str {h : am_H} {a v i n y b : Nat} {u : Value} {r : List Value} (ha : h.1 a = some (.inr (12, [.ref v, .int 0]))) (hq : (am_Mt y).1.cls = "java/lang/String") (h1 : (am_Mt y).2.2.2.2 = false) (h2 : (am_Mt y).1.name ≠ "<init>") (h3 : r.length = b) : am_call (.invokevirtual i, n, y, b, u) (am_Mt y) h (.ref a :: r) = true := by
  unfold am_call
  simp only [h1, am_rcv_str ha hq, List.length_cons, h3, Bool.not_false, Bool.true_and, Bool.and_true]
  simp [h2]
theorem c_str_len (j : Nat) (hj : j < 27) : zl fm sx (d + 2) 187 [.ref (2 + 2 * j)] Z (fun r Z' => r = some (.int (nI (am_byt.getD j []).length)) ∧ Z' = Z) := by
  refine zl_of_hw (nL := 1) (loc0 := [some (.ref (2 + 2 * j))]) rfl rfl rfl fun h B ga gn gf G => ?_
  obtain ⟨e1, e2⟩ := G.2.2.2.2.2.2.1.2.2 j hj
  refine hw_run 1 (pc' := 1) (loc' := [some (.ref (2 + 2 * j))]) (stk' := [.ref (2 + 2 * j)]) (fun _ _ => rfl) ?_
  refine hw_get (v := .ref (3 + 2 * j)) rfl e1 rfl ?_
  refine hw_alen rfl e2 (by decide) ?_
  refine hw_run 1 (pc' := 6) (loc' := [some (.ref (2 + 2 * j))]) (stk' := [.ref (2 + 2 * j), .int (nI (am_byt.getD j []).length)]) (fun _ _ => rfl) ?_
  refine hw_call (As := [.ref (2 + 2 * j)]) (rest := [.int (nI (am_byt.getD j []).length)]) (c_coder (d := d) e1) rfl rfl rfl rfl rfl (am_call_str (b := 0) e1 rfl rfl (by decide) rfl) ?_
  refine hw_run 1 (pc' := 10) (loc' := [some (.ref (2 + 2 * j))]) (stk' := [.int (nI (am_byt.getD j []).length >>> ((0 : Int32) &&& 31))]) (fun _ _ => rfl) ?_
  rw [st_shr]
  exact hw_reti rfl rfl ⟨Z, B, ⟨ga, gn, gf, G⟩, by omega, by omega, rfl, rfl⟩
theorem c_str_empty (j : Nat) (hj : j < 27) : zl fm sx (d + 1) 188 [.ref (2 + 2 * j)] Z (fun r Z' => r = some (.int (bI (decide ((am_byt.getD j []).length = 0)))) ∧ Z' = Z) := by
  refine zl_of_hw (nL := 1) (loc0 := [some (.ref (2 + 2 * j))]) rfl rfl rfl fun h B ga gn gf G => ?_
  obtain ⟨e1, e2⟩ := G.2.2.2.2.2.2.1.2.2 j hj
  have hl := (st_bytes j hj).1
  refine hw_run 1 (pc' := 1) (loc' := [some (.ref (2 + 2 * j))]) (stk' := [.ref (2 + 2 * j)]) (fun _ _ => rfl) ?_
  refine hw_get (v := .ref (3 + 2 * j)) rfl e1 rfl ?_
  refine hw_alen rfl e2 (by decide) ?_
  refine hw_br (c := ¬ nI (am_byt.getD j []).length = 0) (t1 := 12) (t2 := 8) (loc' := [some (.ref (2 + 2 * j))]) (stk' := []) (fun _ _ => rfl) (fun c1 => ?_) (fun c1 => ?_)
  · have : ¬ (am_byt.getD j []).length = 0 := fun q => c1 (by rw [q]; exact nI_0)
    refine hw_run 1 (pc' := 13) (loc' := [some (.ref (2 + 2 * j))]) (stk' := [.int 0]) (fun _ _ => rfl) ?_
    exact hw_retn (ty := .boolean) rfl rfl (by decide) ⟨Z, B, ⟨ga, gn, gf, G⟩, by omega, by omega, by rw [decide_eq_false this]; rfl, rfl⟩
  · have : (am_byt.getD j []).length = 0 := by
      rcases Nat.eq_zero_or_pos (am_byt.getD j []).length with q | q
      · exact q
      · exact absurd (nI_ne0 q (by omega)) c1
    refine hw_run 2 (pc' := 13) (loc' := [some (.ref (2 + 2 * j))]) (stk' := [.int 1]) (fun _ _ => rfl) ?_
    exact hw_retn (ty := .boolean) rfl rfl (by decide) ⟨Z, B, ⟨ga, gn, gf, G⟩, by omega, by omega, by rw [decide_eq_true this]; rfl, rfl⟩
theorem c_chk {h : am_H} {i n : Nat} (hi : i < n) (hn : n < 2 ^ 31) (u : Value) (hu : u = .null ∨ ∃ q, u = .ref q) : am_R fm (d + 1) 212 [.int (nI i), .int (nI n), u] h (some (.int (nI i))) h 0 0 := by
  have : ∃ r h' mc ms, am_R fm (d + 1) 212 [.int (nI i), .int (nI n), u] h r h' mc ms ∧ r = some (.int (nI i)) ∧ h' = h ∧ mc = 0 ∧ ms = 0 := by
    refine hw_R (nL := 3) (loc0 := [some (.int (nI i)), some (.int (nI n)), some u]) rfl (by rcases hu with rfl | ⟨q, rfl⟩ <;> rfl) (by rcases hu with rfl | ⟨q, rfl⟩ <;> rfl) ?_
    refine hw_run 1 (pc' := 1) (loc' := [some (.int (nI i)), some (.int (nI n)), some u]) (stk' := [.int (nI i)]) (fun _ _ => rfl) ?_
    refine hw_br (c := nI i < 0) (t1 := 9) (t2 := 4) (loc' := [some (.int (nI i)), some (.int (nI n)), some u]) (stk' := []) (fun _ _ => rfl) (fun c => absurd c (nI_pos (by omega))) (fun _ => ?_)
    refine hw_run 2 (pc' := 6) (loc' := [some (.int (nI i)), some (.int (nI n)), some u]) (stk' := [.int (nI n), .int (nI i)]) (fun _ _ => rfl) ?_
    refine hw_br (c := nI i < nI n) (t1 := 16) (t2 := 9) (loc' := [some (.int (nI i)), some (.int (nI n)), some u]) (stk' := []) (fun _ _ => rfl) (fun _ => ?_) (fun c => absurd (nI_lt hi hn) c)
    refine hw_run 1 (pc' := 17) (loc' := [some (.int (nI i)), some (.int (nI n)), some u]) (stk' := [.int (nI i)]) (fun _ _ => rfl) ?_
    exact hw_reti rfl rfl ⟨rfl, rfl, rfl, rfl⟩
  obtain ⟨r, h', mc, ms, h1, rfl, rfl, rfl, rfl⟩ := this
  exact h1
theorem c_chk2 {h : am_H} {i n : Nat} (hi : i < n) (hn : n < 2 ^ 31) (hu : fm = .null ∨ ∃ q, fm = .ref q) : am_R fm (d + 2) 186 [.int (nI i), .int (nI n)] h none h 0 0 := by
  have : ∃ r h' mc ms, am_R fm (d + 2) 186 [.int (nI i), .int (nI n)] h r h' mc ms ∧ r = none ∧ h' = h ∧ mc = 0 ∧ ms = 0 := by
    refine hw_R (nL := 2) (loc0 := [some (.int (nI i)), some (.int (nI n))]) rfl rfl rfl ?_
    refine hw_run 3 (pc' := 5) (loc' := [some (.int (nI i)), some (.int (nI n))]) (stk' := [fm, .int (nI n), .int (nI i)]) (fun _ _ => rfl) ?_
    refine hw_call (As := [.int (nI i), .int (nI n), fm]) (rest := []) (c_chk (d := d) hi hn fm hu) rfl rfl rfl rfl rfl rfl ?_
    refine hw_run 1 (pc' := 9) (loc' := [some (.int (nI i)), some (.int (nI n))]) (stk' := []) (fun _ _ => rfl) ?_
    exact hw_retv rfl rfl ⟨rfl, rfl, rfl, rfl⟩
  obtain ⟨r, h', mc, ms, h1, rfl, rfl, rfl, rfl⟩ := this
  exact h1
theorem c_l1charAt {h : am_H} {a i n : Nat} {f : Nat → Int32} (ha : h.1 a = some (.inl (2, n, .inl f))) (hi : i < n) (hn : n < 2 ^ 31) (hu : fm = .null ∨ ∃ q, fm = .ref q) (hb : ((f i &&& 255).toUInt32 % 65536).toInt32 = f i) (hc : narrow .char (.int (f i)) = .int (f i)) : am_R fm (d + 3) 208 [.ref a, .int (nI i)] h (some (.int (f i))) h 0 0 := by
  have ei : (nI i).toNatClampNeg = i := nI_clamp (by omega)
  have : ∃ r h' mc ms, am_R fm (d + 3) 208 [.ref a, .int (nI i)] h r h' mc ms ∧ r = some (.int (f i)) ∧ h' = h ∧ mc = 0 ∧ ms = 0 := by
    refine hw_R (nL := 2) (loc0 := [some (.ref a), some (.int (nI i))]) rfl rfl rfl ?_
    refine hw_run 2 (pc' := 2) (loc' := [some (.ref a), some (.int (nI i))]) (stk' := [.ref a, .int (nI i)]) (fun _ _ => rfl) ?_
    refine hw_alen rfl ha (by decide) ?_
    refine hw_call (As := [.int (nI i), .int (nI n)]) (rest := []) (c_chk2 (d := d) hi hn hu) rfl rfl rfl rfl rfl rfl ?_
    refine hw_run 2 (pc' := 8) (loc' := [some (.ref a), some (.int (nI i))]) (stk' := [.int (nI i), .ref a]) (fun _ _ => rfl) ?_
    refine hw_bald rfl ha (by rw [ei]; rintro (q | q); exact nI_pos (by omega) q; omega) ?_
    rw [ei]
    refine hw_run 3 (pc' := 14) (loc' := [some (.ref a), some (.int (nI i))]) (stk' := [.int ((f i &&& 255).toUInt32 % 65536).toInt32]) (fun _ _ => rfl) ?_
    rw [hb]
    exact hw_retn (ty := .char) rfl rfl hc ⟨rfl, rfl, rfl, rfl⟩
  obtain ⟨r, h', mc, ms, h1, rfl, rfl, rfl, rfl⟩ := this
  exact h1
theorem c_str_charAt (j : Nat) (hj : j < 27) (i : Nat) (hi : i < (am_byt.getD j []).length) (hu : fm = .null ∨ ∃ q, fm = .ref q) : zl fm sx (d + 4) 189 [.ref (2 + 2 * j), .int (nI i)] Z (fun r Z' => r = some (.int ((am_byt.getD j []).getD i 0)) ∧ Z' = Z) := by
  refine zl_of_hw (nL := 2) (loc0 := [some (.ref (2 + 2 * j)), some (.int (nI i))]) rfl rfl rfl fun h B ga gn gf G => ?_
  obtain ⟨e1, e2⟩ := G.2.2.2.2.2.2.1.2.2 j hj
  obtain ⟨hl, hb⟩ := st_bytes j hj
  have hm : (am_byt.getD j []).getD i 0 ∈ am_byt.getD j [] := st_mem hi
  refine hw_run 1 (pc' := 1) (loc' := [some (.ref (2 + 2 * j)), some (.int (nI i))]) (stk' := [.ref (2 + 2 * j)]) (fun _ _ => rfl) ?_
  refine hw_call (As := [.ref (2 + 2 * j)]) (rest := []) (c_isLatin1 (d := d + 2) e1) rfl rfl rfl rfl rfl (am_call_str (b := 0) e1 rfl rfl (by decide) rfl) ?_
  refine hw_run 2 (pc' := 8) (loc' := [some (.ref (2 + 2 * j)), some (.int (nI i))]) (stk' := [.ref (2 + 2 * j)]) (fun _ _ => rfl) ?_
  refine hw_get (v := .ref (3 + 2 * j)) rfl e1 rfl ?_
  refine hw_run 1 (pc' := 12) (loc' := [some (.ref (2 + 2 * j)), some (.int (nI i))]) (stk' := [.int (nI i), .ref (3 + 2 * j)]) (fun _ _ => rfl) ?_
  refine hw_call (As := [.ref (3 + 2 * j), .int (nI i)]) (rest := []) (c_l1charAt (d := d) e2 hi (by omega) hu (hb _ hm).1 (hb _ hm).2) rfl rfl rfl rfl rfl rfl ?_
  exact hw_retn (ty := .char) rfl rfl (hb _ hm).2 ⟨Z, B, ⟨ga, gn, gf, G⟩, by omega, by omega, rfl, rfl⟩
end Str
