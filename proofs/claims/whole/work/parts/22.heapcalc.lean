/-! the same calculus over one abstract heap (for the rows' own methods) -/
def hw (fm : Value) (d y pc : Nat) (loc : am_L) (stk : List Value) (h : am_H) (Q : Option Value → am_H → Nat → Nat → Prop) : Prop :=
  ∀ k z, ∃ n g o r mc ms, am_N fm (am_R fm d) y n (pc, loc, stk, h, k, z) g ∧ am_ops y g.1 = some o ∧ am_ret (am_Mt y).2.2.2.1 o g.2.2.1 r ∧ g.2.2.2.2.1 = k + mc ∧ g.2.2.2.2.2 = z + ms ∧ Q r g.2.2.2.1 mc ms
section Hw
variable {fm : Value} {d y pc : Nat} {loc : am_L} {stk rest : List Value} {h : am_H} {Q : Option Value → am_H → Nat → Nat → Prop}
theorem hw_1 {pc' : Nat} {loc' : am_L} {stk' : List Value} {h' : am_H} (mc ms : Nat) (hs : ∀ k z, am_S1 fm (am_R fm d) y (pc, loc, stk, h, k, z) (pc', loc', stk', h', k + mc, z + ms)) (kk : hw fm d y pc' loc' stk' h' (fun r h2 c s => Q r h2 (c + mc) (s + ms))) : hw fm d y pc loc stk h Q := by
  intro k z
  obtain ⟨n, g, o, r, c, s, a1, a2, a3, a4, a5, a6⟩ := kk (k + mc) (z + ms)
  exact ⟨n + 1, g, o, r, c + mc, s + ms, ⟨_, hs k z, a1⟩, a2, a3, by omega, by omega, a6⟩
theorem hw_run (n : Nat) {pc' : Nat} {loc' : am_L} {stk' : List Value} (hr : ∀ k z, am_run fm y n (pc, loc, stk, h, k, z) = some (pc', loc', stk', h, k, z)) (kk : hw fm d y pc' loc' stk' h Q) : hw fm d y pc loc stk h Q := by
  intro k z
  obtain ⟨n2, g, o, r, c, s, a1, a2, a3, a4, a5, a6⟩ := kk k z
  exact ⟨n + n2, g, o, r, c, s, am_N_app n (am_run_N n (hr k z)) a1, a2, a3, a4, a5, a6⟩
theorem hw_st {o : am_O} {pc' : Nat} {loc' : am_L} {stk' : List Value} {h' : am_H} (ho : am_ops y pc = some o) (hs : ∀ k z, am_stp am_X (am_st fm) am_ty am_fs o pc loc stk h k z = some (pc', loc', stk', h', k, z)) (kk : hw fm d y pc' loc' stk' h' Q) : hw fm d y pc loc stk h Q :=
  hw_1 0 0 (fun k z => Or.inl ⟨o, ho, hs k z⟩) kk
theorem hw_get {i n ci k a : Nat} {u v : Value} {fs : List Value} (ho : am_ops y pc = some (.getfield i, n, ci, k, u)) (he : h.1 a = some (.inr (ci, fs))) (hv : fs[k]? = some v) (kk : hw fm d y (pc + 3) loc (v :: rest) h Q) : hw fm d y pc loc (.ref a :: rest) h Q :=
  hw_st ho (fun k z => by simp [am_stp, am_getf, he, hv]) kk
theorem hw_put {i n ci k a : Nat} {u v : Value} {fs : List Value} (ho : am_ops y pc = some (.putfield i, n, ci, k, u)) (he : h.1 a = some (.inr (ci, fs))) (hX : am_X ≤ a) (hl : k < fs.length) (hf : am_fit (am_ty ci k) v = true) (kk : hw fm d y (pc + 3) loc rest (am_up h a (.inr (ci, fs.set k v))) Q) : hw fm d y pc loc (v :: .ref a :: rest) h Q :=
  hw_st ho (fun k z => by simp only [am_stp, am_putf, he]; rw [if_pos ⟨trivial, hX, hl, hf⟩]) kk
theorem hw_alen {n c b a q m : Nat} {u : Value} {x : (Nat → Int32) ⊕ (Nat → Int64) ⊕ (Nat → UInt32) ⊕ (Nat → UInt64) ⊕ (Nat → Option Nat)} (ho : am_ops y pc = some (.arraylength, n, c, b, u)) (he : h.1 a = some (.inl (q, m, x))) (hq : q < 4) (kk : hw fm d y (pc + 1) loc (.int (nI m) :: rest) h Q) : hw fm d y pc loc (.ref a :: rest) h Q :=
  hw_st ho (fun k z => by simp only [am_stp, am_alen, he]; rw [if_pos hq]; rfl) kk
theorem hw_iald {n c b a m : Nat} {u : Value} {f : Nat → Int32} {i : Int32} (ho : am_ops y pc = some (.iaload, n, c, b, u)) (he : h.1 a = some (.inl (0, m, .inl f))) (hin : ¬ (i < 0 ∨ m ≤ i.toNatClampNeg)) (kk : hw fm d y (pc + 1) loc (.int (f i.toNatClampNeg) :: rest) h Q) : hw fm d y pc loc (.int i :: .ref a :: rest) h Q :=
  hw_st ho (fun k z => by simp only [am_stp, am_iald, he]; rw [if_pos ⟨trivial, hin⟩]) kk
theorem hw_iast {n c b a m : Nat} {u : Value} {f : Nat → Int32} {i x : Int32} (ho : am_ops y pc = some (.iastore, n, c, b, u)) (he : h.1 a = some (.inl (0, m, .inl f))) (hX : am_X ≤ a) (hin : ¬ (i < 0 ∨ m ≤ i.toNatClampNeg)) (kk : hw fm d y (pc + 1) loc rest (am_up h a (.inl (0, m, .inl (upd f i.toNatClampNeg x)))) Q) : hw fm d y pc loc (.int x :: .int i :: .ref a :: rest) h Q :=
  hw_st ho (fun k z => by simp only [am_stp, am_iast, he]; rw [if_pos ⟨trivial, hX, hin⟩]) kk
theorem hw_newa {t : ArrayType} {n b : Nat} {u : Value} {m : Int32} (ho : am_ops y pc = some (.newarray t, n, 0, b, u)) (h1 : ¬ m < 0) (h2 : m.toNatClampNeg ≤ 134217728) (kk : hw fm d y (pc + 2) loc (.ref h.2 :: rest) (am_new h (.inl (0, m.toNatClampNeg, .inl (fun _ => 0)))) (fun r h' c s => Q r h' (c + 1) (s + m.toNatClampNeg))) : hw fm d y pc loc (.int m :: rest) h Q :=
  hw_1 1 m.toNatClampNeg (fun k z => Or.inl ⟨_, ho, by
    simp only [am_stp, am_newa]
    rw [if_neg (by rintro (q | q); exact h1 q; omega)]⟩) kk
theorem hw_br {c : Prop} [dc : Decidable c] {t1 t2 : Nat} {loc' : am_L} {stk' : List Value} (hr : ∀ k z, am_run fm y 1 (pc, loc, stk, h, k, z) = some (@ite Nat c dc t1 t2, loc', stk', h, k, z)) (h1 : c → hw fm d y t1 loc' stk' h Q) (h2 : ¬ c → hw fm d y t2 loc' stk' h Q) : hw fm d y pc loc stk h Q := by
  by_cases hc : c
  · exact hw_run 1 (fun k z => by rw [hr k z, if_pos hc]) (h1 hc)
  · exact hw_run 1 (fun k z => by rw [hr k z, if_neg hc]) (h2 hc)
theorem hw_mm {j i n b : Nat} {u : Value} {a x : Int32} (ho : am_ops y pc = some (.invokestatic i, n, j, b, u)) (hj : j = 206 ∨ j = 207) (hsum : Nat.ble (rest.map fun v => v.category).sum 8 = true)
    (kk : hw fm d y (pc + 3) loc (.int (if j = 206 then (if x < a then a else x) else (if a < x then a else x)) :: rest) h Q) : hw fm d y pc loc (.int a :: .int x :: rest) h Q :=
  hw_1 (pc' := pc + 3) (loc' := loc) (stk' := .int (if j = 206 then (if x < a then a else x) else (if a < x then a else x)) :: rest) (h' := h) 0 0 (fun k z => Or.inr (Or.inr (Or.inr (Or.inr ⟨_, i, ho, rfl, hj, x, a, rest, rfl, Nat.le_of_ble_eq_true hsum, rfl⟩)))) kk
theorem hw_cpy {i n b n0 n1 a0 a1 : Nat} {u : Value} {m dp sp : Int32} {x0 x1 : Nat → Int32} (ho : am_ops y pc = some (.invokestatic i, n, 1000, b, u)) (h0 : h.1 a0 = some (.inl (0, n0, .inl x0))) (h1 : h.1 a1 = some (.inl (0, n1, .inl x1))) (hX : am_X ≤ a1) (q1 : ¬ sp < 0) (q2 : ¬ dp < 0) (q3 : ¬ m < 0) (q4 : sp.toNatClampNeg + m.toNatClampNeg ≤ n0) (q5 : dp.toNatClampNeg + m.toNatClampNeg ≤ n1) (hsum : Nat.ble (rest.map fun v => v.category).sum 8 = true)
    (kk : hw fm d y (pc + 3) loc rest (am_up h a1 (.inl (0, n1, .inl (va_cpy x0 x1 sp.toNatClampNeg dp.toNatClampNeg m.toNatClampNeg)))) Q) : hw fm d y pc loc (.int m :: .int dp :: .ref a1 :: .int sp :: .ref a0 :: rest) h Q :=
  hw_1 (pc' := pc + 3) (loc' := loc) (stk' := rest) 0 0 (fun k z => Or.inr (Or.inr (Or.inr (Or.inl ⟨_, i, ho, rfl, rfl, m, dp, sp, a1, a0, rest, n0, n1, x0, x1, rfl, h0, h1, hX, q1, q2, q3, q4, q5, Nat.le_of_ble_eq_true hsum, rfl⟩)))) kk
theorem hw_call {o : am_O} {As : List Value} {r : Option Value} {h' : am_H} {mc ms : Nat} (hR : am_R fm d o.2.2.1 As h r h' mc ms) (ho : am_ops y pc = some o) (hstk : stk = As.reverse ++ rest) (hsum : Nat.ble (rest.map fun v => v.category).sum 8 = true) (hM : am_isM o.2.2.1 = true) (hnp : o.2.2.2.1 = am_np o.2.2.1) (hc : am_call o (am_Mt o.2.2.1) h As = true)
    (kk : hw fm d y (pc + 3) loc (r.toList ++ rest) h' (fun r2 h2 c s => Q r2 h2 (c + mc) (s + ms))) : hw fm d y pc loc stk h Q :=
  hw_1 (pc' := pc + 3) (loc' := loc) (stk' := r.toList ++ rest) mc ms (fun k z => Or.inr (Or.inl ⟨o, As, rest, r, h', mc, ms, ho, hstk, Nat.le_of_ble_eq_true hsum, hM, hnp, hc, hR, rfl⟩)) kk
theorem hw_fgt (m : List Bool) {loc' : am_L} (hm : am_msk m loc = loc') (kk : hw fm d y pc loc' stk h Q) : hw fm d y pc loc stk h Q :=
  hw_1 0 0 (fun k z => Or.inr (Or.inr (Or.inl ⟨loc', by subst hm; exact ⟨am_msk_len m loc, am_msk_get m loc⟩, rfl⟩))) kk
theorem hw_reti {v : Int32} {n a b : Nat} {u : Value} (ho : am_ops y pc = some (.ireturn, n, a, b, u)) (hr : (am_Mt y).2.2.2.1 = some .int) (hq : Q (some (.int v)) h 0 0) : hw fm d y pc loc [.int v] h Q :=
  fun k z => ⟨0, _, _, some (.int v), 0, 0, rfl, ho, ⟨v, .int, rfl, rfl, hr, rfl⟩, rfl, rfl, hq⟩
theorem hw_retv {n a b : Nat} {u : Value} (ho : am_ops y pc = some (.return_, n, a, b, u)) (hr : (am_Mt y).2.2.2.1 = none) (hq : Q none h 0 0) : hw fm d y pc loc [] h Q :=
  fun k z => ⟨0, _, _, none, 0, 0, rfl, ho, ⟨rfl, rfl, hr⟩, rfl, rfl, hq⟩
theorem hw_reta {q : Nat} {ty : FieldType} {n a b : Nat} {u : Value} (ho : am_ops y pc = some (.areturn, n, a, b, u)) (hr : (am_Mt y).2.2.2.1 = some ty) (ht : (∃ n, ty = .object n) ∨ ∃ t, ty = .array t) (hq : Q (some (.ref q)) h 0 0) : hw fm d y pc loc [.ref q] h Q :=
  fun k z => ⟨0, _, _, some (.ref q), 0, 0, rfl, ho, ⟨.ref q, ty, rfl, rfl, hr, ht, Or.inr ⟨q, rfl⟩⟩, rfl, rfl, hq⟩
/-- a run out of the body -/
theorem hw_R {As : List Value} {nL : Nat} {loc0 : am_L} {P : Option Value → am_H → Nat → Nat → Prop} (hn : (am_Mt y).2.2.1 = nL) (hl : Nat.ble (am_fl As).length nL = true) (he : am_ent nL As = loc0) (kk : hw fm d y 0 loc0 [] h P) : ∃ r h' mc ms, am_R fm (d + 1) y As h r h' mc ms ∧ P r h' mc ms := by
  obtain ⟨n, g, o, r, mc, ms, a1, a2, a3, a4, a5, a6⟩ := kk 0 0
  subst hn he
  refine ⟨r, g.2.2.2.1, mc, ms, ⟨n, g, o, Nat.le_of_ble_eq_true hl, a1, a2, a3, ?_⟩, a6⟩
  rw [Nat.zero_add] at a4 a5
  rw [← a4, ← a5]
end Hw
/-- a method of a row, out of a run over any heap that holds the state -/
theorem zl_of_hw {fm : Value} {sx : Nat × (Nat → Int32)} {d y : Nat} {As : List Value} {Z : zr_Z} {Q : Option Value → zr_Z → Prop} {nL : Nat} {loc0 : am_L} (hn : (am_Mt y).2.2.1 = nL) (hl : Nat.ble (am_fl As).length nL = true) (he : am_ent nL As = loc0)
    (kk : ∀ (h : am_H) (B : Nat) (ga gn : Nat → Nat) (gf : Nat → Nat → Int32), zr_G sx Z B h ga gn gf → hw fm d y 0 loc0 [] h (fun r h' mc ms => ∃ Z' B', zr_P sx Z' B' h' ∧ mc + B' ≤ B ∧ ms + 2 * B' ≤ 2 * B ∧ Q r Z')) : zl fm sx (d + 1) y As Z Q := by
  intro h B ⟨ga, gn, gf, G⟩
  obtain ⟨r, h', mc, ms, a1, Z', B', a2, a3, a4, a5⟩ := hw_R hn hl he (kk h B ga gn gf G)
  exact ⟨r, h', mc, ms, Z', B', a1, a2, a3, a4, a5⟩
