/-! THE ABSTRACT MACHINE'S SOUNDNESS AGAIN, with little said of the cells that were there before: of an array there its kind and what it holds, of an object there its class and its fields -/
/-- the kinds of arrays, by the number of the class -/
def xm_kty (i : Nat) : FieldType := match i % 4 with
  | 0 => .int
  | 1 => .long
  | 2 => .byte
  | _ => .boolean
/-- a cell that was there before -/
def xm_old (D : va_G) (cl : List vw_C) (dA : Nat → ClassId) (b X : Nat) (ext : Nat → Nat) (a : Nat) (c : am_C) (H : Heap) : Prop := match c with
  | .inl (q, x) => ∃ (cell : Cell) (f : Nat → Int32), x.2 = .inl f ∧ q < 4 ∧ H[ext a]? = some cell ∧ cell.cls = dA (4 * (a + 1) + q) ∧ (∀ k, cell.vm ≠ .statics k) ∧ cell.vm ≠ .unknown ∧ x.1 ≤ cell.slots.size ∧ cell.slots.size.toInt32 = Int32.ofNat x.1 ∧ ∀ j : Nat, j < x.1 → cell.slots[j]? = some (.int (f j))
  | .inr (ci, fs) => ∃ (r : vw_C) (cell : Cell), cl[ci]? = some r ∧ H[ext a]? = some cell ∧ cell.cls = D.1 ci ∧ cell.vm.isStatics = false ∧ cell.vm ≠ .unknown ∧ ∀ k, k < r.2.2 → cell.slots[D.2 ci k]? = some (vp_V (fs.map (am_vl b X ext)) k)
def xm_at (D : va_G) (cl : List vw_C) (dA : Nat → ClassId) (b X : Nat) (ext : Nat → Nat) (a : Nat) (c : am_C) (H : Heap) : Prop :=
  (a < X ∧ xm_old D cl dA b X ext a c H) ∨ (X ≤ a ∧ va_at D cl (am_ad b X ext a, am_cc dA b X ext c) H)
theorem xm_ad_old {b X : Nat} {ext : Nat → Nat} {a : Nat} (h : a < X) : am_ad b X ext a = ext a := if_pos h
theorem xm_at.kept {D : va_G} {cl : List vw_C} {dA : Nat → ClassId} {b X : Nat} {ext : Nat → Nat} {a : Nat} {c : am_C} {H H1 : Heap} (h : xm_at D cl dA b X ext a c H) (hq : H1[am_ad b X ext a]? = H[am_ad b X ext a]?) : xm_at D cl dA b X ext a c H1 := by
  rcases h with ⟨h1, h2⟩ | ⟨h1, h2⟩
  · rw [xm_ad_old h1] at hq
    refine Or.inl ⟨h1, ?_⟩
    cases c with
    | inl x =>
      obtain ⟨q, x⟩ := x
      obtain ⟨cell, f, g1, g2, g3, g⟩ := h2
      exact ⟨cell, f, g1, g2, hq.trans g3, g⟩
    | inr x =>
      obtain ⟨ci, fs⟩ := x
      obtain ⟨r, cell, g1, g2, g⟩ := h2
      exact ⟨r, cell, g1, hq.trans g2, g⟩
  · exact Or.inr ⟨h1, h2.kept hq⟩
theorem xm_at.lt {D : va_G} {cl : List vw_C} {dA : Nat → ClassId} {b X : Nat} {ext : Nat → Nat} {a : Nat} {c : am_C} {H : Heap} (h : xm_at D cl dA b X ext a c H) : am_ad b X ext a < H.size := by
  rcases h with ⟨h1, h2⟩ | ⟨h1, h2⟩
  · rw [xm_ad_old h1]
    cases c with
    | inl x =>
      obtain ⟨q, x⟩ := x
      obtain ⟨cell, f, g1, g2, g3, g⟩ := h2
      exact (Array.getElem?_eq_some_iff.mp g3).1
    | inr x =>
      obtain ⟨ci, fs⟩ := x
      obtain ⟨r, cell, g1, g2, g⟩ := h2
      exact (Array.getElem?_eq_some_iff.mp g2).1
  · exact h2.lt
def xm_P (D : va_G) (cl : List vw_C) (dA : Nat → ClassId) (b X : Nat) (ext : Nat → Nat) (h : am_H) (H : Heap) : Prop :=
  X ≤ h.2 ∧ H.size = b + (h.2 - X) ∧ (∀ a, a < X → ext a < b) ∧ ∀ a c, h.1 a = some c → a < h.2 ∧ xm_at D cl dA b X ext a c H
def xm_K (D : va_G) (cl : List vw_C) (dA : Nat → ClassId) (b X : Nat) (ext : Nat → Nat) (st : Nat → Value) (S : List (String × String × String)) (str : List (String × Nat × String × Nat)) (nst : List (String × Nat × String × String × String)) (U : State) : Prop :=
  va_K D cl (am_tys dA) U ∧ b ≤ U.heap.size ∧ (∀ (j : Nat) (q : String × String × String), S[j]? = some q → va_Z q.1 q.2.1 q.2.2 (am_vl b X ext (st j)) (fun a => b ≤ a) U U.heap) ∧ (∀ q ∈ str, vk_R q.1 q.2.1 q.2.2.1 (am_ad b X ext q.2.2.2) U) ∧ (∀ q ∈ nst, va_Nw (.fieldLinkNest q.1 q.2.1 q.2.2.1 q.2.2.2.1 q.2.2.2.2 "MarkInlines") U) ∧ ∀ i : Nat, ArrOfT U (dA i) (xm_kty i)
theorem xm_P_up {D : va_G} {cl : List vw_C} {dA : Nat → ClassId} {b X : Nat} {ext : Nat → Nat} {h : am_H} {H H' : Heap} (hP : xm_P D cl dA b X ext h H) {a : Nat} {c0 c1 : am_C} (ha : h.1 a = some c0) (hX : X ≤ a) (hz : H'.size = H.size)
    (ho : ∀ q, q ≠ am_ad b X ext a → H'[q]? = H[q]?) (h1 : va_at D cl (am_ad b X ext a, am_cc dA b X ext c1) H') : xm_P D cl dA b X ext (am_up h a c1) H' := by
  obtain ⟨p1, p2, p3, p4⟩ := hP
  refine ⟨p1, hz.trans p2, p3, fun a' c' h' => ?_⟩
  by_cases e : a' = a
  · subst e
    simp [am_up] at h'
    subst h'
    exact ⟨(p4 a' c0 ha).1, Or.inr ⟨hX, h1⟩⟩
  · simp [am_up, e] at h'
    exact ⟨(p4 a' c' h').1, (p4 a' c' h').2.kept (ho _ (am_ad_ne p3 hX e))⟩
theorem xm_P_new {D : va_G} {cl : List vw_C} {dA : Nat → ClassId} {b X : Nat} {ext : Nat → Nat} {h : am_H} {H H' : Heap} (hP : xm_P D cl dA b X ext h H) {c1 : am_C} (hz : H'.size = H.size + 1)
    (ho : ∀ q, q < H.size → H'[q]? = H[q]?) (h1 : va_at D cl (H.size, am_cc dA b X ext c1) H') : xm_P D cl dA b X ext (am_new h c1) H' := by
  obtain ⟨p1, p2, p3, p4⟩ := hP
  have e0 : am_ad b X ext h.2 = H.size := by rw [am_ad_new p1, p2]
  refine ⟨Nat.le_succ_of_le p1, by rw [hz, p2]; show b + (h.2 - X) + 1 = b + (h.2 + 1 - X); omega, p3, fun a' c' h' => ?_⟩
  by_cases e : a' = h.2
  · subst e
    simp [am_new] at h'
    subst h'
    exact ⟨Nat.lt_succ_self _, Or.inr ⟨p1, by rw [e0]; exact h1⟩⟩
  · simp [am_new, e] at h'
    exact ⟨Nat.lt_succ_of_lt (p4 a' c' h').1, (p4 a' c' h').2.kept (ho _ (p4 a' c' h').2.lt)⟩
section XmHeap
variable {p : Program} {l : Launch} {e : Env} {R : Room} {s : State} {m : MethodId} {args : Array Value} {below : List Frame} {meth : Method} {c : Code} {H : Heap} {locs : List Loc} {cells slots : Nat} {Q : State → Prop}
variable {D : va_G} {cl : List vw_C} {dA : Nat → ClassId} {b X : Nat} {ext : Nat → Nat} {h : am_H} {cc : ByteArray} {pc : Nat} {ls : Array Slot} {rest : List Value} {tys : List (ClassId × FieldType)}
theorem xm_W_get (hx : p.tables.exec = Jvm.exec) (hb : c.code = cc) {own C : String} {T : u_T} {N ci index : Nat} {Ts : List Cond} (hts : ∀ w ∈ Ts, w.before args s = true) (hin : ∀ w ∈ u_ws C T N, w ∈ Ts) (hown : s.vm.findClass own = some m.cls) (hK : va_K D cl tys s) (hP : xm_P D cl dA b X ext h H)
    {a : Nat} {fs : List Value} (ha : h.1 a = some (.inr (ci, fs))) (hc : cl[ci]? = some (C, T, N)) (k : Nat) (hk : k < N) (hlink : (Cond.fieldLink own index (T k).1 (T k).2.1 (T k).2.2.1).before args s = true ∨ ∃ host, (Cond.fieldLinkNest own index (T k).1 (T k).2.1 (T k).2.2.1 host).before args s = true) {v : Value} (hv : fs[k]? = some v) (hdg : decode cc pc = .ok (.getfield index, 3))
    (kk : W p l e R s m args below meth c H locs cells slots Q (F0 m (pc + 3) ls (am_vl b X ext v :: rest))) : W p l e R s m args below meth c H locs cells slots Q (F0 m pc ls (.ref (am_ad b X ext a) :: rest)) := by
  by_cases hX : a < X
  · rcases (hP.2.2.2 a _ ha).2 with ⟨-, h2⟩ | ⟨h1, -⟩
    · obtain ⟨r, cell, g1, q1, q2, q3, q5, q4⟩ := h2
      have hr : r = (C, T, N) := Option.some.inj (g1.symm.trans hc)
      subst hr
      obtain ⟨hS, hfc, kC, hkC, hkind⟩ := hK.1 ci _ hc
      obtain ⟨cf, kf, fi, f, hi, hsl⟩ := hS k hk
      rw [xm_ad_old hX]
      have hv' : cell.slots[f.slot]? = some (am_vl b X ext v) := by
        rw [hsl, q4 k hk]
        simp [vp_V, hv]
      rcases hlink with hl | ⟨host, hl⟩
      · exact W.getf hx hb hown hl hi (u_facts hfc hkC (u_lays hts hin hk) hi).1 q1 q5 (v := am_vl b X ext v) hv' rfl rfl hdg kk
      · exact va_Wgetf hx hb hown hl hi (u_facts hfc hkC (u_lays hts hin hk) hi).1 q1 q5 (v := am_vl b X ext v) hv' rfl rfl hdg kk
    · exact absurd hX (by omega)
  have hat : va_P D cl [(am_ad b X ext a, .inr (ci, fs.map (am_vl b X ext)))] H := by
    intro k q hq
    have hz : k < 1 := (List.getElem?_eq_some_iff.mp hq).1
    rw [show k = 0 by omega] at hq
    cases hq
    exact ((hP.2.2.2 a _ ha).2.resolve_left (fun q => hX q.1)).2
  have hv' : (fs.map (am_vl b X ext))[k]? = some (am_vl b X ext v) := by rw [List.getElem?_map, hv]; rfl
  rcases hlink with hl | ⟨host, hl⟩
  · exact va_get hx hb hts hin hown hK hat 0 rfl hc k hk hl (fun _ q => q) hv' hdg kk
  · exact va_getN hx hb hts hin hown hK hat 0 rfl hc k hk hl (fun _ q => q) hv' hdg kk
theorem xm_W_put (hx : p.tables.exec = Jvm.exec) (hb : c.code = cc) {own C : String} {T : u_T} {N ci index : Nat} {Ts : List Cond} (hts : ∀ w ∈ Ts, w.before args s = true) (hin : ∀ w ∈ u_ws C T N, w ∈ Ts) (ty0 : Nat → FieldType) (hty : ∀ k, k < N → parseFieldDescriptor (T k).2.2.1 = some (ty0 k)) (hnm : ∀ a, a < N → ∀ b, b < N → a ≠ b → (T a).2.1 ≠ (T b).2.1)
    (hown : s.vm.findClass own = some m.cls) (hK : va_K D cl tys s) (hP : xm_P D cl dA b X ext h H) (hS0 : va_S (fun q => b ≤ q) s.heap H locs) {a : Nat} {fs : List Value} (ha : h.1 a = some (.inr (ci, fs))) (hXa : X ≤ a) (hc : cl[ci]? = some (C, T, N)) (k : Nat) (hk : k < N)
    (hlink : (Cond.fieldLink own index (T k).1 (T k).2.1 (T k).2.2.1).before args s = true) (hfin : (T k).2.2.2 = false ∨ ((T k).2.2.2 = true ∧ meth.name = "<init>" ∧ (T k).1 = own)) {v : Value} (hv : am_fit (ty0 k) v = true) (hl : k < fs.length) (hdg : decode cc pc = .ok (.putfield index, 3))
    (kk : ∀ (H1 : Heap) (locs1 : List Loc), xm_P D cl dA b X ext (am_up h a (.inr (ci, fs.set k v))) H1 → va_S (fun q => b ≤ q) s.heap H1 locs1 → W p l e R s m args below meth c H1 locs1 cells slots Q (F0 m (pc + 3) ls rest)) :
    W p l e R s m args below meth c H locs cells slots Q (F0 m pc ls (am_vl b X ext v :: .ref (am_ad b X ext a) :: rest)) := by
  have hap := va_apart (own := own) hts hin ty0 hty hnm hK hc
  obtain ⟨r, h1, cell, q1, q2, q3, q4⟩ := ((hP.2.2.2 a _ ha).2.resolve_left (fun q => absurd q.1 (by omega))).2
  have hr : r = (C, T, N) := Option.some.inj (h1.symm.trans hc)
  subst hr
  obtain ⟨hS, hfc, kC, hkC, hkind⟩ := hK.1 ci _ hc
  obtain ⟨cf, kf, fi, f, hi, hsl⟩ := hS k hk
  have hst := (u_facts hfc hkC (u_lays hts hin hk) hi).1
  obtain ⟨hn, hfit⟩ := am_fit_ok (b := b) (X := X) (ext := ext) hv
  have hd := hty k hk
  have hl' : k < (fs.map (am_vl b X ext)).length := by rw [List.length_map]; exact hl
  have fin : ∀ H' : Heap, H'[am_ad b X ext a]? = some (cell.setSlot f.slot (am_vl b X ext v)) → H'.size = H.size → (∀ q, q ≠ am_ad b X ext a → H'[q]? = H[q]?) → W p l e R s m args below meth c H' (locs ++ [⟨am_ad b X ext a, f.slot⟩]) cells slots Q (F0 m (pc + 3) ls rest) := by
    intro H' e1 e2 e3
    rw [hsl] at e1
    refine kk H' _ (xm_P_up hP ha hXa e2 e3 ⟨_, hc, ?_⟩) (hS0.put e2 e3 (am_ad_ge hXa))
    show t_OB _ _ _ _ H' (vp_V ((fs.set k v).map (am_vl b X ext)))
    rw [List.map_set]
    exact t_OB.to (V := updV (vp_V (fs.map (am_vl b X ext))) k (am_vl b X ext v)) ⟨_, e1, q2, q3, t_set q4 hap hk _⟩ (fun j _ => vp_updV_set hl' _ j)
  have hlay := hts _ (hin _ (u_in_lay hk))
  unfold u_lay at hlay
  rcases hfin with hfin | ⟨hfin, hin2, hdecl⟩
  · rw [if_neg (by rw [hfin]; decide)] at hlay
    have h6 := u_store hfc hkC hkind hlay hi hd hn hfit
    exact W.putK hx hb (f := f) ⟨hown, hlink, ⟨_, _, _, hi⟩, hst⟩ (by rw [q2]; exact h6) q1 q3 (by rw [hsl]; exact k2_hasslot (q4 k hk)) rfl rfl hdg fin
  · rw [if_pos hfin] at hlay
    have hcf : m.cls = cf := by
      obtain ⟨_, _, c', _, _, _, -, -, hf', -, -, -, hown2, -⟩ := Cond.laysFinal_spec hlay
      have e1 : c' = cf := by have := hi.symm.trans hf'; simp at this; exact this.1.symm
      rw [hdecl] at hown2
      rw [← e1]; exact Option.some.inj (hown.symm.trans hown2)
    have h6 := u_fits hfc hkC hkind (Or.inr hlay) hi hd hn hfit
    exact W.putFinK hx hb hown hlink hi hst hcf hin2 (by rw [q2]; exact h6) q1 q3 (by rw [hsl]; exact k2_hasslot (q4 k hk)) rfl rfl hdg fin
end XmHeap
section XmArr
variable {p : Program} {l : Launch} {e : Env} {R : Room} {s : State} {m : MethodId} {args : Array Value} {below : List Frame} {meth : Method} {c : Code} {H : Heap} {locs : List Loc} {cells slots : Nat} {Q : State → Prop}
variable {D : va_G} {cl : List vw_C} {dA : Nat → ClassId} {b X : Nat} {ext : Nat → Nat} {h : am_H} {cc : ByteArray} {pc : Nat} {ls : Array Slot} {rest : List Value}
theorem xm_P_one (hP : xm_P D cl dA b X ext h H) {a : Nat} {c0 : am_C} (ha : h.1 a = some c0) (hX : X ≤ a) : va_P D cl [(am_ad b X ext a, am_cc dA b X ext c0)] H := by
  intro k q hq
  have hz : k < 1 := (List.getElem?_eq_some_iff.mp hq).1
  rw [show k = 0 by omega] at hq
  cases hq
  exact ((hP.2.2.2 a _ ha).2.resolve_left (fun q => absurd q.1 (by omega))).2
/-- an array of ints, of bytes or of booleans -/
theorem xm_arr (hK : va_K D cl (am_tys dA) s) (hAr : ∀ i : Nat, ArrOfT s (dA i) (xm_kty i)) (hP : xm_P D cl dA b X ext h H) {a n q : Nat} {f : Nat → Int32} (ha : h.1 a = some (.inl (q, n, .inl f))) (hn : q < 4) : ∃ cs : Cell, H[am_ad b X ext a]? = some cs ∧ s.isArrayOf cs (xm_kty q) ∧ cs.vm ≠ .unknown ∧ n ≤ cs.slots.size ∧ cs.slots.size.toInt32 = Int32.ofNat n ∧ ∀ j : Nat, j < n → cs.slots[j]? = some (.int (f j)) := by
  rcases (hP.2.2.2 a _ ha).2 with ⟨hX, h2⟩ | ⟨h1, h2⟩
  · obtain ⟨cell, f', g1, g2, g3, g4, g5, g6, g7, g8, g9⟩ := h2
    have g1 : (Sum.inl f : (Nat → Int32) ⊕ _) = .inl f' := g1
    cases g1
    rw [xm_ad_old hX]
    refine ⟨cell, g3, ⟨g5, ?_⟩, g6, g7, g8, g9⟩
    have := (hAr (4 * (a + 1) + q) 0 (fun _ => .null)).2
    rw [g4]
    have e : xm_kty (4 * (a + 1) + q) = xm_kty q := by
      unfold xm_kty
      rw [show (4 * (a + 1) + q) % 4 = q % 4 by omega]
    rw [e] at this
    exact this
  · have h3 : H[am_ad b X ext a]? = some (vp_cell (dA q) (n, .inl f)) := h2
    rw [vp_cell_i] at h3
    refine ⟨_, h3, (hAr q) n _, (fun e => by cases e), by rw [arrV_size]; exact Nat.le_refl _, by rw [arrV_size], fun j hj => arrV_read _ _ hj⟩
theorem xm_W_iald (hx : p.tables.exec = Jvm.exec) (hb : c.code = cc) (hK : va_K D cl (am_tys dA) s) (hAr : ∀ i : Nat, ArrOfT s (dA i) (xm_kty i)) (hP : xm_P D cl dA b X ext h H) {a n : Nat} {f : Nat → Int32} (ha : h.1 a = some (.inl (0, n, .inl f))) {i : Int32} (hin : ¬ (i < 0 ∨ n ≤ i.toNatClampNeg)) (hdg : decode cc pc = .ok (.iaload, 1))
    (kk : W p l e R s m args below meth c H locs cells slots Q (F0 m (pc + 1) ls (.int (f i.toNatClampNeg) :: rest))) : W p l e R s m args below meth c H locs cells slots Q (F0 m pc ls (.int i :: .ref (am_ad b X ext a) :: rest)) := by
  obtain ⟨cs, g1, g2, g3, g4, g5, g6⟩ := xm_arr hK hAr hP ha (by decide)
  have hlt : i.toNatClampNeg < n := Nat.not_le.mp fun q => hin (Or.inr q)
  refine W.iald (v := .int (f i.toNatClampNeg)) hx hb g1 g2 g3 ?_ (g6 _ hlt) rfl rfl hdg kk
  intro q
  rcases q with q | q
  · exact hin (Or.inl q)
  · omega
theorem xm_W_bald (hx : p.tables.exec = Jvm.exec) (hb : c.code = cc) (hK : va_K D cl (am_tys dA) s) (hAr : ∀ i : Nat, ArrOfT s (dA i) (xm_kty i)) (hP : xm_P D cl dA b X ext h H) {a n q : Nat} {f : Nat → Int32} (hq : q = 2 ∨ q = 3) (ha : h.1 a = some (.inl (q, n, .inl f))) {i : Int32} (hin : ¬ (i < 0 ∨ n ≤ i.toNatClampNeg)) (hdg : decode cc pc = .ok (.baload, 1))
    (kk : W p l e R s m args below meth c H locs cells slots Q (F0 m (pc + 1) ls (.int (f i.toNatClampNeg) :: rest))) : W p l e R s m args below meth c H locs cells slots Q (F0 m pc ls (.int i :: .ref (am_ad b X ext a) :: rest)) := by
  rcases hq with rfl | rfl
  all_goals
    obtain ⟨cs, g1, g2, g3, g4, g5, g6⟩ := xm_arr hK hAr hP ha (by decide)
    have hlt : i.toNatClampNeg < n := Nat.not_le.mp fun q => hin (Or.inr q)
    have hin' : ¬ (i < 0 ∨ cs.slots.size ≤ i.toNatClampNeg) := by
      intro q
      rcases q with q | q
      · exact hin (Or.inl q)
      · omega
    first | exact W.bald (v := .int (f i.toNatClampNeg)) hx hb g1 g2 g3 hin' (g6 _ hlt) rfl rfl hdg kk | exact W.zald (v := .int (f i.toNatClampNeg)) hx hb g1 g2 g3 hin' (g6 _ hlt) rfl rfl hdg kk
theorem xm_W_lald (hx : p.tables.exec = Jvm.exec) (hb : c.code = cc) (hK : va_K D cl (am_tys dA) s) (hAr : ∀ i : Nat, ArrOfT s (dA i) (xm_kty i)) (hP : xm_P D cl dA b X ext h H) {a n : Nat} {f : Nat → Int64} (ha : h.1 a = some (.inl (1, n, .inr (.inl f)))) {i : Int32} (hin : ¬ (i < 0 ∨ n ≤ i.toNatClampNeg)) (hdg : decode cc pc = .ok (.laload, 1))
    (kk : W p l e R s m args below meth c H locs cells slots Q (F0 m (pc + 1) ls (.long (f i.toNatClampNeg) :: rest))) : W p l e R s m args below meth c H locs cells slots Q (F0 m pc ls (.int i :: .ref (am_ad b X ext a) :: rest)) := by
  have hX : X ≤ a := by
    rcases (hP.2.2.2 a _ ha).2 with ⟨hX, h2⟩ | ⟨h1, h2⟩
    · obtain ⟨cell, f', g1, -⟩ := h2
      cases g1
    · exact h1
  exact va_lald hx hb hK (xm_P_one hP ha hX) 0 1 rfl rfl hin hdg kk
theorem xm_W_alen (hx : p.tables.exec = Jvm.exec) (hb : c.code = cc) (hK : va_K D cl (am_tys dA) s) (hAr : ∀ i : Nat, ArrOfT s (dA i) (xm_kty i)) (hP : xm_P D cl dA b X ext h H) {a q : Nat} {x : vp_A} (hq : q < 4) (ha : h.1 a = some (.inl (q, x))) (hdg : decode cc pc = .ok (.arraylength, 1))
    (kk : W p l e R s m args below meth c H locs cells slots Q (F0 m (pc + 1) ls (.int (Int32.ofNat x.1) :: rest))) : W p l e R s m args below meth c H locs cells slots Q (F0 m pc ls (.ref (am_ad b X ext a) :: rest)) := by
  by_cases hX : a < X
  · have h0 := (hP.2.2.2 a _ ha).2.resolve_right (fun q => absurd q.1 (by omega))
    obtain ⟨n, y⟩ := x
    obtain ⟨cell, f', g1, -⟩ := h0.2
    have g1 : y = .inl f' := g1
    subst g1
    obtain ⟨cs, g1, g2, g3, g4, g5, g6⟩ := xm_arr hK hAr hP ha hq
    exact W.alen (n := Int32.ofNat n) hx hb g1 g2 g5 rfl rfl hdg kk
  have hX' : X ≤ a := by omega
  rcases (show q = 0 ∨ q = 1 ∨ q = 2 ∨ q = 3 by omega) with rfl | rfl | rfl | rfl
  · exact va_alen hx hb hK (xm_P_one hP ha hX') 0 0 rfl rfl rfl hdg kk
  · exact va_alen hx hb hK (xm_P_one hP ha hX') 0 1 rfl rfl rfl hdg kk
  · exact va_alen hx hb hK (xm_P_one hP ha hX') 0 2 rfl rfl rfl hdg kk
  · exact va_alen hx hb hK (xm_P_one hP ha hX') 0 3 rfl rfl rfl hdg kk
theorem xm_W_iast (hx : p.tables.exec = Jvm.exec) (hb : c.code = cc) (hK : va_K D cl (am_tys dA) s) (hP : xm_P D cl dA b X ext h H) (hS : va_S (fun q => b ≤ q) s.heap H locs) {a n : Nat} {f : Nat → Int32} (ha : h.1 a = some (.inl (0, n, .inl f))) (hXa : X ≤ a) {i x : Int32} (hin : ¬ (i < 0 ∨ n ≤ i.toNatClampNeg)) (hdg : decode cc pc = .ok (.iastore, 1))
    (kk : ∀ (H1 : Heap) (locs1 : List Loc), xm_P D cl dA b X ext (am_up h a (.inl (0, n, .inl (upd f i.toNatClampNeg x)))) H1 → va_S (fun q => b ≤ q) s.heap H1 locs1 → W p l e R s m args below meth c H1 locs1 cells slots Q (F0 m (pc + 1) ls rest)) :
    W p l e R s m args below meth c H locs cells slots Q (F0 m pc ls (.int x :: .int i :: .ref (am_ad b X ext a) :: rest)) := by
  have hat : H[am_ad b X ext a]? = some (vp_cell (dA 0) (n, .inl f)) := ((hP.2.2.2 a _ ha).2.resolve_left (fun q => absurd q.1 (by omega))).2
  refine W.iast hx hb hat ((hK.2 0 _ rfl).1 n (fun j => .int (f j))) (fun q => by cases q) (by show ¬ (i < 0 ∨ (arrV _ _ _).slots.size ≤ _); rw [arrV_size]; exact hin) rfl rfl hdg fun H1 e z oq => ?_
  refine kk H1 _ (xm_P_up hP ha hXa z oq ?_) (hS.put z oq (am_ad_ge hXa))
  show H1[_]? = some (vp_cell _ _)
  rw [e, vp_cell_i, vp_cell_i, arrV_store]
  congr 2
  funext q
  by_cases hq : q = i.toNatClampNeg
  · subst hq; simp [updV, upd]
  · simp [updV, upd, hq]
theorem xm_W_bast (hx : p.tables.exec = Jvm.exec) (hb : c.code = cc) (hK : va_K D cl (am_tys dA) s) (hP : xm_P D cl dA b X ext h H) (hS : va_S (fun q => b ≤ q) s.heap H locs) {a n : Nat} {f : Nat → Int32} (ha : h.1 a = some (.inl (3, n, .inl f))) (hXa : X ≤ a) {i x : Int32} (h01 : x = 0 ∨ x = 1) (hin : ¬ (i < 0 ∨ n ≤ i.toNatClampNeg)) (hdg : decode cc pc = .ok (.bastore, 1))
    (kk : ∀ (H1 : Heap) (locs1 : List Loc), xm_P D cl dA b X ext (am_up h a (.inl (3, n, .inl (upd f i.toNatClampNeg x)))) H1 → va_S (fun q => b ≤ q) s.heap H1 locs1 → W p l e R s m args below meth c H1 locs1 cells slots Q (F0 m (pc + 1) ls rest)) :
    W p l e R s m args below meth c H locs cells slots Q (F0 m pc ls (.int x :: .int i :: .ref (am_ad b X ext a) :: rest)) := by
  have hat : H[am_ad b X ext a]? = some (vp_cell (dA 3) (n, .inl f)) := ((hP.2.2.2 a _ ha).2.resolve_left (fun q => absurd q.1 (by omega))).2
  refine W.zast hx hb hat ((hK.2 3 _ rfl).1 n (fun j => .int (f j))) (fun q => by cases q) (by show ¬ (i < 0 ∨ (arrV _ _ _).slots.size ≤ _); rw [arrV_size]; exact hin) rfl rfl hdg fun H1 e z oq => ?_
  refine kk H1 _ (xm_P_up hP ha hXa z oq ?_) (hS.put z oq (am_ad_ge hXa))
  show H1[_]? = some (vp_cell _ _)
  rw [e, vp_cell_i, vp_cell_i, arrV_store]
  congr 2
  funext q
  by_cases hq : q = i.toNatClampNeg
  · subst hq
    rcases h01 with h01 | h01 <;> subst h01 <;> simp [updV, upd] <;> rfl
  · simp [updV, upd, hq]
theorem xm_W_last (hx : p.tables.exec = Jvm.exec) (hb : c.code = cc) (hK : va_K D cl (am_tys dA) s) (hP : xm_P D cl dA b X ext h H) (hS : va_S (fun q => b ≤ q) s.heap H locs) {a n : Nat} {f : Nat → Int64} (ha : h.1 a = some (.inl (1, n, .inr (.inl f)))) (hXa : X ≤ a) {i : Int32} {x : Int64} (hin : ¬ (i < 0 ∨ n ≤ i.toNatClampNeg)) (hdg : decode cc pc = .ok (.lastore, 1))
    (kk : ∀ (H1 : Heap) (locs1 : List Loc), xm_P D cl dA b X ext (am_up h a (.inl (1, n, .inr (.inl (vp_updL f i.toNatClampNeg x))))) H1 → va_S (fun q => b ≤ q) s.heap H1 locs1 → W p l e R s m args below meth c H1 locs1 cells slots Q (F0 m (pc + 1) ls rest)) :
    W p l e R s m args below meth c H locs cells slots Q (F0 m pc ls (.long x :: .int i :: .ref (am_ad b X ext a) :: rest)) := by
  have hat : H[am_ad b X ext a]? = some (vp_cell (dA 1) (n, .inr (.inl f))) := ((hP.2.2.2 a _ ha).2.resolve_left (fun q => absurd q.1 (by omega))).2
  refine W.last hx hb hat ((hK.2 1 _ rfl).1 n (fun j => .long (f j))) (fun q => by cases q) (by show ¬ (i < 0 ∨ (arrV _ _ _).slots.size ≤ _); rw [arrV_size]; exact hin) rfl rfl hdg fun H1 e z oq => ?_
  refine kk H1 _ (xm_P_up hP ha hXa z oq ?_) (hS.put z oq (am_ad_ge hXa))
  show H1[_]? = some (vp_cell _ _)
  rw [e, vp_cell_l, vp_cell_l, arrV_store]
  congr 2
  funext q
  by_cases hq : q = i.toNatClampNeg
  · subst hq; simp [updV, vp_updL]
  · simp [updV, vp_updL, hq]
theorem xm_W_newo (hx : p.tables.exec = Jvm.exec) (hb : c.code = cc) {own C : String} {T : u_T} {N ci index : Nat} {Ts : List Cond} (hts : ∀ w ∈ Ts, w.before args s = true) (hin : ∀ w ∈ u_ws C T N, w ∈ Ts) (ty : Nat → FieldType) (hty : ∀ k, k < N → parseFieldDescriptor (T k).2.2.1 = some (ty k)) (hown : s.vm.findClass own = some m.cls)
    (hcl : (Cond.classLink own index C).before args s = true) (hinst : (Cond.instantiable C N).before args s = true) (hini : (Cond.initialized C).before args s = true) {tys : List (ClassId × FieldType)} (hK : va_K D cl tys s) (hP : xm_P D cl dA b X ext h H) (hS : va_S (fun q => b ≤ q) s.heap H locs) (hbs : b ≤ s.heap.size) (hc : cl[ci]? = some (C, T, N))
    {fs : List Value} (hfs : fs = (List.range N).map (fun j => defaultValue (ty j))) (hcells : cells + 1 ≤ R.cells) (hslots : slots + fs.length ≤ R.slots) (hdg : decode cc pc = .ok (.new index, 3))
    (kk : ∀ (H1 : Heap), xm_P D cl dA b X ext (am_new h (.inr (ci, fs))) H1 → va_S (fun q => b ≤ q) s.heap H1 locs → W p l e R s m args below meth c H1 locs (cells + 1) (slots + fs.length) Q (F0 m (pc + 3) ls (.ref (am_ad b X ext h.2) :: rest))) :
    W p l e R s m args below meth c H locs cells slots Q (F0 m pc ls rest) := by
  have hKn := hK.1 ci _ hc
  have hlen : fs.length = N := by rw [hfs]; simp
  have e0 : am_ad b X ext h.2 = H.size := by rw [am_ad_new hP.1, hP.2.1]
  refine W.newcK hx hb hown hcl hinst hini rfl hdg hcells (by rw [← hlen]; exact hslots) hKn.2.1 rfl fun H1 kC hkC e1 z1 o1 => ?_
  rw [← hlen, ← e0]
  refine kk H1 (xm_P_new hP z1 o1 ⟨_, hc, (u_born ty hts hin hKn hkC e1 hty).to fun j hj => ?_⟩) ⟨Nat.le_trans hS.1 (by omega), fun x h1 h2 => (o1 x (Nat.lt_of_lt_of_le h1 hS.1)).trans (hS.2.1 x h1 h2), hS.2.2⟩
  show defaultValue (ty j) = vp_V (fs.map (am_vl b X ext)) j
  rw [hfs]
  simp [vp_V, hj, am_vl_dv]
theorem xm_W_newa (hx : p.tables.exec = Jvm.exec) (hb : c.code = cc) {atype : ArrayType} (harr : (Cond.arrayClass (newarray.typeOf atype)).before args s = true) (hK : va_K D cl (am_tys dA) s) (hP : xm_P D cl dA b X ext h H) (hS : va_S (fun q => b ≤ q) s.heap H locs)
    {n : Int32} {kd : Nat} {a0 : vp_A} (hkd : kd < 4) (hty : (am_tys dA)[kd]? = some (dA kd, newarray.typeOf atype)) (ha0 : ∀ cA : ClassId, vp_cell cA a0 = arrV cA n.toNatClampNeg (fun _ => defaultValue (newarray.typeOf atype))) (hn : ¬ n < 0) (hbytes : n.toNatClampNeg * componentBytes (newarray.typeOf atype) ≤ 536870912)
    (hcells : cells + 1 ≤ R.cells) (hslots : slots + n.toNatClampNeg ≤ R.slots) (hdg : decode cc pc = .ok (.newarray atype, 2)) (hprim : ∀ C, newarray.typeOf atype ≠ .object C)
    (kk : ∀ (H1 : Heap), xm_P D cl dA b X ext (am_new h (.inl (kd, a0))) H1 → va_S (fun q => b ≤ q) s.heap H1 locs → W p l e R s m args below meth c H1 locs (cells + 1) (slots + n.toNatClampNeg) Q (F0 m (pc + 2) ls (.ref (am_ad b X ext h.2) :: rest))) :
    W p l e R s m args below meth c H locs cells slots Q (F0 m pc ls (.int n :: rest)) := by
  have e0 : am_ad b X ext h.2 = H.size := by rw [am_ad_new hP.1, hP.2.1]
  refine va_newaK hx hb harr rfl hdg rfl hn rfl hbytes hcells hslots rfl fun H1 cA e1 z1 o1 hAr hNm => ?_
  have hra := (hK.2 kd _ hty).2
  have hcA : cA = dA kd := by
    have h2 : s.vm.findClass ("[" ++ (newarray.typeOf atype).toString) = some (dA kd) := by
      unfold va_RA at hra
      revert hra
      cases hq : newarray.typeOf atype with
      | object C => exact absurd hq (hprim C)
      | _ => exact fun z => z
    exact Option.some.inj (hNm.symm.trans h2)
  rw [← e0]
  refine kk H1 (xm_P_new hP z1 o1 ?_) ⟨Nat.le_trans hS.1 (by omega), fun x h1 h2 => (o1 x (Nat.lt_of_lt_of_le h1 hS.1)).trans (hS.2.1 x h1 h2), hS.2.2⟩
  show H1[H.size]? = some (vp_cell (dA kd) a0)
  rw [ha0, ← hcA]
  exact e1
end XmArr
