/-! the heap's instructions over abstract heaps -/
theorem am_ad_new {b X : Nat} {ext : Nat → Nat} {a : Nat} (h : X ≤ a) : am_ad b X ext a = b + (a - X) := by unfold am_ad; rw [if_neg (by omega)]
theorem am_ad_ge {b X : Nat} {ext : Nat → Nat} {a : Nat} (h : X ≤ a) : b ≤ am_ad b X ext a := by rw [am_ad_new h]; omega
theorem am_ad_ne {b X : Nat} {ext : Nat → Nat} (he : ∀ a, a < X → ext a < b) {a a' : Nat} (h : X ≤ a) (hn : a' ≠ a) : am_ad b X ext a' ≠ am_ad b X ext a := by
  rw [am_ad_new h]
  unfold am_ad
  by_cases q : a' < X
  · rw [if_pos q]; have := he a' q; omega
  · rw [if_neg q]; omega
theorem am_P_up {D : va_G} {cl : List vw_C} {dA : Nat → ClassId} {b X : Nat} {ext : Nat → Nat} {h : am_H} {H H' : Heap} (hP : am_P D cl dA b X ext h H) {a : Nat} {c0 c1 : am_C} (ha : h.1 a = some c0) (hX : X ≤ a) (hz : H'.size = H.size)
    (ho : ∀ q, q ≠ am_ad b X ext a → H'[q]? = H[q]?) (h1 : va_at D cl (am_ad b X ext a, am_cc dA b X ext c1) H') : am_P D cl dA b X ext (am_up h a c1) H' := by
  obtain ⟨p1, p2, p3, p4⟩ := hP
  refine ⟨p1, hz.trans p2, p3, fun a' c' h' => ?_⟩
  by_cases e : a' = a
  · subst e
    simp [am_up] at h'
    subst h'
    exact ⟨(p4 a' c0 ha).1, h1⟩
  · simp [am_up, e] at h'
    exact ⟨(p4 a' c' h').1, (p4 a' c' h').2.kept (ho _ (am_ad_ne p3 hX e))⟩
theorem am_P_new {D : va_G} {cl : List vw_C} {dA : Nat → ClassId} {b X : Nat} {ext : Nat → Nat} {h : am_H} {H H' : Heap} (hP : am_P D cl dA b X ext h H) {c1 : am_C} (hz : H'.size = H.size + 1)
    (ho : ∀ q, q < H.size → H'[q]? = H[q]?) (h1 : va_at D cl (H.size, am_cc dA b X ext c1) H') : am_P D cl dA b X ext (am_new h c1) H' := by
  obtain ⟨p1, p2, p3, p4⟩ := hP
  have e0 : am_ad b X ext h.2 = H.size := by rw [am_ad_new p1, p2]
  refine ⟨Nat.le_succ_of_le p1, by rw [hz, p2]; show b + (h.2 - X) + 1 = b + (h.2 + 1 - X); omega, p3, fun a' c' h' => ?_⟩
  by_cases e : a' = h.2
  · subst e
    simp [am_new] at h'
    subst h'
    exact ⟨Nat.lt_succ_self _, by rw [e0]; exact h1⟩
  · simp [am_new, e] at h'
    exact ⟨Nat.lt_succ_of_lt (p4 a' c' h').1, (p4 a' c' h').2.kept (ho _ (p4 a' c' h').2.lt)⟩
theorem am_fit_ok {b X : Nat} {ext : Nat → Nat} {ty : FieldType} {v : Value} (h : am_fit ty v = true) : narrow ty (am_vl b X ext v) = am_vl b X ext v ∧ fits ty (am_vl b X ext v) = true := by
  cases ty <;> cases v <;> first | exact ⟨rfl, rfl⟩ | (simp [am_fit] at h; done) | skip
  rename_i x
  simp only [am_fit, Bool.or_eq_true, beq_iff_eq] at h
  rcases h with h | h <;> subst h
  · exact ⟨(by decide : narrow .boolean (.int 0) = .int 0), (by decide : fits .boolean (.int 0) = true)⟩
  · exact ⟨(by decide : narrow .boolean (.int 1) = .int 1), (by decide : fits .boolean (.int 1) = true)⟩
section AmHeap
variable {p : Program} {l : Launch} {e : Env} {R : Room} {s : State} {m : MethodId} {args : Array Value} {below : List Frame} {meth : Method} {c : Code} {H : Heap} {locs : List Loc} {cells slots : Nat} {Q : State → Prop}
variable {D : va_G} {cl : List vw_C} {dA : Nat → ClassId} {b X : Nat} {ext : Nat → Nat} {h : am_H} {cc : ByteArray} {pc : Nat} {ls : Array Slot} {rest : List Value} {tys : List (ClassId × FieldType)}
theorem am_W_get (hx : p.tables.exec = Jvm.exec) (hb : c.code = cc) {own C : String} {T : u_T} {N ci index : Nat} {Ts : List Cond} (hts : ∀ w ∈ Ts, w.before args s = true) (hin : ∀ w ∈ u_ws C T N, w ∈ Ts) (hown : s.vm.findClass own = some m.cls) (hK : va_K D cl tys s) (hP : am_P D cl dA b X ext h H)
    {a : Nat} {fs : List Value} (ha : h.1 a = some (.inr (ci, fs))) (hc : cl[ci]? = some (C, T, N)) (k : Nat) (hk : k < N) (hlink : (Cond.fieldLink own index (T k).1 (T k).2.1 (T k).2.2.1).before args s = true ∨ ∃ host, (Cond.fieldLinkNest own index (T k).1 (T k).2.1 (T k).2.2.1 host).before args s = true) {v : Value} (hv : fs[k]? = some v) (hdg : decode cc pc = .ok (.getfield index, 3))
    (kk : W p l e R s m args below meth c H locs cells slots Q (F0 m (pc + 3) ls (am_vl b X ext v :: rest))) : W p l e R s m args below meth c H locs cells slots Q (F0 m pc ls (.ref (am_ad b X ext a) :: rest)) := by
  have hat : va_P D cl [(am_ad b X ext a, .inr (ci, fs.map (am_vl b X ext)))] H := by
    intro k q hq
    have hz : k < 1 := (List.getElem?_eq_some_iff.mp hq).1
    rw [show k = 0 by omega] at hq
    cases hq
    exact (hP.2.2.2 a _ ha).2
  have hv' : (fs.map (am_vl b X ext))[k]? = some (am_vl b X ext v) := by rw [List.getElem?_map, hv]; rfl
  rcases hlink with hl | ⟨host, hl⟩
  · exact va_get hx hb hts hin hown hK hat 0 rfl hc k hk hl (fun _ q => q) hv' hdg kk
  · exact va_getN hx hb hts hin hown hK hat 0 rfl hc k hk hl (fun _ q => q) hv' hdg kk
theorem am_W_put (hx : p.tables.exec = Jvm.exec) (hb : c.code = cc) {own C : String} {T : u_T} {N ci index : Nat} {Ts : List Cond} (hts : ∀ w ∈ Ts, w.before args s = true) (hin : ∀ w ∈ u_ws C T N, w ∈ Ts) (ty0 : Nat → FieldType) (hty : ∀ k, k < N → parseFieldDescriptor (T k).2.2.1 = some (ty0 k)) (hnm : ∀ a, a < N → ∀ b, b < N → a ≠ b → (T a).2.1 ≠ (T b).2.1)
    (hown : s.vm.findClass own = some m.cls) (hK : va_K D cl tys s) (hP : am_P D cl dA b X ext h H) (hS0 : va_S (fun q => b ≤ q) s.heap H locs) {a : Nat} {fs : List Value} (ha : h.1 a = some (.inr (ci, fs))) (hXa : X ≤ a) (hc : cl[ci]? = some (C, T, N)) (k : Nat) (hk : k < N)
    (hlink : (Cond.fieldLink own index (T k).1 (T k).2.1 (T k).2.2.1).before args s = true) (hfin : (T k).2.2.2 = false ∨ ((T k).2.2.2 = true ∧ meth.name = "<init>" ∧ (T k).1 = own)) {v : Value} (hv : am_fit (ty0 k) v = true) (hl : k < fs.length) (hdg : decode cc pc = .ok (.putfield index, 3))
    (kk : ∀ (H1 : Heap) (locs1 : List Loc), am_P D cl dA b X ext (am_up h a (.inr (ci, fs.set k v))) H1 → va_S (fun q => b ≤ q) s.heap H1 locs1 → W p l e R s m args below meth c H1 locs1 cells slots Q (F0 m (pc + 3) ls rest)) :
    W p l e R s m args below meth c H locs cells slots Q (F0 m pc ls (am_vl b X ext v :: .ref (am_ad b X ext a) :: rest)) := by
  have hap := va_apart (own := own) hts hin ty0 hty hnm hK hc
  obtain ⟨r, h1, cell, q1, q2, q3, q4⟩ := (hP.2.2.2 a _ ha).2
  have hr : r = (C, T, N) := Option.some.inj (h1.symm.trans hc)
  subst hr
  obtain ⟨hS, hfc, kC, hkC, hkind⟩ := hK.1 ci _ hc
  obtain ⟨cf, kf, fi, f, hi, hsl⟩ := hS k hk
  have hst := (u_facts hfc hkC (u_lays hts hin hk) hi).1
  obtain ⟨hn, hfit⟩ := am_fit_ok (b := b) (X := X) (ext := ext) hv
  have hd := hty k hk
  have hl' : k < (fs.map (am_vl b X ext)).length := by rw [List.length_map]; exact hl
  have fin : ∀ H' : Heap, H'[am_ad b X ext a]? = some (cell.setSlot f.slot (am_vl b X ext v)) → H'.size = H.size → (∀ q, q ≠ am_ad b X ext a → H'[q]? = H[q]?) → W p l e R s m args below meth c H' (locs ++ [⟨am_ad b X ext a, f.slot⟩]) cells slots Q (F0 m (pc + 3) ls rest) := by
    intro H' e1 e2 e3
    rw [hsl] at e1
    refine kk H' _ (am_P_up hP ha hXa e2 e3 ⟨_, hc, ?_⟩) (hS0.put e2 e3 (am_ad_ge hXa))
    show t_OB _ _ _ _ H' (vp_V ((fs.set k v).map (am_vl b X ext)))
    rw [List.map_set]
    exact t_OB.to (V := updV (vp_V (fs.map (am_vl b X ext))) k (am_vl b X ext v)) ⟨_, e1, q2, q3, t_set q4 hap hk _⟩ (fun j _ => vp_updV_set hl' _ j)
  have hlay := hts _ (hin _ (u_in_lay hk))
  unfold u_lay at hlay
  rcases hfin with hfin | ⟨hfin, hin2, hdecl⟩
  · rw [if_neg (by rw [hfin]; decide)] at hlay
    have h6 := u_store hfc hkC hkind hlay hi hd hn hfit
    exact W.putK hx hb (f := f) ⟨hown, hlink, ⟨_, _, _, hi⟩, hst⟩ (by rw [q2]; exact h6) q1 q3 (by rw [hsl]; exact k2_hasslot (q4 k hk)) rfl rfl hdg fin
  · rw [if_pos hfin] at hlay
    have hcf : m.cls = cf := by
      obtain ⟨_, _, c', _, _, _, -, -, hf', -, -, -, hown2, -⟩ := Cond.laysFinal_spec hlay
      have e1 : c' = cf := by have := hi.symm.trans hf'; simp at this; exact this.1.symm
      rw [hdecl] at hown2
      rw [← e1]; exact Option.some.inj (hown.symm.trans hown2)
    have h6 := u_fits hfc hkC hkind (Or.inr hlay) hi hd hn hfit
    exact W.putFinK hx hb hown hlink hi hst hcf hin2 (by rw [q2]; exact h6) q1 q3 (by rw [hsl]; exact k2_hasslot (q4 k hk)) rfl rfl hdg fin
end AmHeap
