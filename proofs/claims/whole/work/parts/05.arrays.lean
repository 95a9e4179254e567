/-! arrays and new cells over abstract heaps -/
theorem am_nz : vp_nar .boolean 0 = 0 ∧ vp_nar .boolean 1 = 1 := by decide +kernel
theorem am_vl_dv (b X : Nat) (ext : Nat → Nat) (t : FieldType) : am_vl b X ext (defaultValue t) = defaultValue t := by cases t <;> rfl
section AmArr
variable {p : Program} {l : Launch} {e : Env} {R : Room} {s : State} {m : MethodId} {args : Array Value} {below : List Frame} {meth : Method} {c : Code} {H : Heap} {locs : List Loc} {cells slots : Nat} {Q : State → Prop}
variable {D : va_G} {cl : List vw_C} {dA : Nat → ClassId} {b X : Nat} {ext : Nat → Nat} {h : am_H} {cc : ByteArray} {pc : Nat} {ls : Array Slot} {rest : List Value}
theorem am_P_one (hP : am_P D cl dA b X ext h H) {a : Nat} {c0 : am_C} (ha : h.1 a = some c0) : va_P D cl [(am_ad b X ext a, am_cc dA b X ext c0)] H := by
  intro k q hq
  have hz : k < 1 := (List.getElem?_eq_some_iff.mp hq).1
  rw [show k = 0 by omega] at hq
  cases hq
  exact (hP.2.2.2 a _ ha).2
theorem am_W_iald (hx : p.tables.exec = Jvm.exec) (hb : c.code = cc) (hK : va_K D cl (am_tys dA) s) (hP : am_P D cl dA b X ext h H) {a n : Nat} {f : Nat → Int32} (ha : h.1 a = some (.inl (0, n, .inl f))) {i : Int32} (hin : ¬ (i < 0 ∨ n ≤ i.toNatClampNeg)) (hdg : decode cc pc = .ok (.iaload, 1))
    (kk : W p l e R s m args below meth c H locs cells slots Q (F0 m (pc + 1) ls (.int (f i.toNatClampNeg) :: rest))) : W p l e R s m args below meth c H locs cells slots Q (F0 m pc ls (.int i :: .ref (am_ad b X ext a) :: rest)) :=
  va_iald hx hb hK (am_P_one hP ha) 0 0 rfl rfl hin hdg kk
theorem am_W_bald (hx : p.tables.exec = Jvm.exec) (hb : c.code = cc) (hK : va_K D cl (am_tys dA) s) (hP : am_P D cl dA b X ext h H) {a n q : Nat} {f : Nat → Int32} (hq : q = 2 ∨ q = 3) (ha : h.1 a = some (.inl (q, n, .inl f))) {i : Int32} (hin : ¬ (i < 0 ∨ n ≤ i.toNatClampNeg)) (hdg : decode cc pc = .ok (.baload, 1))
    (kk : W p l e R s m args below meth c H locs cells slots Q (F0 m (pc + 1) ls (.int (f i.toNatClampNeg) :: rest))) : W p l e R s m args below meth c H locs cells slots Q (F0 m pc ls (.int i :: .ref (am_ad b X ext a) :: rest)) := by
  rcases hq with rfl | rfl
  · exact va_bald hx hb hK (am_P_one hP ha) 0 2 rfl rfl hin hdg kk
  · exact va_zald hx hb hK (am_P_one hP ha) 0 3 rfl rfl hin hdg kk
theorem am_W_lald (hx : p.tables.exec = Jvm.exec) (hb : c.code = cc) (hK : va_K D cl (am_tys dA) s) (hP : am_P D cl dA b X ext h H) {a n : Nat} {f : Nat → Int64} (ha : h.1 a = some (.inl (1, n, .inr (.inl f)))) {i : Int32} (hin : ¬ (i < 0 ∨ n ≤ i.toNatClampNeg)) (hdg : decode cc pc = .ok (.laload, 1))
    (kk : W p l e R s m args below meth c H locs cells slots Q (F0 m (pc + 1) ls (.long (f i.toNatClampNeg) :: rest))) : W p l e R s m args below meth c H locs cells slots Q (F0 m pc ls (.int i :: .ref (am_ad b X ext a) :: rest)) :=
  va_lald hx hb hK (am_P_one hP ha) 0 1 rfl rfl hin hdg kk
theorem am_W_alen (hx : p.tables.exec = Jvm.exec) (hb : c.code = cc) (hK : va_K D cl (am_tys dA) s) (hP : am_P D cl dA b X ext h H) {a q : Nat} {x : vp_A} (hq : q < 4) (ha : h.1 a = some (.inl (q, x))) (hdg : decode cc pc = .ok (.arraylength, 1))
    (kk : W p l e R s m args below meth c H locs cells slots Q (F0 m (pc + 1) ls (.int (Int32.ofNat x.1) :: rest))) : W p l e R s m args below meth c H locs cells slots Q (F0 m pc ls (.ref (am_ad b X ext a) :: rest)) := by
  rcases (show q = 0 ∨ q = 1 ∨ q = 2 ∨ q = 3 by omega) with rfl | rfl | rfl | rfl
  · exact va_alen hx hb hK (am_P_one hP ha) 0 0 rfl rfl rfl hdg kk
  · exact va_alen hx hb hK (am_P_one hP ha) 0 1 rfl rfl rfl hdg kk
  · exact va_alen hx hb hK (am_P_one hP ha) 0 2 rfl rfl rfl hdg kk
  · exact va_alen hx hb hK (am_P_one hP ha) 0 3 rfl rfl rfl hdg kk
theorem am_W_iast (hx : p.tables.exec = Jvm.exec) (hb : c.code = cc) (hK : va_K D cl (am_tys dA) s) (hP : am_P D cl dA b X ext h H) (hS : va_S (fun q => b ≤ q) s.heap H locs) {a n : Nat} {f : Nat → Int32} (ha : h.1 a = some (.inl (0, n, .inl f))) (hXa : X ≤ a) {i x : Int32} (hin : ¬ (i < 0 ∨ n ≤ i.toNatClampNeg)) (hdg : decode cc pc = .ok (.iastore, 1))
    (kk : ∀ (H1 : Heap) (locs1 : List Loc), am_P D cl dA b X ext (am_up h a (.inl (0, n, .inl (upd f i.toNatClampNeg x)))) H1 → va_S (fun q => b ≤ q) s.heap H1 locs1 → W p l e R s m args below meth c H1 locs1 cells slots Q (F0 m (pc + 1) ls rest)) :
    W p l e R s m args below meth c H locs cells slots Q (F0 m pc ls (.int x :: .int i :: .ref (am_ad b X ext a) :: rest)) := by
  have hat : H[am_ad b X ext a]? = some (vp_cell (dA 0) (n, .inl f)) := (hP.2.2.2 a _ ha).2
  refine W.iast hx hb hat ((hK.2 0 _ rfl).1 n (fun j => .int (f j))) (fun q => by cases q) (by show ¬ (i < 0 ∨ (arrV _ _ _).slots.size ≤ _); rw [arrV_size]; exact hin) rfl rfl hdg fun H1 e z oq => ?_
  refine kk H1 _ (am_P_up hP ha hXa z oq ?_) (hS.put z oq (am_ad_ge hXa))
  show H1[_]? = some (vp_cell _ _)
  rw [e, vp_cell_i, vp_cell_i, arrV_store]
  congr 2
  funext q
  by_cases hq : q = i.toNatClampNeg
  · subst hq; simp [updV, upd]
  · simp [updV, upd, hq]
theorem am_W_bast (hx : p.tables.exec = Jvm.exec) (hb : c.code = cc) (hK : va_K D cl (am_tys dA) s) (hP : am_P D cl dA b X ext h H) (hS : va_S (fun q => b ≤ q) s.heap H locs) {a n : Nat} {f : Nat → Int32} (ha : h.1 a = some (.inl (3, n, .inl f))) (hXa : X ≤ a) {i x : Int32} (h01 : x = 0 ∨ x = 1) (hin : ¬ (i < 0 ∨ n ≤ i.toNatClampNeg)) (hdg : decode cc pc = .ok (.bastore, 1))
    (kk : ∀ (H1 : Heap) (locs1 : List Loc), am_P D cl dA b X ext (am_up h a (.inl (3, n, .inl (upd f i.toNatClampNeg x)))) H1 → va_S (fun q => b ≤ q) s.heap H1 locs1 → W p l e R s m args below meth c H1 locs1 cells slots Q (F0 m (pc + 1) ls rest)) :
    W p l e R s m args below meth c H locs cells slots Q (F0 m pc ls (.int x :: .int i :: .ref (am_ad b X ext a) :: rest)) := by
  have hat : H[am_ad b X ext a]? = some (vp_cell (dA 3) (n, .inl f)) := (hP.2.2.2 a _ ha).2
  refine W.zast hx hb hat ((hK.2 3 _ rfl).1 n (fun j => .int (f j))) (fun q => by cases q) (by show ¬ (i < 0 ∨ (arrV _ _ _).slots.size ≤ _); rw [arrV_size]; exact hin) rfl rfl hdg fun H1 e z oq => ?_
  refine kk H1 _ (am_P_up hP ha hXa z oq ?_) (hS.put z oq (am_ad_ge hXa))
  show H1[_]? = some (vp_cell _ _)
  rw [e, vp_cell_i, vp_cell_i, arrV_store]
  congr 2
  funext q
  by_cases hq : q = i.toNatClampNeg
  · subst hq
    rcases h01 with h01 | h01 <;> subst h01 <;> simp [updV, upd] <;> rfl
  · simp [updV, upd, hq]
theorem am_W_last (hx : p.tables.exec = Jvm.exec) (hb : c.code = cc) (hK : va_K D cl (am_tys dA) s) (hP : am_P D cl dA b X ext h H) (hS : va_S (fun q => b ≤ q) s.heap H locs) {a n : Nat} {f : Nat → Int64} (ha : h.1 a = some (.inl (1, n, .inr (.inl f)))) (hXa : X ≤ a) {i : Int32} {x : Int64} (hin : ¬ (i < 0 ∨ n ≤ i.toNatClampNeg)) (hdg : decode cc pc = .ok (.lastore, 1))
    (kk : ∀ (H1 : Heap) (locs1 : List Loc), am_P D cl dA b X ext (am_up h a (.inl (1, n, .inr (.inl (vp_updL f i.toNatClampNeg x))))) H1 → va_S (fun q => b ≤ q) s.heap H1 locs1 → W p l e R s m args below meth c H1 locs1 cells slots Q (F0 m (pc + 1) ls rest)) :
    W p l e R s m args below meth c H locs cells slots Q (F0 m pc ls (.long x :: .int i :: .ref (am_ad b X ext a) :: rest)) := by
  have hat : H[am_ad b X ext a]? = some (vp_cell (dA 1) (n, .inr (.inl f))) := (hP.2.2.2 a _ ha).2
  refine W.last hx hb hat ((hK.2 1 _ rfl).1 n (fun j => .long (f j))) (fun q => by cases q) (by show ¬ (i < 0 ∨ (arrV _ _ _).slots.size ≤ _); rw [arrV_size]; exact hin) rfl rfl hdg fun H1 e z oq => ?_
  refine kk H1 _ (am_P_up hP ha hXa z oq ?_) (hS.put z oq (am_ad_ge hXa))
  show H1[_]? = some (vp_cell _ _)
  rw [e, vp_cell_l, vp_cell_l, arrV_store]
  congr 2
  funext q
  by_cases hq : q = i.toNatClampNeg
  · subst hq; simp [updV, vp_updL]
  · simp [updV, vp_updL, hq]
theorem am_W_newo (hx : p.tables.exec = Jvm.exec) (hb : c.code = cc) {own C : String} {T : u_T} {N ci index : Nat} {Ts : List Cond} (hts : ∀ w ∈ Ts, w.before args s = true) (hin : ∀ w ∈ u_ws C T N, w ∈ Ts) (ty : Nat → FieldType) (hty : ∀ k, k < N → parseFieldDescriptor (T k).2.2.1 = some (ty k)) (hown : s.vm.findClass own = some m.cls)
    (hcl : (Cond.classLink own index C).before args s = true) (hinst : (Cond.instantiable C N).before args s = true) (hini : (Cond.initialized C).before args s = true) {tys : List (ClassId × FieldType)} (hK : va_K D cl tys s) (hP : am_P D cl dA b X ext h H) (hS : va_S (fun q => b ≤ q) s.heap H locs) (hbs : b ≤ s.heap.size) (hc : cl[ci]? = some (C, T, N))
    {fs : List Value} (hfs : fs = (List.range N).map (fun j => defaultValue (ty j))) (hcells : cells + 1 ≤ R.cells) (hslots : slots + fs.length ≤ R.slots) (hdg : decode cc pc = .ok (.new index, 3))
    (kk : ∀ (H1 : Heap), am_P D cl dA b X ext (am_new h (.inr (ci, fs))) H1 → va_S (fun q => b ≤ q) s.heap H1 locs → W p l e R s m args below meth c H1 locs (cells + 1) (slots + fs.length) Q (F0 m (pc + 3) ls (.ref (am_ad b X ext h.2) :: rest))) :
    W p l e R s m args below meth c H locs cells slots Q (F0 m pc ls rest) := by
  have hKn := hK.1 ci _ hc
  have hlen : fs.length = N := by rw [hfs]; simp
  have e0 : am_ad b X ext h.2 = H.size := by rw [am_ad_new hP.1, hP.2.1]
  refine W.newcK hx hb hown hcl hinst hini rfl hdg hcells (by rw [← hlen]; exact hslots) hKn.2.1 rfl fun H1 kC hkC e1 z1 o1 => ?_
  rw [← hlen, ← e0]
  refine kk H1 (am_P_new hP z1 o1 ⟨_, hc, (u_born ty hts hin hKn hkC e1 hty).to fun j hj => ?_⟩) ⟨Nat.le_trans hS.1 (by omega), fun x h1 h2 => (o1 x (Nat.lt_of_lt_of_le h1 hS.1)).trans (hS.2.1 x h1 h2), hS.2.2⟩
  show defaultValue (ty j) = vp_V (fs.map (am_vl b X ext)) j
  rw [hfs]
  simp [vp_V, hj, am_vl_dv]
theorem am_W_newa (hx : p.tables.exec = Jvm.exec) (hb : c.code = cc) {atype : ArrayType} (harr : (Cond.arrayClass (newarray.typeOf atype)).before args s = true) (hK : va_K D cl (am_tys dA) s) (hP : am_P D cl dA b X ext h H) (hS : va_S (fun q => b ≤ q) s.heap H locs)
    {n : Int32} {kd : Nat} {a0 : vp_A} (hkd : kd < 4) (hty : (am_tys dA)[kd]? = some (dA kd, newarray.typeOf atype)) (ha0 : ∀ cA : ClassId, vp_cell cA a0 = arrV cA n.toNatClampNeg (fun _ => defaultValue (newarray.typeOf atype))) (hn : ¬ n < 0) (hbytes : n.toNatClampNeg * componentBytes (newarray.typeOf atype) ≤ 536870912)
    (hcells : cells + 1 ≤ R.cells) (hslots : slots + n.toNatClampNeg ≤ R.slots) (hdg : decode cc pc = .ok (.newarray atype, 2)) (hprim : ∀ C, newarray.typeOf atype ≠ .object C)
    (kk : ∀ (H1 : Heap), am_P D cl dA b X ext (am_new h (.inl (kd, a0))) H1 → va_S (fun q => b ≤ q) s.heap H1 locs → W p l e R s m args below meth c H1 locs (cells + 1) (slots + n.toNatClampNeg) Q (F0 m (pc + 2) ls (.ref (am_ad b X ext h.2) :: rest))) :
    W p l e R s m args below meth c H locs cells slots Q (F0 m pc ls (.int n :: rest)) := by
  have e0 : am_ad b X ext h.2 = H.size := by rw [am_ad_new hP.1, hP.2.1]
  refine va_newaK hx hb harr rfl hdg rfl hn rfl hbytes hcells hslots rfl fun H1 cA e1 z1 o1 hAr hNm => ?_
  have hra := (hK.2 kd _ hty).2
  have hcA : cA = dA kd := by
    have h2 : s.vm.findClass ("[" ++ (newarray.typeOf atype).toString) = some (dA kd) := by
      unfold va_RA at hra
      revert hra
      cases hq : newarray.typeOf atype with
      | object C => exact absurd hq (hprim C)
      | _ => exact fun z => z
    exact Option.some.inj (hNm.symm.trans h2)
  rw [← e0]
  refine kk H1 (am_P_new hP z1 o1 ?_) ⟨Nat.le_trans hS.1 (by omega), fun x h1 h2 => (o1 x (Nat.lt_of_lt_of_le h1 hS.1)).trans (hS.2.1 x h1 h2), hS.2.2⟩
  show H1[H.size]? = some (vp_cell (dA kd) a0)
  rw [ha0, ← hcA]
  exact e1
end AmArr
