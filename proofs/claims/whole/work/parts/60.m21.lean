/-! the mathematics; written by wip/whole/m2parts.py -/
def CK2 (C C' : zr_Z) : Prop := (∀ id, ¬ id = 66 → ¬ id = 68 → C'.1 id = C.1 id) ∧ (C'.1 66).length = (C.1 66).length ∧ (C'.1 68).length = (C.1 68).length ∧ zc C' 1 = zc C 1
theorem CK2.refl (C : zr_Z) : CK2 C C := ⟨fun _ _ _ => rfl, rfl, rfl, rfl⟩
theorem CK2.ck {C C' : zr_Z} (h : CK2 C C') : CK C C' := ⟨fun id hid => h.1 id (by rintro rfl; exact hid (by decide)) (by rintro rfl; exact hid (by decide)), h.2.1, h.2.2.1, h.2.2.2⟩
theorem ckeep.ck2 {C C' : zr_Z} (h : ckeep C C') : CK2 C C' := ⟨h.1, h.2.2.1, h.2.2.2, by unfold zc; rw [h.2.1]⟩
theorem CK2.ldq {C C' : zr_Z} (h : CK2 C C') {id : Nat} (h1 : ¬ id = 66) (h2 : ¬ id = 68) (i : Nat) : ldq C' id i = ldq C id i := by rw [ldq_eq, ldq_eq, h.1 id h1 h2]
theorem CK2.ctok {C C' : zr_Z} {T : List Int32} (h : CK2 C C') {p : Nat} (h1 : kd C' p = kd C p ∧ vl C' p = vl C p) : ctok C' T p = ctok C T p := by
  rw [ctok_eq, ctok_eq]
  unfold ldT ldU
  rw [h1.1, h1.2, h.ldq (id := 70) (by decide) (by decide), h.ldq (id := 72) (by decide) (by decide), h.ldq (id := 74) (by decide) (by decide), h.ldq (id := 76) (by decide) (by decide), h.ldq (id := 78) (by decide) (by decide), h.ldq (id := 80) (by decide) (by decide)]
theorem IL_keep {C C' : zr_Z} {T : List Int32} {k k' nl : Nat} (h : IL C T k nl) (hC : CK2 C C') (hk : k ≤ k') (a b : Nat) (hmk : ∀ q, ¬ (a ≤ q ∧ q < b) → kd C' q = kd C q ∧ vl C' q = vl C q) (hno : ∀ q, a ≤ q → q < b → ¬ (kd C' q = 6 ∨ kd C' q = 7)) : IL C' T k' nl := by
  obtain ⟨h1, h2, h3, h4⟩ := h
  refine ⟨fun id hid => by rw [hC.1 id (by rintro rfl; exact absurd hid (by decide)) (by rintro rfl; exact absurd hid (by decide))]; exact h1 id hid, by omega, fun i hi => ?_, fun q hq => ?_⟩
  · have := h3 i hi
    unfold LD1 at this ⊢
    rw [hC.ldq (id := 70) (by decide) (by decide), hC.ldq (id := 74) (by decide) (by decide), hC.ldq (id := 76) (by decide) (by decide), hC.ldq (id := 78) (by decide) (by decide), hC.ldq (id := 80) (by decide) (by decide)]; exact this
  · by_cases hq' : a ≤ q ∧ q < b
    · exact absurd hq (hno q hq'.1 hq'.2)
    · have := hmk q hq'
      rw [this.1] at hq; rw [this.2]; exact h4 q hq
def rtk0 (wh le : Int32) : List Tok := if wh = 0 then [tkc le] else if wh = 11 then (if le = 1 then [tkc 33] else []) ++ [tkc 91] else if wh = 12 then [tk0 9] else [tk0 wh]
theorem rtok_0 {R : zr_Z} {x : Nat} {wh le : Int32} (h1 : rv R 143 x = wh) (h2 : rv R 144 x = le) (hw : ¬ (wh = 3 ∨ wh = 6 ∨ wh = 7)) : rtok R x none = rtk0 wh le := by
  unfold rtok rtk0
  dsimp only
  rw [h1, h2]
  by_cases e0 : wh = 0
  · rw [if_pos e0, if_pos e0]
  · rw [if_neg e0, if_neg e0, if_neg (fun h => hw (Or.inl h)), if_neg (fun h => hw (Or.inr h))]
theorem inv_item {C C' R : zr_Z} {T : List Int32} {D : List (List Int32)} {k0 k k' u : Nat} {G G0 Gs : List Ent} {live : List Nat} {rc : Nat} {bs : List (Nat × Nat × Nat × Nat)} {nl pl it : Nat} {wh le : Int32}
    (h : INV0 C R T D k u G live rc bs nl pl it) (hov : ∀ r ∈ live, rv R 157 r = 0) (hbl : ∀ id ∈ [104, 106, 108, 110, 112], (C.1 id).length = bs.length) (hu : u ≤ k') (hG : G = G0 ++ Gs) (hGs : ∀ en ∈ Gs, en.2.2.2 = none ∧ rv R 143 en.1 = 0) (hS0 : SG C R T 0 G0 k0) (hk0 : k0 ≤ k) (hk : k < k') (hk' : k' ≤ T.length) (hC : CK2 C C') {R0 : zr_Z} (hR0 : (∀ j, ¬ j = 150 → ¬ j = 151 → ∀ i, rv R0 j i = rv R j i) ∧ (∀ f, ¬ f = 21 → zf R0 f = zf R f)) (hch : chn R0 0 (G0.map (fun en => en.1)))
    (hmk : ∀ q, ¬ (k0 ≤ q ∧ q < k') → kd C' q = kd C q ∧ vl C' q = vl C q) (hno : ∀ q, k0 ≤ q → q < k' → ¬ (kd C' q = 6 ∨ kd C' q = 7)) (hwh : ¬ (wh = 3 ∨ wh = 6 ∨ wh = 7)) (htok : ctk C' T k0 (k' - k0) = rtk0 wh le)
    (hw1 : 5 * lws (rtk0 wh le) ≤ 13 * (k' - u)) (hw2 : (wh = 11 ∧ k0 = u) ∨ (¬ wh = 11 ∧ ows (rtk0 wh le) ≤ 12 * (k' - u))) (hX : ¬ mA T (k' - 1) = 32 ∨ (k' = k + 1 ∧ k0 = k ∧ Gs = [] ∧ IX R T G k ∧ wh = 0 ∧ le = mA T k)) (hwb : (¬ wh = 12 ∧ ¬ wh = 9) ∨ k < u := by first | exact Or.inl (by decide) | exact Or.inr (by omega)) (hw9 : kok wh := by exact ⟨by decide, by decide⟩) :
    ∃ R', o_127 R0 wh le = some (nI (it + 1), R') ∧ INV C' R' T D k' (G0 ++ [(it + 1, k0, k', none)]) live rc bs nl pl (it + 1) ∧ (∀ f, ¬ f = 20 → ¬ f = 21 → zf R' f = zf R f) ∧ rv R' 143 (it + 1) = wh ∧ rv R' 144 (it + 1) = le := by
  have hIS := h.2.1
  obtain ⟨s1, s2, s3, s4, s5, s6, s7, s8, s9, s10⟩ := hIS
  have hL := h.1.2.2.1.1
  have h0 : ∀ en ∈ G0, en ∈ G := fun en hen => by rw [hG]; exact List.mem_append_left _ hen
  obtain ⟨R', q1, q2, q3, q4, q5, q6, q7, q8, q9, q10, q11, q12, q13⟩ := r127 (R := R0) (l := G0.map (fun en => en.1)) (it := it) ((hR0.2 20 (by decide)).trans s8) (by omega) hch (by
      rw [hG, List.map_append, ← List.cons_append] at s7
      exact (List.nodup_append.mp s7).1) (fun v hv => by
      obtain ⟨en, hen, rfl⟩ := List.mem_map.mp hv
      exact s9 en (h0 en hen)) wh le
  have hRK : RK R R' it pl := ⟨fun j hj i => (q3 j (by omega) i).trans (hR0.1 j (by omega) (by omega) i), fun j j1 j2 x hx => (q4 j j1 j2 x (by omega)).trans (hR0.1 j (by omega) (by omega) x), fun i _ => (q3 142 (by omega) i).trans (hR0.1 142 (by omega) (by omega) i), fun f hf => (q13 f (by rintro rfl; exact absurd hf (by decide)) (by rintro rfl; exact absurd hf (by decide))).trans (hR0.2 f (by rintro rfl; exact absurd hf (by decide)))⟩
  have hrt := rtok_0 q5 q6 hwh
  have hp := h.2.2.2.2.2.1
  refine ⟨R', q1, ?_, fun f f1 f2 => (q13 f f1 f2).trans (hR0.2 f f2), q5, q6⟩
  refine inv_app2 h hov hbl hu hC.ck hRK hG hGs hS0 hk0 hk hk' hmk (fun q hq => hC.ctok (hmk q (by omega))) q2 q12 (by rw [htok, hrt]) (IL_keep h.2.2.2.2.1 hC (by omega) k0 k' hmk hno) ((q13 10 (by decide) (by decide)).trans ((hR0.2 10 (by decide)).trans hp.1)) ⟨Nat.le_refl _, by have := hp.2.1; omega⟩ (fun hh => absurd (q5 ▸ hh) hwh) (fun _ => ⟨by unfold rvn; rw [show R'.2.2.1 145 (it + 1) = 0 from q7, show R'.2.2.1 146 (it + 1) = 0 from q8]; rfl, by unfold rvn; rw [show R'.2.2.1 147 (it + 1) = 0 from q9, show R'.2.2.1 148 (it + 1) = 0 from q10]; rfl⟩) (by rw [hrt]; exact hw1) ?_ ?_ ?_ (IZ1_new q7 q8 q9 q10 q11 (by rw [q5]; exact hw9))
  · rw [q5, hrt]; exact hw2
  · rcases hX with hX | ⟨e1, e2, e3, e4, e5, e6⟩
    · exact IX_none hX
    · subst e1; subst e2; subst e3
      rw [List.append_nil] at hG
      subst hG
      exact IX_snoc e4 (fun en hen => ⟨hRK.2.1 143 (by omega) (by omega) _ (s9 en hen), hRK.2.1 144 (by omega) (by omega) _ (s9 en hen)⟩) ⟨q5.trans e5, q6.trans e6⟩
  · rw [hrt]
    have e1 : ∀ t : Tok, ncl [t] = if t.1 = 9 then 1 else 0 := fun t => by unfold ncl; rw [List.map_cons, List.map_nil, List.sum_cons, List.sum_nil]; rfl
    have e2 : ∀ t s : Tok, ncl [t, s] = (if t.1 = 9 then 1 else 0) + if s.1 = 9 then 1 else 0 := fun t s => by unfold ncl; rw [List.map_cons, List.map_cons, List.map_nil, List.sum_cons, List.sum_cons, List.sum_nil]; rfl
    have hle : ncl (rtk0 wh le) ≤ 1 ∧ (¬ wh = 12 → ¬ wh = 9 → ncl (rtk0 wh le) = 0) := by
      unfold rtk0
      by_cases g0 : wh = 0
      · rw [if_pos g0, e1]; exact ⟨Nat.zero_le _, fun _ _ => rfl⟩
      · rw [if_neg g0]
        by_cases g1 : wh = 11
        · rw [if_pos g1]
          by_cases g2 : le = 1
          · rw [if_pos g2]; exact ⟨Nat.zero_le _, fun _ _ => rfl⟩
          · rw [if_neg g2]; exact ⟨Nat.zero_le _, fun _ _ => rfl⟩
        · rw [if_neg g1]
          by_cases g2 : wh = 12
          · rw [if_pos g2]; exact ⟨Nat.le_refl _, fun hh => absurd g2 hh⟩
          · rw [if_neg g2, e1]
            show (if wh = 9 then 1 else 0) ≤ 1 ∧ _
            by_cases g3 : wh = 9
            · rw [if_pos g3]; exact ⟨Nat.le_refl _, fun _ hh => absurd g3 hh⟩
            · rw [if_neg g3]; exact ⟨Nat.zero_le _, fun _ _ => by show (if wh = 9 then 1 else 0) = 0; rw [if_neg g3]⟩
    rcases hwb with hb | hb
    · rw [hle.2 hb.1 hb.2]; exact Nat.zero_le _
    · rw [if_pos hb]; have := hle.1; omega
theorem inv_item1 {C C' R : zr_Z} {T : List Int32} {D : List (List Int32)} {k k' u : Nat} {G : List Ent} {live : List Nat} {rc : Nat} {bs : List (Nat × Nat × Nat × Nat)} {nl pl it : Nat} {wh le : Int32}
    (h : INV0 C R T D k u G live rc bs nl pl it) (hov : ∀ r ∈ live, rv R 157 r = 0) (hbl : ∀ id ∈ [104, 106, 108, 110, 112], (C.1 id).length = bs.length) (hu : u ≤ k') (hk : k < k') (hk' : k' ≤ T.length) (hC : CK2 C C')
    (hmk : ∀ q, ¬ (k ≤ q ∧ q < k') → kd C' q = kd C q ∧ vl C' q = vl C q) (hno : ∀ q, k ≤ q → q < k' → ¬ (kd C' q = 6 ∨ kd C' q = 7)) (hwh : ¬ (wh = 3 ∨ wh = 6 ∨ wh = 7)) (htok : ctk C' T k (k' - k) = rtk0 wh le)
    (hw1 : 5 * lws (rtk0 wh le) ≤ 13 * (k' - u)) (hw2 : (wh = 11 ∧ k = u) ∨ (¬ wh = 11 ∧ ows (rtk0 wh le) ≤ 12 * (k' - u))) (hX : ¬ mA T (k' - 1) = 32 ∨ (k' = k + 1 ∧ IX R T G k ∧ wh = 0 ∧ le = mA T k)) (hwb : (¬ wh = 12 ∧ ¬ wh = 9) ∨ k < u := by first | exact Or.inl (by decide) | exact Or.inr (by omega)) (hw9 : kok wh := by exact ⟨by decide, by decide⟩) :
    ∃ R', o_127 R wh le = some (nI (it + 1), R') ∧ INV C' R' T D k' (G ++ [(it + 1, k, k', none)]) live rc bs nl pl (it + 1) ∧ (∀ f, ¬ f = 20 → ¬ f = 21 → zf R' f = zf R f) ∧ rv R' 143 (it + 1) = wh ∧ rv R' 144 (it + 1) = le := by
  refine inv_item h hov hbl hu (Gs := []) (by rw [List.append_nil]) (fun en hen => absurd hen (by simp)) h.2.1.2.2.2.2.1 (Nat.le_refl _) hk hk' hC ⟨fun _ _ _ _ => rfl, fun _ _ => rfl⟩ h.2.1.2.2.2.2.2.1 hmk hno hwh htok hw1 ?_ ?_ hwb hw9
  · exact hw2
  · rcases hX with h | ⟨e1, e2, e3, e4⟩
    · exact Or.inl h
    · exact Or.inr ⟨e1, rfl, rfl, e2, e3, e4⟩
theorem lws_1 (c : Int32) : lws [tkc c] = 1 := rfl
theorem ows_1 (c : Int32) : ows [tkc c] ≤ 6 := by
  have := (cst_le c).1
  unfold ows ow tkc; simp only [List.map_cons, List.map_nil, List.sum_cons, List.sum_nil, if_true]; omega
theorem part_text {C R : zr_Z} {T : List Int32} {D : List (List Int32)} {k : Nat} {G : List Ent} {live : List Nat} {rc : Nat} {bs : List (Nat × Nat × Nat × Nat)} {nl pl it : Nat}
    (h : INV C R T D k G live rc bs nl pl it) (hk : k < T.length) :
    ∃ R', o_127 R 0 (mA T k) = some (nI (it + 1), R') ∧ INV C R' T D (k + 1) (G ++ [(it + 1, k, k + 1, none)]) live rc bs nl pl (it + 1) ∧ (∀ f, ¬ f = 20 → ¬ f = 21 → zf R' f = zf R f) := by
  have hu := h.2.1.2.2.2.1 k (Nat.le_refl _) hk
  obtain ⟨R', h1, h2, h3, -⟩ := inv_item1 (C' := C) (k' := k + 1) (wh := 0) (le := mA T k) h.z h.ov h.bl (by omega) (by omega) (by omega) (CK2.refl C) (fun _ _ => ⟨rfl, rfl⟩) (fun q q1 q2 => by
    have : q = k := by omega
    rw [this, hu.1]; decide) (by decide) (by
    rw [show k + 1 - k = 1 by omega, ctk_one]; unfold ctok rtk0
    rw [hu.1, hu.2]; rfl) (by rw [show k + 1 - k = 1 by omega]; show 5 * 1 ≤ 13 * 1; omega) (Or.inr ⟨by decide, by have := ows_1 (mA T k); show ows [tkc (mA T k)] ≤ _; omega⟩) (Or.inr ⟨rfl, h.ix, rfl, rfl⟩)
  exact ⟨R', h1, h2, h3⟩
