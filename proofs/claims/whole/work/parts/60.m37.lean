/-! the mathematics; written by wip/whole/m2parts.py -/
theorem getD_take {l : List Int32} {n i : Nat} (h : i < n) : (l.take n).getD i (-1) = l.getD i (-1) := by
  rw [List.getD_eq_getElem?_getD, List.getElem?_take_of_lt h, List.getD_eq_getElem?_getD]
theorem inv_cut {C C' R R2 : zr_Z} {T : List Int32} {D : List (List Int32)} {k u : Nat} {G : List Ent} {live : List Nat} {rc : Nat} {bs : List (Nat × Nat × Nat × Nat)} {nl pl it fi b0 : Nat}
    (h : INV0 C R T D k u G live rc bs nl pl it) (hb0 : live.countP (fun r => decide (r < fi)) = b0) (hfi : fi ≤ rc) (hbs : ∀ w ∈ bs, w.2.2.2 ≤ fi)
    (hC : C'.2 = C.2 ∧ (∀ id ∈ [91, 93, 95, 97, 99, 101], C'.1 id = (C.1 id).take b0) ∧ (∀ id ∈ [104, 106, 108, 110, 112], C'.1 id = (C.1 id).take bs.length) ∧ ∀ id, ¬ id ∈ [91, 93, 95, 97, 99, 101, 104, 106, 108, 110, 112] → C'.1 id = C.1 id)
    (hR : (∀ j, ¬ j = 157 → ∀ i, rv R2 j i = rv R j i) ∧ (∀ f, zf R2 f = zf R f) ∧ (∀ r, rv R2 157 r = if fi ≤ r ∧ r < rc then 1 else rv R 157 r)) :
    INV0 C' R2 T D k u G (live.take b0) rc bs nl pl it ∧ (∀ id ∈ [104, 106, 108, 110, 112], (C'.1 id).length = bs.length) ∧ (∀ r ∈ live.take b0, r < fi ∧ r ∈ live) := by
  obtain ⟨hIT, hIS, hIR, hIB, hIL, hIP, hIW⟩ := h
  obtain ⟨r1, r2, r3, r4, r5, r6, r7, r8⟩ := hIR
  have hble : b0 ≤ live.length := by rw [← hb0]; exact List.countP_le_length
  have hidx : ∀ i r, live[i]? = some r → (i < b0 ↔ r < fi) := by
    intro i r hir
    have hc := cnt_of_get live i r r2 hir
    constructor
    · intro hi
      refine Nat.lt_of_not_le (fun hge => ?_)
      have : live.countP (fun a => decide (a < fi)) ≤ live.countP (fun a => decide (a < r)) := List.countP_mono_left (fun a _ ha => decide_eq_true (by have := of_decide_eq_true ha; omega))
      omega
    · intro hr
      have h1 := cnt_lt_succ live r r2
      rw [if_pos (List.mem_of_getElem? hir), hc] at h1
      have : live.countP (fun a => decide (a < r + 1)) ≤ live.countP (fun a => decide (a < fi)) := List.countP_mono_left (fun a _ ha => decide_eq_true (by have := of_decide_eq_true ha; omega))
      omega
  have hmemt : ∀ r ∈ live.take b0, r < fi ∧ r ∈ live := by
    intro r hr
    obtain ⟨i, hi, he⟩ := List.mem_iff_getElem.mp hr
    have hi' : i < b0 := by rw [List.length_take] at hi; omega
    have hir : live[i]? = some r := by
      rw [← he, List.getElem_take, List.getElem?_eq_getElem]
    exact ⟨(hidx i r hir).mp hi', List.mem_of_getElem? hir⟩
  have hlo : ∀ id i, ¬ id ∈ [91, 93, 95, 97, 99, 101, 104, 106, 108, 110, 112] → ldq C' id i = ldq C id i := fun id i hid => by rw [ldq_eq, ldq_eq, hC.2.2.2 id hid]
  have hlr : ∀ id ∈ [91, 93, 95, 97, 99, 101], ∀ i, i < b0 → ldq C' id i = ldq C id i := fun id hid i hi => by rw [ldq_eq, ldq_eq, hC.2.1 id hid, getD_take hi]
  have hlb : ∀ id ∈ [104, 106, 108, 110, 112], ∀ i, i < bs.length → ldq C' id i = ldq C id i := fun id hid i hi => by rw [ldq_eq, ldq_eq, hC.2.2.1 id hid, getD_take hi]
  have hkd : ∀ q, kd C' q = kd C q := fun q => by unfold kd; rw [hC.2.2.2 66 (by decide)]
  have hvl : ∀ q, vl C' q = vl C q := fun q => by unfold vl; rw [hC.2.2.2 68 (by decide)]
  have hct : ∀ q, ctok C' T q = ctok C T q := fun q => by
    rw [ctok_eq, ctok_eq]; unfold ldT ldU
    rw [hkd, hvl, hlo 72 _ (by decide), hlo 70 _ (by decide), hlo 74 _ (by decide), hlo 76 _ (by decide), hlo 78 _ (by decide), hlo 80 _ (by decide)]
  have hrr : ∀ j, (142 ≤ j ∧ j ≤ 149) ∨ j = 154 → ∀ i, rv R2 j i = rv R j i := fun j hj i => hR.1 j (by omega) i
  have hrn : ∀ j x, ¬ j = 157 → rvn R2 j x = rvn R j x := fun j x hj => congrArg Int32.toNatClampNeg (hR.1 j hj x)
  have hzc : zc C' 1 = zc C 1 := by unfold zc; rw [hC.1]
  obtain ⟨b1, b2, b3, b4, ⟨n, hn, hn'⟩, b6, b7⟩ := hIB
  have hBL : ∀ id ∈ [104, 106, 108, 110, 112], (C'.1 id).length = bs.length := fun id hid => by
    rw [hC.2.2.1 id hid, List.length_take]; have := b1 id hid; omega
  refine ⟨⟨?_, ?_, ?_, ?_, ?_, ?_, ?_⟩, hBL, hmemt⟩
  · obtain ⟨h1, h2, h3, h4, h5⟩ := hIT
    obtain ⟨d1, d2, d3, d4, d5, d6, d7⟩ := h5
    refine ⟨(hC.2.2.2 61 (by decide)).trans h1, ⟨(hR.2.1 3).trans h2.1, fun i hi => (hR.1 137 (by omega) i).trans (h2.2 i hi)⟩, h3, fun i hi => (hR.1 173 (by omega) i).trans (h4 i hi), d1, d2, (hC.2.2.2 83 (by decide)).trans d3, (hC.2.2.2 85 (by decide)).trans d4, (hR.2.1 7).trans d5, fun d hd => ?_, fun d k hd hk => ?_⟩
    · rw [hR.1 140 (by omega)]; exact d6 d hd
    · rw [hR.1 139 (by omega)]; exact d7 d k hd hk
  · obtain ⟨s1, s2, s3, s4, s5, s6, s7, s8, s9, s10⟩ := hIS
    refine ⟨by rw [hC.2.2.2 66 (by decide)]; exact s1, by rw [hC.2.2.2 68 (by decide)]; exact s2, s3, fun q h1 h2 => by rw [hkd, hvl]; exact s4 q h1 h2, SG_cong G 0 k s5 (fun p _ _ => hct p) (fun en _ => rtok_all hrr), ?_, s7, (hR.2.1 20).trans s8, s9, s10⟩
    exact chn_cong _ _ s6 (fun v _ => hR.1 150 (by omega) v) (fun v _ => hR.1 151 (by omega) v) (hR.2.1 21)
  · refine ⟨fun id hid => ?_, r2.sublist (List.take_sublist _ _), fun r hr => r3 r (hmemt r hr).2, (hR.2.1 28).trans r4, r5, fun x a e r hm => ?_, fun r hr hnl => ?_, fun i r hir => ?_⟩
    · rw [hC.2.1 id hid, List.length_take, List.length_take, r1 id hid]
    · rw [hR.1 152 (by omega), hR.1 143 (by omega), hR.1 154 (by omega), hR.1 155 (by omega), hR.1 156 (by omega)]; exact r6 x a e r hm
    · rw [hR.2.2]
      by_cases hge : fi ≤ r
      · rw [if_pos ⟨hge, hr⟩]
      · rw [if_neg (fun hh => hge hh.1)]
        refine r7 r hr (fun hm => hnl ?_)
        obtain ⟨i, hi, he⟩ := List.mem_iff_getElem.mp hm
        have hir : live[i]? = some r := by rw [← he, List.getElem?_eq_getElem]
        have := (hidx i r hir).mpr (by omega)
        have h2 : (live.take b0)[i]? = some r := by rw [List.getElem?_take_of_lt this]; exact hir
        exact List.mem_of_getElem? h2
    · have hi : i < b0 := by
        have := (List.getElem?_eq_some_iff.mp hir).1
        rw [List.length_take] at this; omega
      rw [List.getElem?_take_of_lt hi] at hir
      have hrfi := (hidx i r hir).mp hi
      obtain ⟨x, a, e, g1, g2, g3, g4, g5, g6, g7, g8⟩ := r8 i r hir
      have e157 : rv R2 157 r = rv R 157 r := by rw [hR.2.2, if_neg (by omega)]
      refine ⟨x, a, e, g1, ?_, ?_, ?_, ?_, ?_, ?_, fun q q1 q2 => ?_⟩
      · rw [hlr 91 (by decide) i hi, hR.1 144 (by omega)]; exact g2
      · rw [hlr 93 (by decide) i hi, hR.1 153 (by omega)]; exact g3
      · rw [hlr 95 (by decide) i hi]; exact g4
      · rw [hlr 97 (by decide) i hi]; exact g5
      · rw [hlr 101 (by decide) i hi, hR.1 156 (by omega)]; exact g6
      · rw [hlr 99 (by decide) i hi, e157, hR.1 155 (by omega)]; exact g7
      · rw [hkd, hvl, hR.1 144 (by omega)]; exact g8 q q1 q2
  · refine ⟨fun id hid => Nat.le_of_eq (hBL id hid).symm, (hR.2.1 35).trans b2, b3, by rw [hzc, hR.2.1 36]; exact b4, ⟨n, hn, hzc.trans hn'⟩, fun b w hbw => ⟨?_, (b6 b w hbw).2⟩, b7⟩
    obtain ⟨g1, g2, g3, g4, g5, g6, g7, g8, g9, g10, g11, g12, g13, g14⟩ := (b6 b w hbw).1
    have hb : b < bs.length := (List.getElem?_eq_some_iff.mp hbw).1
    refine ⟨g1, g2, by rw [hR.1 143 (by omega)]; exact g3, by rw [hR.1 144 (by omega)]; exact g4, by rw [hR.1 158 (by omega)]; exact g5, by rw [hR.1 159 (by omega)]; exact g6, by rw [hR.1 160 (by omega)]; exact g7, ?_, by rw [hR.1 162 (by omega)]; exact g9, ?_, ?_, ?_, ?_, ?_⟩
    · rw [hR.1 161 (by omega), hlb 112 (by decide) b hb]; exact g8
    · rw [hR.1 163 (by omega), hlb 108 (by decide) b hb]; exact g10
    · rw [hlb 108 (by decide) b hb]; exact g11
    · rw [hlb 104 (by decide) b hb]; exact g12
    · rw [hlb 106 (by decide) b hb]; exact g13
    · rw [hlb 110 (by decide) b hb, g14]
      congr 1
      have hw := hbs w (List.mem_of_getElem? hbw)
      have hsplit : live.countP (fun r => decide (r < w.2.2.2)) = (live.take b0).countP (fun r => decide (r < w.2.2.2)) + (live.drop b0).countP (fun r => decide (r < w.2.2.2)) := by
        rw [← List.countP_append, List.take_append_drop]
      have hz : (live.drop b0).countP (fun r => decide (r < w.2.2.2)) = 0 := by
        rw [List.countP_eq_zero]
        intro r hr
        obtain ⟨i, hi, he⟩ := List.mem_iff_getElem.mp hr
        rw [List.getElem_drop] at he
        have hir : live[b0 + i]? = some r := by rw [← he, List.getElem?_eq_getElem]
        have : ¬ r < fi := fun hh => by have := (hidx (b0 + i) r hir).mpr hh; omega
        rw [decide_eq_true_eq]; omega
      omega
  · obtain ⟨h1, h2, h3, h4⟩ := hIL
    refine ⟨fun id hid => by rw [hC.2.2.2 id (by revert hid; revert id; decide)]; exact h1 id hid, h2, fun i hi => ?_, fun q hq => ?_⟩
    · have := h3 i hi
      unfold LD1 at this ⊢
      rw [hlo 70 _ (by decide), hlo 74 _ (by decide), hlo 76 _ (by decide), hlo 78 _ (by decide), hlo 80 _ (by decide)]; exact this
    · rw [hkd] at hq; rw [hvl]; exact h4 q hq
  · obtain ⟨h1, h2, h3⟩ := hIP
    refine ⟨(hR.2.1 10).trans h1, h2, fun en hen ht hk => ?_, fun en hen ht hk => ?_⟩
    · rw [hR.1 143 (by omega)] at hk
      rw [hrn 145 _ (by omega), hrn 146 _ (by omega), hrn 147 _ (by omega), hrn 148 _ (by omega)]; exact h3.1 en hen ht hk
    · rw [hR.1 143 (by omega)] at hk
      rw [hrn 145 _ (by omega), hrn 146 _ (by omega), hrn 147 _ (by omega), hrn 148 _ (by omega)]; exact h3.2 en hen ht hk
  · obtain ⟨h1, h2, h3⟩ := hIW
    refine ⟨?_, ?_, NB_cong h3.1 (fun en _ => rtok_all hrr), IZ_cong h3.2 (fun en _ j j1 j2 => hrr j (by omega) en.1)⟩
    · rw [sumE_cong (g := fun en => lws (rtok R en.1 en.2.2.2)) G (fun en _ => by rw [rtok_all hrr])]; exact h1
    · rw [sumE_cong (g := ew R) G (fun en _ => ew_all hrr en)]; exact h2
def rfin (R' : zr_Z) (ah B nx : Int32) : Option (Int32 × zr_Z) := Option.bind (o_134 R' ah) fun u25 => (if sok u25 then (Option.bind (o_127 u25 12 0) fun u26 => (if sok u26.2 then (if inq 162 B then (if ¬ (zv u26.2 162 B) = 0 then some (nx, u26.2) else (Option.bind (o_138 u26.2) fun u29 => (if sok u29 then some (nx, u29) else none))) else none) else none)) else none)
def cfin (C1 : zr_Z) (kk pl k e nb : Int32) : Option (Int32 × zr_Z) :=
  Option.bind (o_80 (f_35 (f_36 (f_35 C1 pl (f_30 C1 nb)) kk pl k) (k + 1) e) (zt (f_35 (f_36 (f_35 C1 pl (f_30 C1 nb)) kk pl k) (k + 1) e) 110 nb)) fun u15 => (if (decide (zt C1 106 nb = 1)) = true then some (e, f_26 u15 nb) else some (e, f_28 (f_26 u15 nb)))
theorem close_fin {C C1 R R' : zr_Z} {T : List Int32} {D : List (List Int32)} {k e : Nat} {G : List Ent} {live : List Nat} {rc : Nat} {bs bs0 : List (Nat × Nat × Nat × Nat)} {nl pl pl' it x p im ra : Nat} {kk num : Int32} {tl ul : List Int32}
    (h : INV C R T D k G live rc bs nl pl it) (hbs : bs = bs0 ++ [(x, p, im, ra)]) (hke : k < e) (heL : e ≤ T.length) (hkk : kk = if im = 0 then 6 else 7)
    (hC1 : C1.2 = C.2 ∧ (∀ id, ¬ id ∈ [70, 72, 74, 76, 78, 80] → ¬ id = 87 → C1.1 id = C.1 id) ∧ (∀ id ∈ [70, 72, 74, 76, 78, 80], ∃ c, C1.1 id = C.1 id ++ [c]))
    (hld : LD1 C1 T nl) (hlk : ldq C1 72 nl = num ∧ ldT C1 T nl = tl ∧ ldU C1 T nl = ul)
    (hR : (∀ j, (j < 141 ∨ 149 < j) → ∀ i, rv R' j i = rv R j i) ∧ (∀ j, 143 ≤ j → j ≤ 149 → ∀ y, ¬ y = x → rv R' j y = rv R j y) ∧ rv R' 144 x = rv R 144 x ∧ (∀ i, i < pl → rv R' 142 i = rv R 142 i) ∧ (∀ f ∈ [3, 7, 20, 21, 28, 36], zf R' f = zf R f) ∧ zf R' 10 = nI pl' ∧ zf R' 35 = nI bs0.length)
    (hkx : rv R' 143 x = kk) (hrt : rtok R' x none = [(kk, num, tl, ul)]) (hz : ∀ j, 145 ≤ j → j ≤ 148 → rv R' j x = nI (rvn R' j x)) (hpx : rvn R' 145 x + rvn R' 146 x ≤ pl' ∧ rvn R' 147 x + rvn R' 148 x ≤ pl') (hpl : pl ≤ pl' ∧ pl' ≤ 2 * e)
    (hw1 : 5 * (tl.length + ul.length) ≤ 13 * (e - k)) (hw2 : ows [(kk, num, tl, ul)] ≤ 12 * (e - k) + 12) (hX : ¬ mA T (e - 1) = 32) (nx : Int32) :
    ∃ C2 R2 G' live' it', cfin C1 kk (nI p) (nI k) (nI e) (nI bs0.length) = some (nI e, C2) ∧ rfin R' (nI ra) (nI bs0.length) nx = some (nx, R2) ∧ INV C2 R2 T D e G' live' rc bs0 (nl + 1) pl' it' ∧ C2.2 = C.2 ∧ (∀ f, ¬ f = 20 → ¬ f = 21 → zf R2 f = zf R' f) := by
  have hgt := h.1.2.2.1.1
  obtain ⟨s1, s2, s3, s4, s5, s6, s7, s8, s9, s10⟩ := h.2.1
  obtain ⟨b1, b2, b3, b4, ⟨mt, mt1, mt2⟩, b6, b7⟩ := h.2.2.2.1
  have hlast : bs[bs0.length]? = some (x, p, im, ra) := by rw [hbs, List.getElem?_append_right (Nat.le_refl _), Nat.sub_self]; rfl
  obtain ⟨⟨g1, g2, g3, g4, g5, g6, g7, g8, g9, g10, g11, g12, g13, g14⟩, hra⟩ := b6 _ _ hlast
  dsimp only at g1 g2 g3 g4 g5 g6 g7 g9 g12 g13 g14 hra
  have hpm := SG_mem G 0 k s5 _ g1
  dsimp only at hpm
  have hkk67 : kk = 6 ∨ kk = 7 := by rw [hkk]; by_cases e : im = 0; exact Or.inl (if_pos e); exact Or.inr (if_neg e)
  have hnl := h.2.2.2.2.1.2.1
  have hnb : bs0.length < 1500 := by have := b3.1; rw [hbs, List.length_append] at this; simp only [List.length_cons, List.length_nil] at this; omega
  have z1 : ∀ id, ¬ id ∈ [70, 72, 74, 76, 78, 80] → ¬ id = 87 → ∀ i, i < 2000 → zt C1 id (nI i) = ldq C id i := fun id q1 q2 i hi => by rw [zt_ldq _ _ (by omega), ldq_eq, ldq_eq, hC1.2.1 id q1 q2]
  have hf30 : f_30 C1 (nI bs0.length) = nI (p + 1 + im) := by
    unfold f_30; rw [z1 104 (by decide) (by decide) _ (by omega), z1 106 (by decide) (by decide) _ (by omega), g12, g13, nI_1, nI_add]
  have l66 : (C1.1 66).length = T.length := by rw [hC1.2.1 66 (by decide) (by decide)]; exact s1
  have l68 : (C1.1 68).length = T.length := by rw [hC1.2.1 68 (by decide) (by decide)]; exact s2
  have kd1 : ∀ q, kd C1 q = kd C q := fun q => by unfold kd; rw [hC1.2.1 66 (by decide) (by decide)]
  have vl1 : ∀ q, vl C1 q = vl C q := fun q => by unfold vl; rw [hC1.2.1 68 (by decide) (by decide)]
  obtain ⟨A1, A2, A3⟩ := erase (C := C1) (a := p) (b := p + 1 + im) (by omega) (by omega) (by omega)
  generalize hE1 : f_35 C1 (nI p) (nI (p + 1 + im)) = E1 at *
  obtain ⟨B1, B2, B3⟩ := put66 (C := E1) (p := p) (by rw [A1.2.2.1]; omega) (by rw [A1.2.2.1]; omega) kk
  have AB := A1.trans B1
  have hz70 : zs (zput E1 66 (nI p) kk) 70 - 1 = nI nl := by
    obtain ⟨c, hc⟩ := hC1.2.2 70 (by decide)
    unfold zs; rw [AB.1 70 (by decide) (by decide), hc, List.length_append, h.2.2.2.2.1.1 70 (by decide)]; exact nI_pred nl
  obtain ⟨D1, D2, D3⟩ := put68 (C := zput E1 66 (nI p) kk) (p := p) (by rw [AB.2.2.2]; omega) (by rw [AB.2.2.2]; omega) (nI nl)
  have ABD := AB.trans D1
  obtain ⟨E1', E2', E3'⟩ := put66 (C := zput (zput E1 66 (nI p) kk) 68 (nI p) (nI nl)) (p := k) (by rw [ABD.2.2.1]; omega) (by rw [ABD.2.2.1]; omega) 9
  have ABDE := ABD.trans E1'
  have hf36 : f_36 E1 kk (nI p) (nI k) = zput (zput (zput E1 66 (nI p) kk) 68 (nI p) (nI nl)) 66 (nI k) 9 := by unfold f_36; rw [hz70]
  obtain ⟨F1, F2, F3⟩ := erase (C := zput (zput (zput E1 66 (nI p) kk) 68 (nI p) (nI nl)) 66 (nI k) 9) (a := k + 1) (b := e) (by omega) (by rw [ABDE.2.2.1]; omega) (by rw [ABDE.2.2.1]; omega)
  have keepm := ABDE.trans F1
  obtain ⟨Cm, hCm⟩ : ∃ Cm, Cm = f_35 (f_36 E1 kk (nI p) (nI k)) (nI (k + 1)) (nI e) := ⟨_, rfl⟩
  rw [hf36] at hCm
  rw [← hCm] at F1 F2 F3 keepm
  have hkdm : ∀ q, kd Cm q = if k + 1 ≤ q ∧ q < e then 8 else if q = k then 9 else if q = p then kk else if p ≤ q ∧ q < p + 1 + im then 8 else kd C q := fun q => by rw [F2, E2', D2, B2, A2, kd1]
  have hvlm : ∀ q, vl Cm q = if q = p then nI nl else vl C q := fun q => by rw [F3, E3', D3, B3, A3, vl1]
  have hldm : ∀ id i, ¬ id = 66 → ¬ id = 68 → ldq Cm id i = ldq C1 id i := fun id i q1 q2 => keepm.ldq q1 q2 i
  obtain ⟨i0, hov'⟩ := inv_link (Cm := Cm) (R' := R') (kk := kk) (num := num) (tl := tl) (ul := ul) h hbs hke heL hkk67
    ⟨fun id q1 q2 => by
        rw [keepm.1 id (by rintro rfl; exact q1 (by decide)) (by rintro rfl; exact q1 (by decide))]
        exact hC1.2.1 id (fun hh => q1 (by simp only [List.mem_cons, List.not_mem_nil, or_false] at hh ⊢; omega)) q2,
      by unfold zc; rw [keepm.2.1, hC1.1], by rw [keepm.2.2.1, l66]; exact s1.symm, by rw [keepm.2.2.2, l68]; exact s2.symm, fun id hid => by
        obtain ⟨c, hc⟩ := hC1.2.2 id hid
        exact ⟨c, by rw [keepm.1 id (by rintro rfl; exact absurd hid (by decide)) (by rintro rfl; exact absurd hid (by decide))]; exact hc⟩⟩
    hkdm hvlm (by
      unfold LD1 at hld ⊢
      rw [hldm 70 _ (by decide) (by decide), hldm 74 _ (by decide) (by decide), hldm 76 _ (by decide) (by decide), hldm 78 _ (by decide) (by decide), hldm 80 _ (by decide) (by decide)]; exact hld)
    ⟨by rw [hldm 72 _ (by decide) (by decide)]; exact hlk.1, by
      have := hlk.2.1
      unfold ldT at this ⊢
      rw [hldm 70 _ (by decide) (by decide), hldm 74 _ (by decide) (by decide), hldm 76 _ (by decide) (by decide)]; exact this, by
      have := hlk.2.2
      unfold ldU at this ⊢
      rw [hldm 78 _ (by decide) (by decide), hldm 80 _ (by decide) (by decide)]; exact this⟩
    hR hkx hrt hpx hpl hw1 hw2 hz
  obtain ⟨b0, hb0⟩ : ∃ b0, live.countP (fun r => decide (r < ra)) = b0 := ⟨_, rfl⟩
  rw [hb0] at g14
  obtain ⟨C3, R3, R4, G3, it3, j1, j2, j3, j4, j5, j6, j7⟩ := pair_lock (by omega) hb0 hra i0 hov'
  have hb0l : b0 ≤ live.length := by rw [← hb0]; exact List.countP_le_length
  have hlv := live_le h.2.2.1
  have hrck := b3.2
  obtain ⟨c77a, c77b, c77c⟩ := c77 (C := C3) (n := b0) (by omega)
  obtain ⟨c26a, c26b, c26c⟩ := c26 (C := f_77 C3 (nI b0)) (n := bs0.length) (by omega)
  obtain ⟨C5, hC5⟩ : ∃ C5, C5 = f_26 (f_77 C3 (nI b0)) (nI bs0.length) := ⟨_, rfl⟩
  rw [← hC5] at c26a c26b c26c
  have hcut := inv_cut (C' := C5) (R2 := R4) j1 hb0 hra (fun w hw => by
      rw [hbs, List.pairwise_append] at b7
      exact (b7.2.2 w hw (x, p, im, ra) (List.mem_singleton.mpr rfl)).1)
    ⟨c26a.trans c77a, fun id hid => by rw [c26c id (by revert hid; revert id; decide)]; exact c77b id hid, fun id hid => by rw [c26b id hid, c77c id (by revert hid; revert id; decide)], fun id hid => by
      rw [c26c id (fun hh => hid (by simp only [List.mem_cons, List.not_mem_nil, or_false] at hh ⊢; omega))]
      exact c77c id (fun hh => hid (by simp only [List.mem_cons, List.not_mem_nil, or_false] at hh ⊢; omega))⟩
    ⟨j5, j6, j7⟩
  obtain ⟨i1, hBL, hmt⟩ := hcut
  have hov4 : ∀ r ∈ live.take b0, rv R4 157 r = 0 := fun r hr => by
    obtain ⟨m1, m2⟩ := hmt r hr
    rw [j7, if_neg (by omega), j2.2.2.2.1 r (by omega)]; exact hov' r m2
  have kd5 : ∀ q, k ≤ q → kd C5 q = kd Cm q ∧ vl C5 q = vl Cm q := fun q hq => by
    have e66 : C5.1 66 = C3.1 66 := by rw [c26c 66 (by decide), c77c 66 (by decide)]
    have e68 : C5.1 68 = C3.1 68 := by rw [c26c 68 (by decide), c77c 68 (by decide)]
    have := j2.2.2.2.2.2 q hq
    refine ⟨?_, ?_⟩
    · rw [← this.1]; unfold kd; rw [e66]
    · rw [← this.2]; unfold vl; rw [e68]
  have kk5 : kd C5 k = 9 := by
    have d1 : ¬ (k + 1 ≤ k ∧ k < e) := by omega
    rw [(kd5 k (Nat.le_refl _)).1, hkdm, if_neg d1, if_pos rfl]
  have kg5 : ∀ q, k + 1 ≤ q → q < e → kd C5 q = 8 := fun q q1 q2 => by
    rw [(kd5 q (by omega)).1, hkdm, if_pos ⟨q1, q2⟩]
  obtain ⟨R5, y1, y2, y3, -⟩ := inv_item1 (C' := C5) (k' := e) (wh := 12) (le := 0) i1 hov4 hBL (Nat.le_refl _) hke heL (CK2.refl C5) (fun _ _ => ⟨rfl, rfl⟩) (fun q q1 q2 => by
      by_cases e1 : q = k
      · rw [e1, kk5]; decide
      · rw [kg5 q (by omega) q2]; decide) (by decide) (by
      rw [show e - k = 1 + (e - (k + 1)) by omega, ctk_add, ctk_one, ctk_gone (e - (k + 1)) (k + 1) (fun q q1 q2 => kg5 q q1 (by omega)), ctok_eq, kk5]; rfl) (by show 5 * 0 ≤ _; omega) (Or.inr ⟨by decide, by show 0 ≤ _; omega⟩) (Or.inl hX)
  have hzt110 : zt Cm 110 (nI bs0.length) = nI b0 := by
    rw [zt_ldq _ _ (by omega), hldm 110 _ (by decide) (by decide), ldq_eq, hC1.2.1 110 (by decide) (by decide)]; exact g14
  have hzt106 : zt C1 106 (nI bs0.length) = nI im := by rw [z1 106 (by decide) (by decide) _ (by omega)]; exact g13
  have him : decide (nI im = 1) = decide (¬ im = 0) := decide_eq_decide.mpr (by rw [show (1 : Int32) = nI 1 from rfl, nI_eq (by omega) (by omega)]; omega)
  have hclass : cfin C1 kk (nI p) (nI k) (nI e) (nI bs0.length) = if ¬ im = 0 then some (nI e, C5) else some (nI e, f_28 C5) := by
    unfold cfin
    rw [hf30, hE1, hf36, nI_1, ← hCm, hzt110, j3, hzt106, him]
    simp only [Option.bind_some]
    rw [← hC5]
    by_cases e1 : im = 0
    · rw [if_neg (by rw [decide_eq_false (fun hh => hh e1)]; decide), if_neg (fun hh => hh e1)]
    · rw [if_pos (decide_eq_true e1), if_pos e1]
  have hm4 := i1.1.2.1
  have hT := h.1.2.2.1
  have h162 : zv R5 162 (nI bs0.length) = nI im := by
    have e0 : rv R5 162 bs0.length = rv R4 162 bs0.length := by
      obtain ⟨R5', w1, w2, w3, -⟩ := r127 (R := R4) (l := G3.map (fun en => en.1)) (it := it3) i1.2.1.2.2.2.2.2.2.2.1 (by have := i1.2.1.2.2.2.2.2.2.2.2.2; omega) i1.2.1.2.2.2.2.2.1 i1.2.1.2.2.2.2.2.2.1 (fun v hv => by
        obtain ⟨en, hen, rfl⟩ := List.mem_map.mp hv
        exact i1.2.1.2.2.2.2.2.2.2.2.1 en hen) 12 0
      rw [y1] at w1
      have : R5 = R5' := (Prod.mk.inj (Option.some.inj w1)).2
      rw [this]; exact w3 162 (by omega) _
    rw [zv_nI _ _ (by omega), e0, j5 162 (by decide)]
    have e1 : rv R3 162 bs0.length = rv R' 162 bs0.length := j2.2.2.2.2.1 162 (by omega) (by decide) _
    rw [e1, hR.1 162 (by omega)]; exact g9
  have hzne : nI im = 0 ↔ im = 0 := by rw [← nI_0, nI_eq (by omega) (by omega)]
  have hpre : rfin R' (nI ra) (nI bs0.length) nx = (if ¬ im = 0 then some (nx, R5) else (Option.bind (o_138 R5) fun u29 => (if sok u29 then some (nx, u29) else none))) := by
    unfold rfin
    rw [j4]
    simp only [Option.bind_some]
    rw [if_pos (hm4.sk hT), y1]
    simp only [Option.bind_some]
    rw [if_pos y2.sok, if_pos (inq_nI (by show bs0.length < 1500; omega) (by omega)), h162]
    by_cases e1 : im = 0
    · rw [if_neg (fun hh => hh (hzne.mpr e1)), if_neg (fun hh => hh e1)]
    · rw [if_pos (fun hh => e1 (hzne.mp hh)), if_pos e1]
  have hC52 : C5.2 = C.2 := by rw [c26a, c77a, j2.1, keepm.2.1, hC1.1]
  have hf4 : ∀ f, ¬ f = 20 → ¬ f = 21 → zf R5 f = zf R' f := fun f f1 f2 => by rw [y3 f f1 f2, j6, j2.2.2.1 f f1 f2]
  by_cases e1 : im = 0
  · rw [if_neg (fun hh => hh e1)] at hclass hpre
    obtain ⟨d0, d1, d2, d3⟩ := c28 (C := C5) (n := bs0.length) (by omega) (y2.bl 104 (by decide)) (y2.bl 108 (by decide))
    obtain ⟨B1', B2', B3', B4', B5', B6', B7'⟩ := y2.2.2.2.1
    obtain ⟨R6, k1, k2, k3, k4⟩ := r138 (R := R5) (n := bs0.length) (by omega) B2' (fun b hb => by
      obtain ⟨q1, q2, q3, q4, q5, q6, q7, q8, q9, q10, q11, q12, q13, q14⟩ := (B6' b _ (List.getElem?_eq_getElem hb)).1
      rw [q10]; exact q11)
    have hfin := inv_kill (C' := f_28 C5) (R' := R6) y2 ⟨d3, by unfold zc; rw [d0], d1, d2⟩ ⟨k2, fun f _ => k3 f, k4⟩
    refine ⟨f_28 C5, R6, _, _, _, hclass, ?_, hfin, d0.trans hC52, fun f f1 f2 => by rw [k3]; exact hf4 f f1 f2⟩
    rw [hpre, k1]; simp only [Option.bind_some, if_pos hfin.sok]
  · rw [if_pos e1] at hclass hpre
    exact ⟨C5, R5, _, _, _, hclass, hpre, y2, hC52, hf4⟩
