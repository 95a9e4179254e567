/-! the mathematics; written by wip/whole/m2parts.py -/
theorem sumE_mid (f : Ent → Nat) (A B : List Ent) (e : Ent) : sumE f (A ++ e :: B) = sumE f A + (f e + sumE f B) := by rw [sumE_app, sumE_cons]
theorem NB_turn {R R' : zr_Z} {G1 G2 : List Ent} {en : Ent} {k e : Nat} (h : NB R (G1 ++ en :: G2) k k) (hc : ∀ e ∈ G1 ++ G2, rtok R' e.1 e.2.2.2 = rtok R e.1 e.2.2.2) (h1 : ecl R en = 0 ∧ eop R en = 0) (h2 : ecl R' en = 0 ∧ eop R' en = 1) : NB R' (G1 ++ en :: G2) k e := by
  have c1 : sumE (ecl R') G1 = sumE (ecl R) G1 := sumE_cong G1 (fun en hen => ecl_c (hc en (List.mem_append_left _ hen)))
  have c2 : sumE (eop R') G1 = sumE (eop R) G1 := sumE_cong G1 (fun en hen => eop_c (hc en (List.mem_append_left _ hen)))
  refine ⟨fun A B hA => ?_, fun _ => ?_⟩
  · rcases pre_cases hA with ⟨w, e1⟩ | ⟨w, e1, e2⟩
    · rw [sumE_cong (g := ecl R) A (fun en hen => ecl_c (hc en (List.mem_append_left _ (by rw [e1]; exact List.mem_append_left _ hen)))), sumE_cong (g := eop R) A (fun en hen => eop_c (hc en (List.mem_append_left _ (by rw [e1]; exact List.mem_append_left _ hen))))]
      exact h.1 A (w ++ en :: G2) (by rw [e1, List.append_assoc])
    · rw [e1, sumE_app, sumE_app, c1, c2]
      cases w with
      | nil => exact h.1 G1 (en :: G2) rfl
      | cons y v =>
        rw [List.cons_append] at e2
        injection e2 with e3 e4
        rw [← e3, sumE_cons, sumE_cons, h2.1, h2.2]
        rw [sumE_cong (g := ecl R) v (fun en hen => ecl_c (hc en (List.mem_append_right _ (by rw [e4]; exact List.mem_append_left _ hen)))), sumE_cong (g := eop R) v (fun en hen => eop_c (hc en (List.mem_append_right _ (by rw [e4]; exact List.mem_append_left _ hen))))]
        have := h.1 (G1 ++ en :: v) B (by rw [e4, List.append_assoc]; rfl)
        rw [sumE_mid, sumE_mid, h1.1, h1.2] at this
        omega
  · have := h.full
    rw [sumE_mid, sumE_mid, h1.1, h1.2] at this
    rw [sumE_mid, sumE_mid, h2.1, h2.2, c1, c2, sumE_cong (g := ecl R) G2 (fun en hen => ecl_c (hc en (List.mem_append_right _ hen))), sumE_cong (g := eop R) G2 (fun en hen => eop_c (hc en (List.mem_append_right _ hen)))]
    omega
theorem inv_link {C Cm R R' : zr_Z} {T : List Int32} {D : List (List Int32)} {k e : Nat} {G : List Ent} {live : List Nat} {rc : Nat} {bs bs0 : List (Nat × Nat × Nat × Nat)} {nl pl pl' it x p im ra : Nat} {kk num : Int32} {tl ul : List Int32}
    (h : INV C R T D k G live rc bs nl pl it) (hbs : bs = bs0 ++ [(x, p, im, ra)]) (hke : k < e) (heL : e ≤ T.length) (hkk : kk = 6 ∨ kk = 7)
    (hC : (∀ id, ¬ id ∈ mrows → ¬ id = 87 → Cm.1 id = C.1 id) ∧ zc Cm 1 = zc C 1 ∧ (Cm.1 66).length = (C.1 66).length ∧ (Cm.1 68).length = (C.1 68).length ∧ (∀ id ∈ [70, 72, 74, 76, 78, 80], ∃ c, Cm.1 id = C.1 id ++ [c]))
    (hkd : ∀ q, kd Cm q = if k + 1 ≤ q ∧ q < e then 8 else if q = k then 9 else if q = p then kk else if p ≤ q ∧ q < p + 1 + im then 8 else kd C q) (hvl : ∀ q, vl Cm q = if q = p then nI nl else vl C q)
    (hld : LD1 Cm T nl) (hlk : ldq Cm 72 nl = num ∧ ldT Cm T nl = tl ∧ ldU Cm T nl = ul)
    (hR : (∀ j, (j < 141 ∨ 149 < j) → ∀ i, rv R' j i = rv R j i) ∧ (∀ j, 143 ≤ j → j ≤ 149 → ∀ y, ¬ y = x → rv R' j y = rv R j y) ∧ rv R' 144 x = rv R 144 x ∧ (∀ i, i < pl → rv R' 142 i = rv R 142 i) ∧ (∀ f ∈ [3, 7, 20, 21, 28, 36], zf R' f = zf R f) ∧ zf R' 10 = nI pl' ∧ zf R' 35 = nI bs0.length)
    (hkx : rv R' 143 x = kk) (hrt : rtok R' x none = [(kk, num, tl, ul)]) (hpx : rvn R' 145 x + rvn R' 146 x ≤ pl' ∧ rvn R' 147 x + rvn R' 148 x ≤ pl') (hpl : pl ≤ pl' ∧ pl' ≤ 2 * e)
    (hw1 : 5 * (tl.length + ul.length) ≤ 13 * (e - k)) (hw2 : ows [(kk, num, tl, ul)] ≤ 12 * (e - k) + 12) (hz : ∀ j, 145 ≤ j → j ≤ 148 → rv R' j x = nI (rvn R' j x)) :
    INV0 Cm R' T D k e G live rc bs0 (nl + 1) pl' it ∧ (∀ r ∈ live, rv R' 157 r = 0) := by
  have hov := h.ov
  have hbl := h.bl
  obtain ⟨hIT, hIS, hIR, hIB, hIL, hIP, hIW, -⟩ := h
  obtain ⟨s1, s2, s3, s4, s5, s6, s7, s8, s9, s10⟩ := hIS
  obtain ⟨b1, b2, b3, b4, ⟨mt, mt1, mt2⟩, b6, b7⟩ := hIB
  have hgt := hIT.2.2.1.1
  have hlast : bs[bs0.length]? = some (x, p, im, ra) := by rw [hbs, List.getElem?_append_right (Nat.le_refl _), Nat.sub_self]; rfl
  obtain ⟨⟨g1, g2, g3, g4, g5, g6, g7, g8, g9, g10, g11, g12, g13, g14⟩, hra⟩ := b6 _ _ hlast
  dsimp only at g1 g2 g3 g4 g5 g6 g7 g9 g12 g13 g14 hra
  have hnl := hIL.2.1
  have hx := s9 _ g1
  dsimp only at hx
  obtain ⟨G1, G2, hG⟩ := List.append_of_mem g1
  have hnx : ∀ en ∈ G1 ++ G2, ¬ en.1 = x := by
    have := (List.nodup_cons.mp s7).2
    rw [hG] at this
    exact nodup_split this
  have hoth : ∀ en ∈ G, en ∈ G1 ++ G2 ∨ en = (x, p, p + 1 + im, none) := by
    intro en hen; rw [hG] at hen
    rcases List.mem_append.mp hen with h | h
    · exact Or.inl (List.mem_append_left _ h)
    · rcases List.mem_cons.mp h with h | h
      · exact Or.inr h
      · exact Or.inl (List.mem_append_right _ h)
  have hinG : ∀ en ∈ G1 ++ G2, en ∈ G := by
    intro en hen; rw [hG]
    rcases List.mem_append.mp hen with h | h
    · exact List.mem_append_left _ h
    · exact List.mem_append_right _ (List.mem_cons_of_mem _ h)
  have hs5 := s5
  rw [hG] at hs5
  obtain ⟨w, sg1, sg2⟩ := (SG_app _ _ _ _).mp hs5
  obtain ⟨t1, t2, t3, t4⟩ := sg2
  dsimp only at t1 t2 t3 t4
  subst t1
  have hpk := SG_le _ _ _ t4
  have hrt' : ∀ en ∈ G1 ++ G2, rtok R' en.1 en.2.2.2 = rtok R en.1 en.2.2.2 := by
    intro en hen
    have hne := hnx en hen
    have hP := hIP.2.2.1 en (hinG en hen)
    obtain ⟨y, a, b, t⟩ := en
    dsimp only at hne hP ⊢
    cases t with
    | some r =>
      show List.replicate (rvn R' 154 r) _ = List.replicate (rvn R 154 r) _
      rw [hR.2.1 144 (by omega) (by omega) y hne, show rvn R' 154 r = rvn R 154 r from congrArg Int32.toNatClampNeg (hR.1 154 (by omega) r)]
    | none =>
      have en : ∀ j, 143 ≤ j → j ≤ 149 → rvn R' j y = rvn R j y := fun j h1 h2 => congrArg Int32.toNatClampNeg (hR.2.1 j h1 h2 y hne)
      rw [rtok_eq, rtok_eq, hR.2.1 143 (by omega) (by omega) y hne, hR.2.1 144 (by omega) (by omega) y hne, hR.2.1 149 (by omega) (by omega) y hne, en 145 (by omega) (by omega), en 146 (by omega) (by omega), en 147 (by omega) (by omega), en 148 (by omega) (by omega)]
      by_cases h3 : rv R 143 y = 3
      · have := hP rfl (Or.inl h3)
        rw [rsl_cong (rvn R 146 y) (rvn R 145 y) (fun i h1 h2 => hR.2.2.2.1 i (by omega))]
        rw [h3]; simp only [if_true]
      · by_cases h67 : rv R 143 y = 6 ∨ rv R 143 y = 7
        · have := hP rfl (Or.inr h67)
          rw [rsl_cong (rvn R 146 y) (rvn R 145 y) (fun i h1 h2 => hR.2.2.2.1 i (by omega)), rsl_cong (rvn R 148 y) (rvn R 147 y) (fun i h1 h2 => hR.2.2.2.1 i (by omega))]
        · simp only [if_neg h3, if_neg h67]
  have hkdo : ∀ q, q < k → ¬ (p ≤ q ∧ q < p + 1 + im) → kd Cm q = kd C q ∧ vl Cm q = vl C q := by
    intro q hq hnp
    have d1 : ¬ (k + 1 ≤ q ∧ q < e) := by omega
    have d2 : ¬ q = k := by omega
    have d3 : ¬ q = p := by omega
    rw [hkd, hvl, if_neg d1, if_neg d2, if_neg d3, if_neg hnp, if_neg d3]; exact ⟨rfl, rfl⟩
  have hct : ∀ q, q < k → ¬ (p ≤ q ∧ q < p + 1 + im) → ctok Cm T q = ctok C T q := fun q hq hnp => ctok_lead hIL (by omega) hC.2.2.2.2 (hkdo q hq hnp)
  have hlo : ∀ id i, ¬ id ∈ mrows → ¬ id = 87 → ldq Cm id i = ldq C id i := fun id i h1 h2 => by rw [ldq_eq, ldq_eq, hC.1 id h1 h2]
  have hmid : ctk Cm T p (p + 1 + im - p) = rtok R' x none := by
    rw [hrt, show p + 1 + im - p = 1 + im by omega, ctk_add, ctk_one]
    have kp : kd Cm p = kk := by
      have d1 : ¬ (k + 1 ≤ p ∧ p < e) := by omega
      have d2 : ¬ p = k := by omega
      rw [hkd, if_neg d1, if_neg d2, if_pos rfl]
    have vp : vl Cm p = nI nl := by rw [hvl, if_pos rfl]
    rw [ctk_gone im (p + 1) (fun q q1 q2 => by
      have d1 : ¬ (k + 1 ≤ q ∧ q < e) := by omega
      have d2 : ¬ q = k := by omega
      have d3 : ¬ q = p := by omega
      have d4 : p ≤ q ∧ q < p + 1 + im := by omega
      rw [hkd, if_neg d1, if_neg d2, if_neg d3, if_pos d4]), List.append_nil, ctok_eq, kp, vp, nI_clamp (by omega), hlk.1, hlk.2.1, hlk.2.2]
    rcases hkk with g | g <;> rw [g] <;> rfl
  refine ⟨⟨?_, ⟨hC.2.2.1.trans s1, hC.2.2.2.1.trans s2, s3, fun q q1 q2 => ?_, ?_, ?_, s7, (hR.2.2.2.2.1 20 (by decide)).trans s8, s9, s10⟩, ⟨?_, hIR.2.1, hIR.2.2.1, (hR.2.2.2.2.1 28 (by decide)).trans hIR.2.2.2.1, hIR.2.2.2.2.1, ?_, ?_, ?_⟩, ⟨?_, hR.2.2.2.2.2.2, ?_, ?_, ⟨mt, mt1, hC.2.1.trans mt2⟩, ?_, ?_⟩, ?_, ⟨hR.2.2.2.2.2.1, hpl.2, ?_, ?_⟩, ⟨?_, ?_⟩⟩, fun r hr => (hR.1 157 (by omega) r).trans (hov r hr)⟩
  · obtain ⟨h1, h2, h3, h4, h5⟩ := hIT
    obtain ⟨d1, d2, d3, d4, d5, d6, d7⟩ := h5
    refine ⟨(hC.1 61 (by decide) (by decide)).trans h1, ⟨(hR.2.2.2.2.1 3 (by decide)).trans h2.1, fun i hi => (hR.1 137 (by omega) i).trans (h2.2 i hi)⟩, h3, fun i hi => (hR.1 173 (by omega) i).trans (h4 i hi), d1, d2, (hC.1 83 (by decide) (by decide)).trans d3, (hC.1 85 (by decide) (by decide)).trans d4, (hR.2.2.2.2.1 7 (by decide)).trans d5, fun d hd => ?_, fun d k hd hk => ?_⟩
    · rw [hR.1 140 (by omega)]; exact d6 d hd
    · rw [hR.1 139 (by omega)]; exact d7 d k hd hk
  · have d1 : ¬ (k + 1 ≤ q ∧ q < e) := by omega
    have d2 : ¬ q = k := by omega
    have d3 : ¬ q = p := by omega
    have d4 : ¬ (p ≤ q ∧ q < p + 1 + im) := by omega
    rw [hkd, hvl, if_neg d1, if_neg d2, if_neg d3, if_neg d4, if_neg d3]; exact s4 q (by omega) q2
  · rw [hG, SG_app]
    refine ⟨p, SG_cong G1 0 p sg1 (fun q _ hq => hct q (by omega) (by omega)) (fun en hen => hrt' en (List.mem_append_left _ hen)), rfl, t2, hmid, SG_cong G2 (p + 1 + im) k t4 (fun q hq hq2 => hct q hq2 (by omega)) (fun en hen => hrt' en (List.mem_append_right _ hen))⟩
  · exact chn_cong _ _ s6 (fun v _ => hR.1 150 (by omega) v) (fun v _ => hR.1 151 (by omega) v) (hR.2.2.2.2.1 21 (by decide))
  · intro id hid
    rw [hC.1 id (by revert hid; revert id; decide) (by rintro rfl; exact absurd hid (by decide))]; exact hIR.1 id hid
  · intro y a b r hm
    obtain ⟨q1, q2, q3, q4, q5⟩ := hIR.2.2.2.2.2.1 y a b r hm
    have hne : ¬ y = x := by
      rcases hoth _ hm with g | g
      · exact hnx _ g
      · exact absurd (congrArg (fun z : Ent => z.2.2.2) g) (by simp)
    rw [hR.1 152 (by omega), hR.1 154 (by omega), hR.1 155 (by omega), hR.1 156 (by omega), hR.2.1 143 (by omega) (by omega) y hne]
    exact ⟨q1, q2, q3, q4, q5⟩
  · intro r hr hl; rw [hR.1 157 (by omega)]; exact hIR.2.2.2.2.2.2.1 r hr hl
  · intro i r hir
    obtain ⟨y, a, b, q1, q2, q3, q4, q5, q6, q7, q8⟩ := hIR.2.2.2.2.2.2.2 i r hir
    have hmem : (y, a, b, some r) ∈ G1 ++ G2 := by
      rcases hoth _ q1 with g | g
      · exact g
      · exact absurd (congrArg (fun z : Ent => z.2.2.2) g) (by simp)
    have hne := hnx _ hmem
    have hsgm := SG_mem G 0 k s5 _ q1
    dsimp only at hne hsgm
    have e144 := hR.2.1 144 (by omega) (by omega) y hne
    refine ⟨y, a, b, q1, ?_, ?_, ?_, ?_, ?_, ?_, fun q r1 r2 => ?_⟩
    · rw [hlo 91 _ (by decide) (by decide), e144]; exact q2
    · rw [hlo 93 _ (by decide) (by decide), hR.1 153 (by omega)]; exact q3
    · rw [hlo 95 _ (by decide) (by decide)]; exact q4
    · rw [hlo 97 _ (by decide) (by decide)]; exact q5
    · rw [hlo 101 _ (by decide) (by decide), hR.1 156 (by omega)]; exact q6
    · rw [hlo 99 _ (by decide) (by decide), hR.1 157 (by omega), hR.1 155 (by omega)]; exact q7
    · have hout : ¬ (p ≤ q ∧ q < p + 1 + im) := by
        rcases List.mem_append.mp hmem with g | g
        · have := (SG_mem G1 0 p sg1 _ g).2.2
          dsimp only at this; omega
        · have := (SG_mem G2 (p + 1 + im) k t4 _ g).1
          dsimp only at this; omega
      have := hkdo q (by omega) hout
      rw [this.1, this.2, e144]; exact q8 q r1 r2
  · intro id hid
    rw [hC.1 id (by revert hid; revert id; decide) (by rintro rfl; exact absurd hid (by decide))]
    have := b1 id hid
    rw [hbs, List.length_append] at this; omega
  · rw [hbs, List.length_append] at b3; omega
  · rw [hC.2.1, hR.2.2.2.2.1 36 (by decide)]; exact b4
  · intro b w hbw
    have hb : b < bs0.length := (List.getElem?_eq_some_iff.mp hbw).1
    have hbw' : bs[b]? = some w := by rw [hbs, List.getElem?_append_left hb]; exact hbw
    obtain ⟨⟨q1, q2, q3, q4, q5, q6, q7, q8, q9, q10, q11, q12, q13, q14⟩, hra'⟩ := b6 b w hbw'
    have hne : ¬ w.1 = x := by
      have b7' := b7
      rw [hbs, List.pairwise_append] at b7'
      have := (b7'.2.2 w (List.mem_of_getElem? hbw) (x, p, im, ra) (List.mem_singleton.mpr rfl)).2
      dsimp only at this; omega
    refine ⟨⟨q1, q2, by rw [hR.2.1 143 (by omega) (by omega) _ hne]; exact q3, by rw [hR.2.1 144 (by omega) (by omega) _ hne]; exact q4, by rw [hR.1 158 (by omega)]; exact q5, by rw [hR.1 159 (by omega)]; exact q6, by rw [hR.1 160 (by omega)]; exact q7, ?_, by rw [hR.1 162 (by omega)]; exact q9, ?_, ?_, ?_, ?_, ?_⟩, hra'⟩
    · rw [hR.1 161 (by omega), hlo 112 _ (by decide) (by decide)]; exact q8
    · rw [hR.1 163 (by omega), hlo 108 _ (by decide) (by decide)]; exact q10
    · rw [hlo 108 _ (by decide) (by decide)]; exact q11
    · rw [hlo 104 _ (by decide) (by decide)]; exact q12
    · rw [hlo 106 _ (by decide) (by decide)]; exact q13
    · rw [hlo 110 _ (by decide) (by decide)]; exact q14
  · rw [hbs, List.pairwise_append] at b7; exact b7.1
  · refine IL_lead hIL hke hC.2.2.2.2 hld (fun q hq => ?_)
    by_cases e1 : q = p
    · left; rw [hvl, if_pos e1]
    · right
      rw [hvl, if_neg e1]
      rw [hkd] at hq ⊢
      by_cases d1 : k + 1 ≤ q ∧ q < e
      · rw [if_pos d1] at hq; exact absurd hq (by decide)
      · rw [if_neg d1] at hq ⊢
        by_cases d2 : q = k
        · rw [if_pos d2] at hq; exact absurd hq (by decide)
        · rw [if_neg d2, if_neg e1] at hq ⊢
          by_cases d3 : p ≤ q ∧ q < p + 1 + im
          · rw [if_pos d3] at hq; exact absurd hq (by decide)
          · rw [if_neg d3]; exact ⟨rfl, rfl⟩
  · intro en hen ht hkd'
    rcases hoth en hen with g | g
    · have hne := hnx en g
      rw [hR.2.1 143 (by omega) (by omega) _ hne] at hkd'
      have := hIP.2.2.1 en hen ht hkd'
      have e : ∀ j, 143 ≤ j → j ≤ 149 → rvn R' j en.1 = rvn R j en.1 := fun j h1 h2 => congrArg Int32.toNatClampNeg (hR.2.1 j h1 h2 _ hne)
      rw [e 145 (by omega) (by omega), e 146 (by omega) (by omega), e 147 (by omega) (by omega), e 148 (by omega) (by omega)]; omega
    · rw [g]; exact hpx
  · intro en hen ht h11
    rcases hoth en hen with g | g
    · have hne := hnx en g
      rw [hR.2.1 143 (by omega) (by omega) _ hne] at h11
      have e : ∀ j, 143 ≤ j → j ≤ 149 → rvn R' j en.1 = rvn R j en.1 := fun j h1 h2 => congrArg Int32.toNatClampNeg (hR.2.1 j h1 h2 _ hne)
      rw [e 145 (by omega) (by omega), e 146 (by omega) (by omega), e 147 (by omega) (by omega), e 148 (by omega) (by omega)]; exact hIP.2.2.2 en hen ht h11
    · rw [g] at h11; dsimp only at h11; rw [hkx] at h11; rcases hkk with q | q <;> rw [q] at h11 <;> exact absurd h11 (by decide)
  · have := hIW.1
    rw [hG, sumE_mid] at this
    rw [hG, sumE_mid, sumE_cong G1 (fun en hen => by show lws (rtok R' en.1 en.2.2.2) = lws (rtok R en.1 en.2.2.2); rw [hrt' en (List.mem_append_left _ hen)]), sumE_cong G2 (fun en hen => by show lws (rtok R' en.1 en.2.2.2) = lws (rtok R en.1 en.2.2.2); rw [hrt' en (List.mem_append_right _ hen)])]
    dsimp only at this ⊢
    rw [hrt]
    have e1 : lws [(kk, num, tl, ul)] = tl.length + ul.length := by
      unfold lws lw; rcases hkk with g | g <;> rw [g] <;> simp
    rw [e1]; omega
  · refine ⟨?_, by
      rw [hG]
      refine NB_turn (R := R) (by rw [← hG]; exact hIW.2.2.1) hrt' ?_ ?_
      · rw [(ecl_k R x p (p + 1 + im)).1, (ecl_k R x p (p + 1 + im)).2, g3]; exact ⟨rfl, rfl⟩
      · rw [(ecl_k R' x p (p + 1 + im)).1, (ecl_k R' x p (p + 1 + im)).2, hkx]; rcases hkk with g | g <;> rw [g] <;> exact ⟨rfl, rfl⟩, fun en hen ht => by
      by_cases g : en.1 = x
      · rw [g]; exact ⟨hz, fun hh => absurd (by rw [hkx]; exact hkk) hh, by rw [hkx]; rcases hkk with g | g <;> rw [g] <;> exact ⟨by decide, by decide⟩⟩
      · exact IZ1_cong (hIW.2.2.2 en hen ht) (fun j j1 j2 => hR.2.1 j j1 j2 _ g)⟩
    have := hIW.2.1
    rw [hG, sumE_mid] at this
    have hew : ∀ en ∈ G1 ++ G2, ew R' en = ew R en := by
      intro en hen
      unfold ew
      rw [hR.2.1 143 (by omega) (by omega) _ (hnx en hen)]
      by_cases hc : en.2.2.2 = none ∧ ¬ rv R 143 en.1 = 11
      · rw [if_pos hc, if_pos hc]
        have := hrt' en hen
        rw [hc.1] at this; rw [this]
      · rw [if_neg hc, if_neg hc]
    rw [hG, sumE_mid, sumE_cong (g := ew R) G1 (fun en hen => hew en (List.mem_append_left _ hen)), sumE_cong (g := ew R) G2 (fun en hen => hew en (List.mem_append_right _ hen))]
    have e1 : ew R' (x, p, p + 1 + im, none) = ows [(kk, num, tl, ul)] := by
      unfold ew; dsimp only
      rw [if_pos ⟨rfl, by rw [hkx]; rcases hkk with g | g <;> rw [g] <;> decide⟩, hrt]
    have e2 : ew R (x, p, p + 1 + im, none) = 12 * (1 + im) := by
      unfold ew; dsimp only
      rw [if_neg (fun hh => hh.2 g3)]; congr 1; omega
    rw [e1]; rw [e2] at this; omega
