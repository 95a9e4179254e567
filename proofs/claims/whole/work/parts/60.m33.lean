/-! the mathematics; written by wip/whole/m2parts.py -/
theorem inv_over {C C' R R' : zr_Z} {T : List Int32} {D : List (List Int32)} {k u : Nat} {G : List Ent} {live : List Nat} {rc : Nat} {bs : List (Nat × Nat × Nat × Nat)} {nl pl it : Nat}
    (h : INV0 C R T D k u G live rc bs nl pl it) (hC : (∀ id, ¬ id = 99 → C'.1 id = C.1 id) ∧ zc C' 1 = zc C 1 ∧ (C'.1 99).length = live.length)
    (hR : (∀ j, ¬ j = 157 → ∀ i, rv R' j i = rv R j i) ∧ (∀ f ∈ [3, 7, 10, 20, 21, 28, 35, 36], zf R' f = zf R f)) (h99 : ∀ i r, live[i]? = some r → ldq C' 99 i = (if rv R' 157 r = 0 then rv R 155 r else 0)) (h157 : ∀ r, r < rc → ¬ r ∈ live → rv R' 157 r = 1) :
    INV0 C' R' T D k u G live rc bs nl pl it := by
  obtain ⟨hIT, hIS, hIR, hIB, hIL, hIP, hIW⟩ := h
  have hl : ∀ id i, ¬ id = 99 → ldq C' id i = ldq C id i := fun id i hid => by unfold ldq; rw [hC.1 id hid]
  have hkd : ∀ q, kd C' q = kd C q := fun q => by unfold kd; rw [hC.1 66 (by decide)]
  have hvl : ∀ q, vl C' q = vl C q := fun q => by unfold vl; rw [hC.1 68 (by decide)]
  have hct : ∀ q, ctok C' T q = ctok C T q := fun q => by
    unfold ctok ldT ldU
    rw [hkd, hvl, hl 72 _ (by decide), hl 70 _ (by decide), hl 74 _ (by decide), hl 76 _ (by decide), hl 78 _ (by decide), hl 80 _ (by decide)]
  have hrr : ∀ j, (142 ≤ j ∧ j ≤ 149) ∨ j = 154 → ∀ i, rv R' j i = rv R j i := fun j hj i => hR.1 j (by omega) i
  have hrn : ∀ j x, ¬ j = 157 → rvn R' j x = rvn R j x := fun j x hj => congrArg Int32.toNatClampNeg (hR.1 j hj x)
  refine ⟨?_, ?_, ?_, ?_, ?_, ?_, ?_⟩
  · obtain ⟨h1, h2, h3, h4, h5⟩ := hIT
    obtain ⟨d1, d2, d3, d4, d5, d6, d7⟩ := h5
    refine ⟨(hC.1 61 (by decide)).trans h1, ⟨(hR.2 3 (by decide)).trans h2.1, fun i hi => (hR.1 137 (by omega) i).trans (h2.2 i hi)⟩, h3, fun i hi => (hR.1 173 (by omega) i).trans (h4 i hi), d1, d2, (hC.1 83 (by decide)).trans d3, (hC.1 85 (by decide)).trans d4, (hR.2 7 (by decide)).trans d5, fun d hd => ?_, fun d k hd hk => ?_⟩
    · rw [hR.1 140 (by omega)]; exact d6 d hd
    · rw [hR.1 139 (by omega)]; exact d7 d k hd hk
  · obtain ⟨s1, s2, s3, s4, s5, s6, s7, s8, s9, s10⟩ := hIS
    refine ⟨by rw [hC.1 66 (by decide)]; exact s1, by rw [hC.1 68 (by decide)]; exact s2, s3, fun q h1 h2 => by rw [hkd, hvl]; exact s4 q h1 h2, SG_cong G 0 k s5 (fun p _ _ => hct p) (fun en _ => rtok_all hrr), ?_, s7, (hR.2 20 (by decide)).trans s8, s9, s10⟩
    exact chn_cong _ _ s6 (fun v _ => hR.1 150 (by omega) v) (fun v _ => hR.1 151 (by omega) v) (hR.2 21 (by decide))
  · obtain ⟨h1, h2, h3, h4, h5, h6, h7, h8⟩ := hIR
    refine ⟨fun id hid => ?_, h2, h3, (hR.2 28 (by decide)).trans h4, h5, fun x a e r hm => ?_, h157, fun i r hir => ?_⟩
    · by_cases e : id = 99
      · rw [e]; exact hC.2.2
      · rw [hC.1 id e]; exact h1 id hid
    · rw [hR.1 152 (by omega), hR.1 143 (by omega), hR.1 154 (by omega), hR.1 155 (by omega), hR.1 156 (by omega)]; exact h6 x a e r hm
    · obtain ⟨x, a, e, g1, g2, g3, g4, g5, g6, g7, g8⟩ := h8 i r hir
      refine ⟨x, a, e, g1, ?_, ?_, ?_, ?_, ?_, ?_, fun q q1 q2 => ?_⟩
      · rw [hl 91 _ (by decide), hR.1 144 (by omega)]; exact g2
      · rw [hl 93 _ (by decide), hR.1 153 (by omega)]; exact g3
      · rw [hl 95 _ (by decide)]; exact g4
      · rw [hl 97 _ (by decide)]; exact g5
      · rw [hl 101 _ (by decide), hR.1 156 (by omega)]; exact g6
      · rw [h99 i r hir, hR.1 155 (by omega)]
      · rw [hkd, hvl, hR.1 144 (by omega)]; exact g8 q q1 q2
  · obtain ⟨h1, h2, h3, h4, ⟨n, hn, hn'⟩, h6, h7⟩ := hIB
    refine ⟨fun id hid => by rw [hC.1 id (by rintro rfl; exact absurd hid (by decide))]; exact h1 id hid, (hR.2 35 (by decide)).trans h2, h3, by rw [hC.2.1, hR.2 36 (by decide)]; exact h4, ⟨n, hn, hC.2.1.trans hn'⟩, fun b w hbw => ⟨?_, (h6 b w hbw).2⟩, h7⟩
    obtain ⟨g1, g2, g3, g4, g5, g6, g7, g8, g9, g10, g11, g12, g13, g14⟩ := (h6 b w hbw).1
    refine ⟨g1, g2, by rw [hR.1 143 (by omega)]; exact g3, by rw [hR.1 144 (by omega)]; exact g4, by rw [hR.1 158 (by omega)]; exact g5, by rw [hR.1 159 (by omega)]; exact g6, by rw [hR.1 160 (by omega)]; exact g7, ?_, by rw [hR.1 162 (by omega)]; exact g9, ?_, ?_, ?_, ?_, ?_⟩
    · rw [hR.1 161 (by omega), hl 112 _ (by decide)]; exact g8
    · rw [hR.1 163 (by omega), hl 108 _ (by decide)]; exact g10
    · rw [hl 108 _ (by decide)]; exact g11
    · rw [hl 104 _ (by decide)]; exact g12
    · rw [hl 106 _ (by decide)]; exact g13
    · rw [hl 110 _ (by decide)]; exact g14
  · obtain ⟨h1, h2, h3, h4⟩ := hIL
    refine ⟨fun id hid => by rw [hC.1 id (by rintro rfl; exact absurd hid (by decide))]; exact h1 id hid, h2, fun i hi => ?_, fun q hq => ?_⟩
    · have := h3 i hi
      unfold LD1 at this ⊢
      rw [hl 70 _ (by decide), hl 74 _ (by decide), hl 76 _ (by decide), hl 78 _ (by decide), hl 80 _ (by decide)]; exact this
    · rw [hkd] at hq; rw [hvl]; exact h4 q hq
  · obtain ⟨h1, h2, h3⟩ := hIP
    refine ⟨(hR.2 10 (by decide)).trans h1, h2, fun en hen ht hk => ?_, fun en hen ht hk => ?_⟩
    · rw [hR.1 143 (by omega)] at hk
      rw [hrn 145 _ (by omega), hrn 146 _ (by omega), hrn 147 _ (by omega), hrn 148 _ (by omega)]; exact h3.1 en hen ht hk
    · rw [hR.1 143 (by omega)] at hk
      rw [hrn 145 _ (by omega), hrn 146 _ (by omega), hrn 147 _ (by omega), hrn 148 _ (by omega)]; exact h3.2 en hen ht hk
  · obtain ⟨h1, h2, h3⟩ := hIW
    refine ⟨?_, ?_, NB_cong h3.1 (fun en _ => rtok_all hrr), IZ_cong h3.2 (fun en _ j j1 j2 => hrr j (by omega) en.1)⟩
    · rw [sumE_cong (g := fun en => lws (rtok R en.1 en.2.2.2)) G (fun en _ => by rw [rtok_all hrr])]; exact h1
    · rw [sumE_cong (g := ew R) G (fun en _ => ew_all hrr en)]; exact h2
theorem pre_cases {L1 L2 A B : List Ent} (h : L1 ++ L2 = A ++ B) : (∃ w, L1 = A ++ w) ∨ ∃ w, A = L1 ++ w ∧ L2 = w ++ B := by
  rcases List.append_eq_append_iff.mp h with ⟨w, e1, e2⟩ | ⟨w, e1, e2⟩
  · exact Or.inr ⟨w, e1, e2⟩
  · exact Or.inl ⟨w, e1⟩
theorem sumE_pre (f : Ent → Nat) {L A B : List Ent} (h : L = A ++ B) : sumE f A ≤ sumE f L := by rw [h, sumE_app]; exact Nat.le_add_right _ _
theorem two (f : Ent → Nat) (a b : Ent) : sumE f [a, b] = f a + f b := by rw [sumE_cons, sumE_cons, sumE_nil]; rfl
theorem NB_ins {R R' : zr_Z} {G1 G2 : List Ent} {e e' o : Ent} {k u : Nat} (h : NB R (G1 ++ e :: G2) k u) (hc : ∀ en ∈ G1 ++ G2, ecl R' en = ecl R en ∧ eop R' en = eop R en)
    (h1 : ecl R e = 0 ∧ eop R e = 0) (h2 : ecl R' e' = 0 ∧ eop R' e' = 0) (h3 : ecl R' o = 0) : NB R' (G1 ++ ([e', o] ++ G2)) k u := by
  have c1 : sumE (ecl R') G1 = sumE (ecl R) G1 := sumE_cong G1 (fun en hen => (hc en (List.mem_append_left _ hen)).1)
  have c2 : sumE (eop R') G1 = sumE (eop R) G1 := sumE_cong G1 (fun en hen => (hc en (List.mem_append_left _ hen)).2)
  refine ⟨fun A B hA => ?_, fun hk => ?_⟩
  · rcases pre_cases hA with ⟨w, e1⟩ | ⟨w, e1, e2⟩
    · rw [sumE_cong (g := ecl R) A (fun en hen => (hc en (List.mem_append_left _ (by rw [e1]; exact List.mem_append_left _ hen))).1), sumE_cong (g := eop R) A (fun en hen => (hc en (List.mem_append_left _ (by rw [e1]; exact List.mem_append_left _ hen))).2)]
      exact h.1 A (w ++ e :: G2) (by rw [e1, List.append_assoc])
    · rw [e1, sumE_app, sumE_app, c1, c2]
      rcases pre_cases e2 with ⟨v, e3⟩ | ⟨v, e3, e4⟩
      · have g1 := sumE_pre (ecl R') e3
        rw [sumE_cons, sumE_cons, sumE_nil, h2.1, h3] at g1
        have := h.1 G1 (e :: G2) rfl
        omega
      · rw [e3, sumE_app, sumE_app, sumE_cons, sumE_cons, sumE_nil, h2.1, h3]
        rw [sumE_cong (g := ecl R) v (fun en hen => (hc en (List.mem_append_right _ (by rw [e4]; exact List.mem_append_left _ hen))).1), sumE_cong (g := eop R) v (fun en hen => (hc en (List.mem_append_right _ (by rw [e4]; exact List.mem_append_left _ hen))).2)]
        have := h.1 (G1 ++ e :: v) B (by rw [e4, List.append_assoc]; rfl)
        rw [sumE_app, sumE_app, sumE_cons, sumE_cons, h1.1, h1.2] at this
        omega
  · have := h.2 hk
    rw [sumE_app, sumE_app, sumE_cons, sumE_cons, h1.1, h1.2] at this
    rw [sumE_app, sumE_app, sumE_app, sumE_app, c1, c2, sumE_cons, sumE_cons, sumE_nil, h2.1, h3, sumE_cong (g := ecl R) G2 (fun en hen => (hc en (List.mem_append_right _ hen)).1), sumE_cong (g := eop R) G2 (fun en hen => (hc en (List.mem_append_right _ hen)).2)]
    omega
theorem NB_pair {R R' : zr_Z} {G1 G2 G3 : List Ent} {e f e' o c f' : Ent} {k u : Nat} (h : NB R (G1 ++ e :: (G2 ++ f :: G3)) k u) (hc : ∀ en ∈ G1 ++ (G2 ++ G3), ecl R' en = ecl R en ∧ eop R' en = eop R en)
    (h1 : ecl R e = 0 ∧ eop R e = 0) (h1' : ecl R f = 0 ∧ eop R f = 0) (h2 : ecl R' e' = 0 ∧ eop R' e' = 0) (h2' : ecl R' f' = 0 ∧ eop R' f' = 0) (h3 : ecl R' o = 0 ∧ eop R' o = 1) (h3' : ecl R' c = 1 ∧ eop R' c = 0) :
    NB R' ((G1 ++ ([e', o] ++ G2)) ++ ([c, f'] ++ G3)) k u := by
  have c1 : sumE (ecl R') G1 = sumE (ecl R) G1 := sumE_cong G1 (fun en hen => (hc en (List.mem_append_left _ hen)).1)
  have c2 : sumE (eop R') G1 = sumE (eop R) G1 := sumE_cong G1 (fun en hen => (hc en (List.mem_append_left _ hen)).2)
  have d1 : sumE (ecl R') G2 = sumE (ecl R) G2 := sumE_cong G2 (fun en hen => (hc en (List.mem_append_right _ (List.mem_append_left _ hen))).1)
  have d2 : sumE (eop R') G2 = sumE (eop R) G2 := sumE_cong G2 (fun en hen => (hc en (List.mem_append_right _ (List.mem_append_left _ hen))).2)
  refine ⟨fun A B hA => ?_, fun hk => ?_⟩
  · rw [List.append_assoc, List.append_assoc] at hA
    rcases pre_cases hA with ⟨w, e1⟩ | ⟨w, e1, e2⟩
    · rw [sumE_cong (g := ecl R) A (fun en hen => (hc en (List.mem_append_left _ (by rw [e1]; exact List.mem_append_left _ hen))).1), sumE_cong (g := eop R) A (fun en hen => (hc en (List.mem_append_left _ (by rw [e1]; exact List.mem_append_left _ hen))).2)]
      exact h.1 A (w ++ e :: (G2 ++ f :: G3)) (by rw [e1, List.append_assoc])
    · rw [e1, sumE_app, sumE_app, c1, c2]
      rcases pre_cases e2 with ⟨v, e3⟩ | ⟨v, e3, e4⟩
      · have g1 := sumE_pre (ecl R') e3
        rw [sumE_cons, sumE_cons, sumE_nil, h2.1, h3.1] at g1
        have := h.1 G1 (e :: (G2 ++ f :: G3)) rfl
        omega
      · rw [e3, sumE_app, sumE_app, two, two, h2.1, h3.1, h2.2, h3.2]
        rcases pre_cases e4 with ⟨w2, e5⟩ | ⟨w2, e5, e6⟩
        · rw [sumE_cong (g := ecl R) v (fun en hen => (hc en (List.mem_append_right _ (List.mem_append_left _ (by rw [e5]; exact List.mem_append_left _ hen)))).1), sumE_cong (g := eop R) v (fun en hen => (hc en (List.mem_append_right _ (List.mem_append_left _ (by rw [e5]; exact List.mem_append_left _ hen)))).2)]
          have := h.1 (G1 ++ e :: v) (w2 ++ f :: G3) (by rw [e5]; simp)
          rw [sumE_app, sumE_app, sumE_cons, sumE_cons, h1.1, h1.2] at this
          omega
        · rw [e5, sumE_app, sumE_app, d1, d2]
          rcases pre_cases e6 with ⟨v2, e7⟩ | ⟨v2, e7, e8⟩
          · have g1 := sumE_pre (ecl R') e7
            rw [sumE_cons, sumE_cons, sumE_nil, h3'.1, h2'.1] at g1
            have := h.1 (G1 ++ e :: G2) (f :: G3) (by simp)
            rw [sumE_app, sumE_app, sumE_cons, sumE_cons, h1.1, h1.2] at this
            omega
          · rw [e7, sumE_app, sumE_app, two, two, h3'.1, h2'.1, h3'.2, h2'.2]
            rw [sumE_cong (g := ecl R) v2 (fun en hen => (hc en (List.mem_append_right _ (List.mem_append_right _ (by rw [e8]; exact List.mem_append_left _ hen)))).1), sumE_cong (g := eop R) v2 (fun en hen => (hc en (List.mem_append_right _ (List.mem_append_right _ (by rw [e8]; exact List.mem_append_left _ hen)))).2)]
            have := h.1 (G1 ++ e :: (G2 ++ f :: v2)) B (by rw [e8]; simp)
            rw [sumE_app, sumE_app, sumE_cons, sumE_cons, h1.1, h1.2, sumE_app, sumE_app, sumE_cons, sumE_cons, h1'.1, h1'.2] at this
            omega
  · have := h.2 hk
    rw [sumE_app, sumE_app, sumE_cons, sumE_cons, h1.1, h1.2, sumE_app, sumE_app, sumE_cons, sumE_cons, h1'.1, h1'.2] at this
    rw [sumE_app, sumE_app, sumE_app, sumE_app, sumE_app, sumE_app, sumE_app, sumE_app, c1, c2, d1, d2, two (ecl R') e' o, two (eop R') e' o, two (ecl R') c f', two (eop R') c f', h2.1, h3.1, h2.2, h3.2, h3'.1, h2'.1, h3'.2, h2'.2, sumE_cong (g := ecl R) G3 (fun en hen => (hc en (List.mem_append_right _ (List.mem_append_right _ hen))).1), sumE_cong (g := eop R) G3 (fun en hen => (hc en (List.mem_append_right _ (List.mem_append_right _ hen))).2)]
    omega
theorem ecl_k (R : zr_Z) (x a e : Nat) : ecl R (x, a, e, none) = (if rv R 143 x = 12 ∨ rv R 143 x = 9 then 1 else 0) ∧ eop R (x, a, e, none) = (if rv R 143 x = 4 ∨ rv R 143 x = 5 ∨ rv R 143 x = 6 ∨ rv R 143 x = 7 then 1 else 0) := by
  unfold ecl eop
  dsimp only
  rw [rtok_eq]
  by_cases e0 : rv R 143 x = 0
  · rw [if_pos e0, e0]; exact ⟨rfl, rfl⟩
  rw [if_neg e0]
  by_cases e3 : rv R 143 x = 3
  · rw [if_pos e3, e3]
    refine ⟨?_, ?_⟩
    · show ncl ([tk0 3] ++ ((rsl R (rvn R 145 x) (rvn R 146 x)).map tkc ++ [tk0 10])) = 0
      rw [ncl_app, ncl_app, ncl_tkc]; rfl
    · show nop ([tk0 3] ++ ((rsl R (rvn R 145 x) (rvn R 146 x)).map tkc ++ [tk0 10])) = 0
      rw [nop_app, nop_app, nop_tkc]; rfl
  rw [if_neg e3]
  by_cases e6 : rv R 143 x = 6 ∨ rv R 143 x = 7
  · rw [if_pos e6]; rcases e6 with g | g <;> rw [g] <;> exact ⟨rfl, rfl⟩
  rw [if_neg e6]
  by_cases e11 : rv R 143 x = 11
  · rw [if_pos e11, e11]
    by_cases g : rv R 144 x = 1
    · rw [if_pos g]; exact ⟨rfl, rfl⟩
    · rw [if_neg g]; exact ⟨rfl, rfl⟩
  rw [if_neg e11]
  by_cases e12 : rv R 143 x = 12
  · rw [if_pos e12, e12]; exact ⟨rfl, rfl⟩
  rw [if_neg e12]
  refine ⟨?_, ?_⟩
  · show (if rv R 143 x = 9 then 1 else 0) + 0 = _
    by_cases g : rv R 143 x = 9
    · rw [if_pos g, if_pos (Or.inr g)]; rfl
    · rw [if_neg g, if_neg (fun hh => hh.elim e12 g)]; rfl
  · rfl
theorem ecl_run (R : zr_Z) (x a e r : Nat) : ecl R (x, a, e, some r) = 0 ∧ eop R (x, a, e, some r) = 0 := by
  have h : ∀ n (c : Int32), ncl (List.replicate n (tkc c)) = 0 ∧ nop (List.replicate n (tkc c)) = 0 := by
    intro n c
    induction n with
    | zero => exact ⟨rfl, rfl⟩
    | succ n ih =>
      rw [List.replicate_succ]
      unfold ncl nop at *
      rw [List.map_cons, List.sum_cons, List.map_cons, List.sum_cons, ih.1, ih.2]; exact ⟨rfl, rfl⟩
  exact h _ _
theorem fm_order {G1 G2 : List Ent} {en : Ent} {rc r c : Nat} {xc ac ec : Nat} (h : (G1 ++ en :: G2).filterMap (fun en => en.2.2.2) = List.range rc) (hen : en.2.2.2 = some r) (hrc : r < c) (hc : (xc, ac, ec, some c) ∈ G1 ++ en :: G2) : (xc, ac, ec, some c) ∈ G2 := by
  have hp : (List.range rc).Pairwise (fun a b => a < b) := List.pairwise_lt_range
  rw [← h, List.filterMap_append, List.filterMap_cons, hen] at hp
  dsimp only at hp
  rw [List.pairwise_append] at hp
  rcases List.mem_append.mp hc with g | g
  · have := hp.2.2 c (List.mem_filterMap.mpr ⟨_, g, rfl⟩) r (List.mem_cons_self ..)
    omega
  · rcases List.mem_cons.mp g with g | g
    · rw [← g] at hen
      have := Option.some.inj hen
      omega
    · exact g
theorem list_ext {l m : List Int32} (hl : l.length = m.length) (h : ∀ q, l.getD q (-1) = m.getD q (-1)) : l = m := by
  refine List.ext_getElem hl (fun q g1 g2 => ?_)
  have := h q
  rw [List.getD_eq_getElem?_getD, List.getElem?_eq_getElem g1, List.getD_eq_getElem?_getD, List.getElem?_eq_getElem g2] at this
  exact this
theorem nI_inj {a b : Nat} (ha : a < 2 ^ 31) (hb : b < 2 ^ 31) (h : nI a = nI b) : a = b := (nI_eq ha hb).mp h
section
variable {C R : zr_Z} {T : List Int32} {D : List (List Int32)} {k u : Nat} {G : List Ent} {live : List Nat} {rc : Nat} {bs : List (Nat × Nat × Nat × Nat)} {nl pl it : Nat}
theorem inv_join {i j ro c xo ao eo xc ac ec n : Nat} (h : INV0 C R T D k u G live rc bs nl pl it) (hku : k ≤ u) (hi : live[i]? = some ro) (hj : live[j]? = some c) (hrc : ro < c) (ho : (xo, ao, eo, some ro) ∈ G) (hcl : (xc, ac, ec, some c) ∈ G) (hao : ao < eo) (hac : ac < ec) (hn : n = if eo - ao ≤ 1 ∨ ec - ac ≤ 1 then 1 else 2)
    (h99c : rv R 157 c = 0) :
    ∃ S6 G', INV0 (f_74 C (nI i) (nI j)) S6 T D k u G' live rc bs nl pl (it + 2) ∧ (f_74 C (nI i) (nI j)).2 = C.2 ∧ (∀ id, ¬ id ∈ [66, 95, 97, 99] → (f_74 C (nI i) (nI j)).1 id = C.1 id) ∧
      (∀ f, ¬ f = 20 → ¬ f = 21 → zf S6 f = zf R f) ∧ (∀ r, rv S6 157 r = if ro < r ∧ r < c then 1 else rv R 157 r) ∧ (∀ jj, 155 ≤ jj → ¬ jj = 157 → ∀ r, rv S6 jj r = rv R jj r) ∧ (∀ q, k ≤ q → kd (f_74 C (nI i) (nI j)) q = kd C q ∧ vl (f_74 C (nI i) (nI j)) q = vl C q) ∧ (∃ x a e, (x, a, e, some c) ∈ G' ∧ e - a + n = ec - ac) ∧
      ∀ fi K, Option.bind (o_125 (zar (zar R 154 (nI ro) (nI (eo - ao) - nI n)) 154 (nI c) ((zv (zar R 154 (nI ro) (nI (eo - ao) - nI n)) 154 (nI c)) - nI n)) (if ¬ nI n = 2 then 4 else 5 : Int32) 0) (fun u24 => (if inq 152 (nI ro) then (Option.bind (o_126 u24.2 u24.1 (zv u24.2 152 (nI ro))) fun u26 => (Option.bind (o_125 u26 12 0) fun u27 => (if inq 152 (nI c) then (if inq 151 (zv u27.2 152 (nI c)) then (Option.bind (o_126 u27.2 u27.1 (zv u27.2 151 (zv u27.2 152 (nI c)))) fun u30 => g_134_177 oF u30 fi (nI c) true (nI ro + 1) K) else none) else none))) else none)) = K S6 (nI c) true := by
  have hL := h.1.2.2.1.1
  have hkL := h.2.1.2.2.1
  obtain ⟨s1, s2, s3, s4, s5, s6, s7, s8, s9, s10⟩ := h.2.1
  obtain ⟨r1, r2, r3, r4, r5, r6, r7, r8⟩ := h.2.2.1
  have hrck := h.2.2.2.1.2.2.1.2
  have hlv := live_le (h.2.2.1)
  have hil : i < live.length := (List.getElem?_eq_some_iff.mp hi).1
  have hjl : j < live.length := (List.getElem?_eq_some_iff.mp hj).1
  have hij : i < j := by
    have e1 := cnt_of_get live i ro r2 hi
    have e2 := cnt_of_get live j c r2 hj
    have := cnt_lt_succ live ro r2
    rw [if_pos (List.mem_of_getElem? hi), e1] at this
    have h3 : live.countP (fun r => decide (r < ro + 1)) ≤ live.countP (fun r => decide (r < c)) := List.countP_mono_left (fun a _ ha => decide_eq_true (by have := of_decide_eq_true ha; omega))
    omega
  have hroc : ro < rc := r3 ro (List.mem_of_getElem? hi)
  have hcrc : c < rc := r3 c (List.mem_of_getElem? hj)
  have hn12 : n = 1 ∨ n = 2 := by rw [hn]; split <;> simp
  have hnle : n ≤ eo - ao ∧ n ≤ ec - ac := by rw [hn]; split <;> omega
  have uniq : ∀ x a e x' a' e' r, (x, a, e, some r) ∈ G → (x', a', e', some r) ∈ G → x = x' ∧ a = a' ∧ e = e' := by
    intro x a e x' a' e' r m1 m2
    obtain ⟨A1, A2, hA⟩ := List.append_of_mem m1
    rw [hA] at m2 r5
    have hnd : ((A1 ++ (x, a, e, some r) :: A2).filterMap (fun en => en.2.2.2)).Nodup := by rw [r5]; exact List.nodup_range
    rw [List.filterMap_append, List.filterMap_cons] at hnd
    dsimp only at hnd
    obtain ⟨n1, n2, n3⟩ := List.nodup_append.mp hnd
    rcases List.mem_append.mp m2 with g | g
    · exact absurd rfl (n3 r (List.mem_filterMap.mpr ⟨_, g, rfl⟩) r (List.mem_cons_self ..))
    · rcases List.mem_cons.mp g with g | g
      · exact ⟨(congrArg (fun z : Ent => z.1) g).symm, (congrArg (fun z : Ent => z.2.1) g).symm, (congrArg (fun z : Ent => z.2.2.1) g).symm⟩
      · exact ((List.nodup_cons.mp n2).1 (List.mem_filterMap.mpr ⟨_, g, rfl⟩)).elim
  obtain ⟨x1, a1, e1, m1, o91, o93, o95, o97, o101, o99, omk⟩ := r8 i ro hi
  obtain ⟨rfl, rfl, rfl⟩ := uniq _ _ _ _ _ _ _ ho m1
  obtain ⟨x2, a2, e2, m2, p91, p93, p95, p97, p101, p99, pmk⟩ := r8 j c hj
  obtain ⟨rfl, rfl, rfl⟩ := uniq _ _ _ _ _ _ _ hcl m2
  obtain ⟨u1, u2, u3, u4, u5⟩ := r6 xo ao eo ro ho
  obtain ⟨v1, v2, v3, v4, v5⟩ := r6 xc ac ec c hcl
  have hxo := s9 _ ho
  have hxc := s9 _ hcl
  dsimp only at hxo hxc
  obtain ⟨G1, Gr, hG⟩ := List.append_of_mem ho
  have hcin : (xc, ac, ec, some c) ∈ Gr := fm_order (by rw [← hG]; exact r5) rfl hrc (by rw [← hG]; exact hcl)
  obtain ⟨G2, G3, hGr⟩ := List.append_of_mem hcin
  subst hGr
  have hSG := s5
  rw [hG] at hSG
  obtain ⟨w, sg1, sg2⟩ := (SG_app _ _ _ _).mp hSG
  obtain ⟨t1, t2, t3, t4⟩ := sg2
  dsimp only at t1 t2 t3 t4
  subst t1
  obtain ⟨w2, sg3, sg4⟩ := (SG_app _ _ _ _).mp t4
  obtain ⟨t1, t5, t6, t7⟩ := sg4
  dsimp only at t1 t5 t6 t7
  subst t1
  have hord := SG_le _ _ _ sg3
  have heck := SG_le _ _ _ t7
  obtain ⟨c1, c2, c3, c4, c5, c6, c7, c8⟩ := c74 (C := C) (N := live.length) (L := T.length) (i := i) (j := j) (ao := ao) (eo := eo) (ac := ac) (ec := ec) (n := n) (by omega) (fun id hid => r1 id (by revert hid; revert id; decide)) s1 hL hij hjl o97 o95 p95 p97 hao hac hord (by omega) hn
  obtain ⟨KK, hKK⟩ : ∃ KK : Int32, KK = if n = 2 then 5 else 4 := ⟨_, rfl⟩
  rw [← hKK] at c4
  have hK' : (if ¬ nI n = 2 then 4 else 5 : Int32) = KK := by rw [hKK]; rcases hn12 with g | g <;> rw [g] <;> rfl
  have hKv : KK = 4 ∨ KK = 5 := by rw [hKK]; rcases hn12 with g | g <;> rw [g]; exact Or.inl rfl; exact Or.inr rfl
  have brc : rc < 2 ^ 31 := by omega
  have e154c : zv (zar R 154 (nI ro) (nI (eo - ao) - nI n)) 154 (nI c) = nI (ec - ac) := by
    rw [zv_nI _ _ (by omega), rv_at _ _ _ (by omega), if_neg (by omega)]; exact v3
  rw [e154c, hK', pk_sub hnle.1, pk_sub hnle.2]
  obtain ⟨S1, hS1⟩ : ∃ S1, S1 = zar (zar R 154 (nI ro) (nI (eo - ao - n))) 154 (nI c) (nI (ec - ac - n)) := ⟨_, rfl⟩
  rw [← hS1]
  have S1f : ∀ f, zf S1 f = zf R f := fun f => by rw [hS1]; rfl
  have S1a : ∀ jj, ¬ jj = 154 → ∀ y, rv S1 jj y = rv R jj y := fun jj hjj y => by rw [hS1, rv_oth _ _ _ hjj, rv_oth _ _ _ hjj]
  have S1b : ∀ y, rv S1 154 y = if y = c then nI (ec - ac - n) else if y = ro then nI (eo - ao - n) else rv R 154 y := fun y => by
    rw [hS1, rv_at _ _ _ (by omega), rv_at _ _ _ (by omega)]
  obtain ⟨S2, q1, q2, q3, q4, q5, qa, qb, qc, qd, qe, q6, q7⟩ := r125 (R := S1) (it := it) ((S1f 20).trans s8) (by omega) KK 0
  have S2ch : chn S2 0 (G.map (fun en => en.1)) := chn_cong _ _ s6 (fun v _ => by rw [q2 150 (by omega), S1a 150 (by decide)]) (fun v _ => by rw [q2 151 (by omega), S1a 151 (by decide)]) (by rw [q7 21 (by decide), S1f])
  have idsG : G.map (fun en => en.1) = (G1.map (fun en => en.1) ++ [xo]) ++ (G2.map (fun en => en.1) ++ xc :: G3.map (fun en => en.1)) := by
    rw [hG]; simp
  have hids : ∀ v ∈ G.map (fun en => en.1), v ≤ it := fun v hv => by
    obtain ⟨en, hen, rfl⟩ := List.mem_map.mp hv; exact s9 en hen
  have h0 : ∀ v ∈ G.map (fun en => en.1), ¬ v = 0 := fun v hv hh => (List.nodup_cons.mp s7).1 (hh ▸ hv)
  have S2ch' := S2ch
  rw [idsG] at S2ch'
  have hlast1 : lastOf 0 (G1.map (fun en => en.1) ++ [xo]) = xo := lastOf_app _ _ _
  have hbeh := chn_hd _ _ _ S2ch' (fun v hv => ⟨h0 v (by rw [idsG]; exact hv), by have := hids v (by rw [idsG]; exact hv); omega⟩)
  rw [hlast1] at hbeh
  obtain ⟨S3, p1, p2, p3, p4⟩ := r126 (R := S2) (x := it + 1) (b := xo) (by omega) (by omega) (by omega) hbeh
  have nd1 : (0 :: ((G1.map (fun en => en.1) ++ [xo]) ++ (G2.map (fun en => en.1) ++ xc :: G3.map (fun en => en.1)))).Nodup := by rw [← idsG]; exact s7
  have S3ch : chn S3 0 ((G1.map (fun en => en.1) ++ [xo]) ++ (it + 1) :: (G2.map (fun en => en.1) ++ xc :: G3.map (fun en => en.1))) := chn_put (by omega) (by omega) _ _ _ (fun v hv => by
      rw [← idsG] at hv
      rcases List.mem_cons.mp hv with g | g
      · omega
      · have := hids v g; omega) nd1 (fun v hv => h0 v (by rw [idsG]; exact hv)) S2ch' (by rw [hlast1]; exact p2)
  have S3_20 : zf S3 20 = nI (it + 1) := by rw [p4 20 (by decide)]; exact q6
  obtain ⟨S4, y1, y2, y3, y4, y5, ya, yb, yc, yd, ye, y6, y7⟩ := r125 (R := S3) (it := it + 1) S3_20 (by omega) 12 0
  have S4ch : chn S4 0 ((G1.map (fun en => en.1) ++ [xo] ++ (it + 1) :: G2.map (fun en => en.1)) ++ xc :: G3.map (fun en => en.1)) := by
    have := chn_cong _ _ S3ch (R' := S4) (fun v _ => y2 150 (by omega) v) (fun v _ => y2 151 (by omega) v) (y7 21 (by decide))
    simpa using this
  have hah := chn_ahead _ _ _ _ S4ch
  obtain ⟨z, hz⟩ : ∃ z, z = lastOf 0 (G1.map (fun en => en.1) ++ [xo] ++ (it + 1) :: G2.map (fun en => en.1)) := ⟨_, rfl⟩
  rw [← hz] at hah
  have hids2 : ∀ v ∈ (G1.map (fun en => en.1) ++ [xo] ++ (it + 1) :: G2.map (fun en => en.1)) ++ xc :: G3.map (fun en => en.1), ¬ v = 0 ∧ v ≤ it + 1 := by
    intro v hv
    by_cases e : v = it + 1
    · omega
    · have : v ∈ G.map (fun en => en.1) := by
        rw [idsG]
        simp only [List.mem_append, List.mem_cons, List.not_mem_nil, or_false] at hv ⊢
        rcases hv with ((g | g) | (g | g)) | g | g
        · exact Or.inl (Or.inl g)
        · exact Or.inl (Or.inr g)
        · exact absurd g e
        · exact Or.inr (Or.inl g)
        · exact Or.inr (Or.inr (Or.inl g))
        · exact Or.inr (Or.inr (Or.inr g))
      exact ⟨h0 v this, by have := hids v this; omega⟩
  have hzm : z ≤ it + 1 := by
    have := lastOf_mem (G1.map (fun en => en.1) ++ [xo] ++ (it + 1) :: G2.map (fun en => en.1)) 0
    rw [← hz] at this
    rcases List.mem_cons.mp this with g | g
    · omega
    · exact (hids2 z (List.mem_append_left _ g)).2
  have hbeh2 := chn_hd _ _ _ S4ch (fun v hv => ⟨(hids2 v hv).1, by have := (hids2 v hv).2; omega⟩)
  rw [← hz] at hbeh2
  obtain ⟨S5, x1, x2, x3, x4⟩ := r126 (R := S4) (x := it + 2) (b := z) (by omega) (by omega) (by omega) hbeh2
  have nd2 : (0 :: ((G1.map (fun en => en.1) ++ [xo] ++ (it + 1) :: G2.map (fun en => en.1)) ++ xc :: G3.map (fun en => en.1))).Nodup := by
    have hperm : (0 :: ((G1.map (fun en => en.1) ++ [xo] ++ (it + 1) :: G2.map (fun en => en.1)) ++ xc :: G3.map (fun en => en.1))).Perm ((it + 1) :: (0 :: G.map (fun en => en.1))) := by
      rw [idsG]
      refine List.Perm.trans ?_ (List.Perm.swap ..)
      refine List.Perm.cons 0 ?_
      rw [List.append_assoc, List.cons_append]
      exact List.perm_middle
    rw [List.Perm.nodup_iff hperm, List.nodup_cons]
    refine ⟨fun hm => ?_, s7⟩
    rcases List.mem_cons.mp hm with g | g
    · omega
    · have := hids _ g; omega
  have S5ch : chn S5 0 ((G1.map (fun en => en.1) ++ [xo] ++ (it + 1) :: G2.map (fun en => en.1)) ++ (it + 2) :: (xc :: G3.map (fun en => en.1))) := chn_put (by omega) (by omega) _ _ _ (fun v hv => by
      rcases List.mem_cons.mp hv with g | g
      · omega
      · have := (hids2 v g).2; omega) nd2 (fun v hv => (hids2 v hv).1) S4ch (by rw [← hz]; exact x2)
  have pass : ∀ d p m Z, p + d = c → d < m → ro < p → (∀ jj, ¬ jj = 157 → ∀ y, rv Z jj y = rv S5 jj y) → (∀ f, zf Z f = zf S5 f) → (∀ r, rv Z 157 r = if ro < r ∧ r < p then 1 else rv R 157 r) →
      ∃ S6, (∀ jj, ¬ jj = 157 → ∀ y, rv S6 jj y = rv S5 jj y) ∧ (∀ f, zf S6 f = zf S5 f) ∧ (∀ r, rv S6 157 r = if ro < r ∧ r < c then 1 else rv R 157 r) ∧ ∀ fi K, g_134_177 m Z fi (nI c) true (nI p) K = K S6 (nI c) true := by
    intro d
    induction d with
    | zero =>
      intro p m Z hp hm hrp g1 g2 g3
      obtain ⟨m, rfl⟩ : ∃ z, m = z + 1 := ⟨m - 1, by omega⟩
      obtain rfl : p = c := by omega
      exact ⟨Z, g1, g2, g3, fun fi K => by rw [g_134_177, if_pos (Int32.le_refl _)]⟩
    | succ d ih =>
      intro p m Z hp hm hrp g1 g2 g3
      obtain ⟨m, rfl⟩ : ∃ z, m = z + 1 := ⟨m - 1, by omega⟩
      obtain ⟨S6, w1, w2, w3, w4⟩ := ih (p + 1) m (zar Z 157 (nI p) 1) (by omega) (by omega) (by omega) (fun jj hjj y => by rw [rv_oth _ _ _ hjj]; exact g1 jj hjj y) (fun f => g2 f) (fun r => by
        rw [rv_at _ _ _ (by omega), g3]
        by_cases e : r = p
        · have d1 : ro < r ∧ r < p + 1 := by omega
          rw [if_pos e, if_pos d1]
        · rw [if_neg e]
          by_cases e2 : ro < r ∧ r < p
          · have d1 : ro < r ∧ r < p + 1 := by omega
            rw [if_pos e2, if_pos d1]
          · have d1 : ¬ (ro < r ∧ r < p + 1) := by omega
            rw [if_neg e2, if_neg d1])
      refine ⟨S6, w1, w2, w3, fun fi K => ?_⟩
      rw [g_134_177, if_neg (by rw [nI_leI (by omega) (by omega)]; omega), if_pos (inq_nI (by show p < 1500; omega) (by omega)), nI_1]
      exact w4 fi K
  have S5_157 : ∀ r, rv S5 157 r = rv R 157 r := fun r => by rw [x3 157 (by decide) (by decide), y2 157 (by omega), p3 157 (by decide) (by decide), q2 157 (by omega), S1a 157 (by decide)]
  obtain ⟨S6, w1, w2, w3, w4⟩ := pass (c - (ro + 1)) (ro + 1) oF S5 (by omega) (by unfold oF; omega) (by omega) (fun _ _ _ => rfl) (fun _ => rfl) (fun r => by
    have d1 : ¬ (ro < r ∧ r < ro + 1) := by omega
    rw [if_neg d1]; exact S5_157 r)
  have hcode : ∀ fi K, Option.bind (o_125 S1 KK 0) (fun u24 => (if inq 152 (nI ro) then (Option.bind (o_126 u24.2 u24.1 (zv u24.2 152 (nI ro))) fun u26 => (Option.bind (o_125 u26 12 0) fun u27 => (if inq 152 (nI c) then (if inq 151 (zv u27.2 152 (nI c)) then (Option.bind (o_126 u27.2 u27.1 (zv u27.2 151 (zv u27.2 152 (nI c)))) fun u30 => g_134_177 oF u30 fi (nI c) true (nI ro + 1) K) else none) else none))) else none)) = K S6 (nI c) true := by
    intro fi K
    have e1 : zv S2 152 (nI ro) = nI xo := by rw [zv_nI _ _ (by omega), q2 152 (by omega), S1a 152 (by decide)]; exact u1
    have e2 : zv S4 152 (nI c) = nI xc := by rw [zv_nI _ _ (by omega), y2 152 (by omega), p3 152 (by decide) (by decide), q2 152 (by omega), S1a 152 (by decide)]; exact v1
    have e3 : zv S4 151 (nI xc) = nI z := by rw [zv_nI _ _ (by omega)]; exact hah
    rw [q1]
    simp only [Option.bind_some]
    rw [if_pos (inq_nI (by show ro < 1500; omega) (by omega)), e1, p1]
    simp only [Option.bind_some]
    rw [y1]
    simp only [Option.bind_some]
    rw [if_pos (inq_nI (by show c < 1500; omega) (by omega)), e2, if_pos (inq_nI (by show xc < 8000; omega) (by omega)), e3, show it + 1 + 1 = it + 2 by omega, x1]
    simp only [Option.bind_some]
    rw [nI_1]; exact w4 fi K
  obtain ⟨Ra, hRa⟩ : ∃ Ra, Ra = zar S3 154 (nI c) (nI (ec - ac)) := ⟨_, rfl⟩
  have Ra154 : ∀ y, rv Ra 154 y = if y = ro then nI (eo - n - ao) else rv R 154 y := fun y => by
    rw [hRa, rv_at _ _ _ (by omega), p3 154 (by decide) (by decide), q2 154 (by omega), S1b]
    by_cases e : y = c
    · have d1 : ¬ y = ro := by omega
      rw [if_pos e, if_neg d1, e]; exact v3.symm
    · rw [if_neg e, if_neg e]
      by_cases e2 : y = ro
      · rw [if_pos e2, if_pos e2]; congr 1; omega
      · rw [if_neg e2, if_neg e2]
  have Raa : ∀ jj, (jj < 143 ∨ 151 < jj) → ¬ jj = 154 → ∀ y, rv Ra jj y = rv R jj y := fun jj g1 g2 y => by
    rw [hRa, rv_oth _ _ _ g2, p3 jj (by omega) (by omega), q2 jj (by omega), S1a jj g2]
  have Rab : ∀ jj, 143 ≤ jj → jj ≤ 149 → ∀ y, y ≤ it → rv Ra jj y = rv R jj y := fun jj g1 g2 y hy => by
    rw [hRa, rv_oth _ _ _ (by omega), p3 jj (by omega) (by omega), q3 jj g1 g2 y (by omega), S1a jj (by omega)]
  have Raf : ∀ f, ¬ f = 20 → ¬ f = 21 → zf Ra f = zf R f := fun f g1 g2 => by rw [hRa, zf_zar, p4 f g2, q7 f g1, S1f]
  have RaK : rv Ra 143 (it + 1) = KK := by rw [hRa, rv_oth _ _ _ (by decide), p3 143 (by decide) (by decide)]; exact q4
  obtain ⟨A1, A2, A3⟩ := erase (C := C) (a := eo - n) (b := eo) (by omega) (by omega) (by omega)
  obtain ⟨B1, B2, B3⟩ := put66 (C := f_35 C (nI (eo - n)) (nI eo)) (p := eo - n) (by rw [A1.2.2.1]; omega) (by rw [A1.2.2.1]; omega) KK
  have AB := A1.trans B1
  obtain ⟨E1, hE1⟩ : ∃ E1, E1 = zput (f_35 C (nI (eo - n)) (nI eo)) 66 (nI (eo - n)) KK := ⟨_, rfl⟩
  rw [← hE1] at B1 B2 B3 AB
  obtain ⟨Ca, hCa⟩ : ∃ Ca, Ca = zput E1 97 (nI i) (nI (eo - n)) := ⟨_, rfl⟩
  have E97 : (E1.1 97).length = live.length := by rw [AB.1 97 (by decide) (by decide)]; exact r1 97 (by decide)
  have vE : E1.1 68 = C.1 68 := list_ext AB.2.2.2 (fun q => by
    have := B3 q
    rw [A3] at this; exact this)
  have Crow : ∀ id, ¬ id = 66 → ¬ id = 97 → Ca.1 id = C.1 id := fun id g1 g2 => by
    rw [hCa, zput_oth g2]
    by_cases e : id = 68
    · rw [e]; exact vE
    · exact AB.1 id g1 e
  have kdA : ∀ q, kd Ca q = if q = eo - n then KK else if eo - n ≤ q ∧ q < eo then 8 else kd C q := fun q => by
    have : kd Ca q = kd E1 q := by unfold kd; rw [hCa, zput_oth (by decide)]
    rw [this, B2, A2]
  have vlA : ∀ q, vl Ca q = vl C q := fun q => by unfold vl; rw [Crow 68 (by decide) (by decide)]
  have tokK : rtok Ra (it + 1) none = [tk0 KK] := by
    unfold rtok; dsimp only; rw [RaK]; rcases hKv with g | g <;> rw [g] <;> rfl
  have tkKa : ∀ q, kd Ca q = KK → ctok Ca T q = [tk0 KK] := fun q hq => by
    unfold ctok; rw [hq]; rcases hKv with g | g <;> rw [g] <;> rfl
  have S3ids : (G1 ++ ([(xo, ao, eo - n, some ro), (it + 1, eo - n, eo, none)] ++ (G2 ++ (xc, ac, ec, some c) :: G3))).map (fun en => en.1) = (G1.map (fun en => en.1) ++ [xo]) ++ (it + 1) :: (G2.map (fun en => en.1) ++ xc :: G3.map (fun en => en.1)) := by simp
  have hmA : ∀ en ∈ G1 ++ (G2 ++ (xc, ac, ec, some c) :: G3), ecl Ra en = ecl R en ∧ eop Ra en = eop R en := by
    rintro ⟨y, ya, yb, yt⟩ hen
    cases yt with
    | some t => rw [(ecl_run Ra y ya yb t).1, (ecl_run Ra y ya yb t).2, (ecl_run R y ya yb t).1, (ecl_run R y ya yb t).2]; exact ⟨rfl, rfl⟩
    | none =>
      have hyG : (y, ya, yb, none) ∈ G := by
        rw [hG]
        rcases List.mem_append.mp hen with g | g
        · exact List.mem_append_left _ g
        · exact List.mem_append_right _ (List.mem_cons_of_mem _ g)
      have := Rab 143 (by omega) (by omega) y (s9 _ hyG)
      rw [(ecl_k Ra y ya yb).1, (ecl_k Ra y ya yb).2, (ecl_k R y ya yb).1, (ecl_k R y ya yb).2, this]; exact ⟨rfl, rfl⟩
  have nbA : NB Ra (G1 ++ ([(xo, ao, eo - n, some ro), (it + 1, eo - n, eo, none)] ++ (G2 ++ (xc, ac, ec, some c) :: G3))) k u :=
    NB_ins (by rw [← hG]; exact h.2.2.2.2.2.2.2.2.1) hmA (ecl_run R xo ao eo ro) (ecl_run Ra xo ao (eo - n) ro) (by unfold ecl; dsimp only; rw [tokK]; rcases hKv with g | g <;> rw [g] <;> rfl)
  have RaS : ∀ j, 143 ≤ j → j ≤ 149 → rv Ra j (it + 1) = rv S2 j (it + 1) := fun j j1 j2 => by rw [hRa, rv_oth _ _ _ (by omega), p3 j (by omega) (by omega)]
  have izA : IZ1 Ra (it + 1) := IZ1_cong (IZ1_new qa qb qc qd qe (by rw [q4]; rcases hKv with g | g <;> rw [g] <;> exact ⟨by decide, by decide⟩)) RaS
  have half1 : INV0 Ca Ra T D k u (G1 ++ ([(xo, ao, eo - n, some ro), (it + 1, eo - n, eo, none)] ++ (G2 ++ (xc, ac, ec, some c) :: G3))) live rc bs nl pl (it + 1) := by
    refine inv_split (n := n) (a1 := ao) (e1 := eo - n) (b1 := eo - n) (b2 := eo) h hku hG hi (by omega) (by omega) (Nat.le_refl _) (by omega) (by omega) (Or.inl rfl) ?_ ?_ ?_ ?_ ?_ ?_ ?_ ?_ ?_ nbA izA
    · refine ⟨rfl, by show ao ≤ eo - n; omega, ?_, rfl, by show eo - n ≤ eo; omega, ?_, rfl⟩
      · show ctk Ca T ao (eo - n - ao) = rtok Ra xo (some ro)
        have : rtok Ra xo (some ro) = List.replicate (eo - n - ao) (tkc (rv R 144 xo)) := by
          show List.replicate (rvn Ra 154 ro) (tkc (rv Ra 144 xo)) = _
          rw [Rab 144 (by omega) (by omega) xo hxo, show rvn Ra 154 ro = eo - n - ao from by
            unfold rvn; rw [show Ra.2.2.1 154 ro = nI (eo - n - ao) from (Ra154 ro).trans (if_pos rfl), nI_clamp (by omega)]]
        rw [this]
        refine ctk_rep _ _ (fun q g1 g2 => ?_)
        have d1 : ¬ q = eo - n := by omega
        have d2 : ¬ (eo - n ≤ q ∧ q < eo) := by omega
        rw [kdA, if_neg d1, if_neg d2, vlA]; exact omk q g1 (by omega)
      · show ctk Ca T (eo - n) (eo - (eo - n)) = rtok Ra (it + 1) none
        rw [tokK, show eo - (eo - n) = 1 + (n - 1) by omega, ctk_add, ctk_one, tkKa _ (by rw [kdA, if_pos rfl]), ctk_gone (n - 1) (eo - n + 1) (fun q g1 g2 => by
          have d1 : ¬ q = eo - n := by omega
          have d2 : eo - n ≤ q ∧ q < eo := by omega
          rw [kdA, if_neg d1, if_pos d2])]; rfl
    · intro q hq
      have d1 : ¬ q = eo - n := by omega
      have d2 : ¬ (eo - n ≤ q ∧ q < eo) := by omega
      rw [kdA, if_neg d1, if_neg d2]; exact ⟨rfl, vlA q⟩
    · intro q g1 g2
      rw [kdA]
      by_cases d1 : q = eo - n
      · rw [if_pos d1]; rcases hKv with g | g <;> rw [g] <;> decide
      · rw [if_neg d1]
        by_cases d2 : eo - n ≤ q ∧ q < eo
        · rw [if_pos d2]; decide
        · rw [if_neg d2, (omk q g1 (by omega)).1]; decide
    · refine ⟨fun id g1 g2 g3 => Crow id g1 g3, by unfold zc; rw [hCa]; show E1.2.1 1 = C.2.1 1; rw [AB.2.1], by rw [hCa, zput_oth (by decide)]; exact AB.2.2.1, by rw [Crow 95 (by decide) (by decide)], by rw [hCa, zput_row (by omega), List.length_set, E97]; exact (r1 97 (by decide)).symm, fun t => ?_, fun t => ?_⟩
      · have : ldq Ca 95 t = ldq C 95 t := by unfold ldq; rw [Crow 95 (by decide) (by decide)]
        rw [this]
        by_cases e : t = i
        · rw [if_pos e, e]; exact o95
        · rw [if_neg e]
      · rw [hCa, zput_ldq (by omega) (by omega)]
        by_cases e : t = i
        · rw [if_pos e, if_pos e]
        · rw [if_neg e, if_neg e, AB.ldq (by decide) (by decide)]
    · exact ⟨Raa, Rab, Ra154, fun f hf => Raf f (by rintro rfl; exact absurd hf (by decide)) (by rintro rfl; exact absurd hf (by decide))⟩
    · rw [RaK]; rcases hKv with g | g
      · exact Or.inl g
      · exact Or.inr (Or.inl g)
    · rw [tokK, hKK]; rcases hn12 with g | g <;> rw [g] <;> decide
    · rw [S3ids]
      exact chn_cong _ _ S3ch (fun v _ => by rw [hRa, rv_oth _ _ _ (by decide)]) (fun v _ => by rw [hRa, rv_oth _ _ _ (by decide)]) (by rw [hRa, zf_zar])
    · rw [hRa, zf_zar]; exact S3_20
  have kdB0 : (Ca.1 66).length = T.length := by rw [hCa, zput_oth (by decide)]; exact AB.2.2.1.trans s1
  obtain ⟨D1, D2, D3⟩ := erase (C := Ca) (a := ac) (b := ac + n) (by omega) (by omega) (by omega)
  obtain ⟨F1, F2, F3⟩ := put66 (C := f_35 Ca (nI ac) (nI (ac + n))) (p := ac) (by rw [D1.2.2.1]; omega) (by rw [D1.2.2.1]; omega) 9
  have DF := D1.trans F1
  obtain ⟨E2, hE2⟩ : ∃ E2, E2 = zput (f_35 Ca (nI ac) (nI (ac + n))) 66 (nI ac) 9 := ⟨_, rfl⟩
  rw [← hE2] at F1 F2 F3 DF
  obtain ⟨Cb, hCb⟩ : ∃ Cb, Cb = zput E2 95 (nI j) (nI (ac + n)) := ⟨_, rfl⟩
  have Ca95 : (Ca.1 95).length = live.length := by rw [Crow 95 (by decide) (by decide)]; exact r1 95 (by decide)
  have E95 : (E2.1 95).length = live.length := by rw [DF.1 95 (by decide) (by decide)]; exact Ca95
  have vE2 : E2.1 68 = Ca.1 68 := list_ext DF.2.2.2 (fun q => by
    have := F3 q
    rw [D3] at this; exact this)
  have Drow : ∀ id, ¬ id = 66 → ¬ id = 95 → Cb.1 id = Ca.1 id := fun id g1 g2 => by
    rw [hCb, zput_oth g2]
    by_cases e : id = 68
    · rw [e]; exact vE2
    · exact DF.1 id g1 e
  have kdB : ∀ q, kd Cb q = if q = ac then 9 else if ac ≤ q ∧ q < ac + n then 8 else kd Ca q := fun q => by
    have : kd Cb q = kd E2 q := by unfold kd; rw [hCb, zput_oth (by decide)]
    rw [this, F2, D2]
  have vlB : ∀ q, vl Cb q = vl Ca q := fun q => by unfold vl; rw [Drow 68 (by decide) (by decide)]
  have S5a : ∀ jj, (jj < 143 ∨ 151 < jj) → ¬ jj = 154 → ∀ y, rv S5 jj y = rv Ra jj y := fun jj g1 g2 y => by
    rw [x3 jj (by omega) (by omega), y2 jj (by omega), hRa, rv_oth _ _ _ g2]
  have S5b : ∀ jj, 143 ≤ jj → jj ≤ 149 → ∀ y, y ≤ it + 1 → rv S5 jj y = rv Ra jj y := fun jj g1 g2 y hy => by
    rw [x3 jj (by omega) (by omega), y3 jj g1 g2 y (by omega), hRa, rv_oth _ _ _ (by omega)]
  have S5c : ∀ y, rv S5 154 y = if y = c then nI (ec - (ac + n)) else rv Ra 154 y := fun y => by
    rw [x3 154 (by decide) (by decide), y2 154 (by omega), hRa, rv_at _ _ _ (by omega), p3 154 (by decide) (by decide), q2 154 (by omega), S1b]
    by_cases e : y = c
    · rw [if_pos e, if_pos e]; congr 1; omega
    · rw [if_neg e, if_neg e, if_neg e]
  have S5f : ∀ f, ¬ f = 20 → ¬ f = 21 → zf S5 f = zf Ra f := fun f g1 g2 => by rw [x4 f g2, y7 f g1, hRa, zf_zar]
  have S5K : rv S5 143 (it + 1 + 1) = 12 := by rw [x3 143 (by decide) (by decide)]; exact y4
  have tok9 : rtok S5 (it + 1 + 1) none = [tk0 9] := by
    unfold rtok; dsimp only; rw [S5K]; rfl
  have hGh : (G1 ++ ([(xo, ao, eo - n, some ro), (it + 1, eo - n, eo, none)] ++ (G2 ++ (xc, ac, ec, some c) :: G3))) = (G1 ++ ([(xo, ao, eo - n, some ro), (it + 1, eo - n, eo, none)] ++ G2)) ++ (xc, ac, ec, some c) :: G3 := by simp
  have S5ids : ((G1 ++ ([(xo, ao, eo - n, some ro), (it + 1, eo - n, eo, none)] ++ G2)) ++ ([(it + 1 + 1, ac, ac + n, none), (xc, ac + n, ec, some c)] ++ G3)).map (fun en => en.1) = (G1.map (fun en => en.1) ++ [xo] ++ (it + 1) :: G2.map (fun en => en.1)) ++ (it + 2) :: (xc :: G3.map (fun en => en.1)) := by simp
  have nbB : NB S5 ((G1 ++ ([(xo, ao, eo - n, some ro), (it + 1, eo - n, eo, none)] ++ G2)) ++ ([(it + 1 + 1, ac, ac + n, none), (xc, ac + n, ec, some c)] ++ G3)) k u := by
    refine NB_pair (R := R) (e := (xo, ao, eo, some ro)) (f := (xc, ac, ec, some c)) (by rw [← hG]; exact h.2.2.2.2.2.2.2.2.1) ?_ (ecl_run R xo ao eo ro) (ecl_run R xc ac ec c) (ecl_run S5 xo ao (eo - n) ro) (ecl_run S5 xc (ac + n) ec c) ?_ ?_
    · rintro ⟨y, ya, yb, yt⟩ hen
      cases yt with
      | some t => rw [(ecl_run S5 y ya yb t).1, (ecl_run S5 y ya yb t).2, (ecl_run R y ya yb t).1, (ecl_run R y ya yb t).2]; exact ⟨rfl, rfl⟩
      | none =>
        have hyG : (y, ya, yb, none) ∈ G := by
          rw [hG]
          rcases List.mem_append.mp hen with g | g
          · exact List.mem_append_left _ g
          · rcases List.mem_append.mp g with g | g
            · exact List.mem_append_right _ (List.mem_cons_of_mem _ (List.mem_append_left _ g))
            · exact List.mem_append_right _ (List.mem_cons_of_mem _ (List.mem_append_right _ (List.mem_cons_of_mem _ g)))
        have hyi := s9 _ hyG
        have : rv S5 143 y = rv R 143 y := (S5b 143 (by omega) (by omega) y (Nat.le_succ_of_le hyi)).trans (Rab 143 (by omega) (by omega) y hyi)
        rw [(ecl_k S5 y ya yb).1, (ecl_k S5 y ya yb).2, (ecl_k R y ya yb).1, (ecl_k R y ya yb).2, this]; exact ⟨rfl, rfl⟩
    · have : rv S5 143 (it + 1) = KK := (S5b 143 (by omega) (by omega) (it + 1) (Nat.le_refl _)).trans RaK
      rw [(ecl_k S5 (it + 1) (eo - n) eo).1, (ecl_k S5 (it + 1) (eo - n) eo).2, this]
      rcases hKv with g | g <;> rw [g] <;> exact ⟨rfl, rfl⟩
    · rw [(ecl_k S5 (it + 1 + 1) ac (ac + n)).1, (ecl_k S5 (it + 1 + 1) ac (ac + n)).2, S5K]; exact ⟨rfl, rfl⟩
  have izB : IZ1 S5 (it + 1 + 1) := IZ1_cong (IZ1_new ya yb yc yd ye (by rw [y4]; exact ⟨by decide, by decide⟩)) (fun j j1 j2 => x3 j (by omega) (by omega) _)
  have half2 : INV0 Cb S5 T D k u ((G1 ++ ([(xo, ao, eo - n, some ro), (it + 1, eo - n, eo, none)] ++ G2)) ++ ([(it + 1 + 1, ac, ac + n, none), (xc, ac + n, ec, some c)] ++ G3)) live rc bs nl pl (it + 1 + 1) := by
    refine inv_split (n := n) (a1 := ac + n) (e1 := ec) (b1 := ac) (b2 := ac + n) half1 hku hGh hj (by omega) (by omega) (by omega) (by omega) (Nat.le_refl _) (Or.inr rfl) ?_ ?_ ?_ ?_ ?_ ?_ ?_ ?_ ?_ nbB izB
    · refine ⟨rfl, by show ac ≤ ac + n; omega, ?_, rfl, by show ac + n ≤ ec; omega, ?_, rfl⟩
      · show ctk Cb T ac (ac + n - ac) = rtok S5 (it + 1 + 1) none
        rw [tok9, show ac + n - ac = 1 + (n - 1) by omega, ctk_add, ctk_one, ctk_gone (n - 1) (ac + 1) (fun q g1 g2 => by
          have d1 : ¬ q = ac := by omega
          have d2 : ac ≤ q ∧ q < ac + n := by omega
          rw [kdB, if_neg d1, if_pos d2])]
        have : kd Cb ac = 9 := by rw [kdB, if_pos rfl]
        unfold ctok; rw [this]; rfl
      · show ctk Cb T (ac + n) (ec - (ac + n)) = rtok S5 xc (some c)
        have : rtok S5 xc (some c) = List.replicate (ec - (ac + n)) (tkc (rv R 144 xc)) := by
          show List.replicate (rvn S5 154 c) (tkc (rv S5 144 xc)) = _
          rw [S5b 144 (by omega) (by omega) xc (by omega), Rab 144 (by omega) (by omega) xc hxc, show rvn S5 154 c = ec - (ac + n) from by
            unfold rvn; rw [show S5.2.2.1 154 c = nI (ec - (ac + n)) from (S5c c).trans (if_pos rfl), nI_clamp (by omega)]]
        rw [this]
        refine ctk_rep _ _ (fun q g1 g2 => ?_)
        have d1 : ¬ q = ac := by omega
        have d2 : ¬ (ac ≤ q ∧ q < ac + n) := by omega
        have d3 : ¬ q = eo - n := by omega
        have d4 : ¬ (eo - n ≤ q ∧ q < eo) := by omega
        rw [kdB, if_neg d1, if_neg d2, kdA, if_neg d3, if_neg d4, vlB, vlA]; exact pmk q (by omega) (by omega)
    · intro q hq
      have d1 : ¬ q = ac := by omega
      have d2 : ¬ (ac ≤ q ∧ q < ac + n) := by omega
      rw [kdB, if_neg d1, if_neg d2]; exact ⟨rfl, vlB q⟩
    · intro q g1 g2
      rw [kdB]
      by_cases d1 : q = ac
      · rw [if_pos d1]; decide
      · rw [if_neg d1]
        by_cases d2 : ac ≤ q ∧ q < ac + n
        · rw [if_pos d2]; decide
        · have d3 : ¬ q = eo - n := by omega
          have d4 : ¬ (eo - n ≤ q ∧ q < eo) := by omega
          rw [if_neg d2, kdA, if_neg d3, if_neg d4, (pmk q (by omega) (by omega)).1]; decide
    · refine ⟨fun id g1 g2 g3 => Drow id g1 g2, by unfold zc; rw [hCb]; show E2.2.1 1 = Ca.2.1 1; rw [DF.2.1], by rw [hCb, zput_oth (by decide)]; exact DF.2.2.1, by rw [hCb, zput_row (by omega), List.length_set, E95]; exact Ca95.symm, by rw [Drow 97 (by decide) (by decide)], fun t => ?_, fun t => ?_⟩
      · rw [hCb, zput_ldq (by omega) (by omega)]
        by_cases e : t = j
        · rw [if_pos e, if_pos e]
        · rw [if_neg e, if_neg e, DF.ldq (by decide) (by decide)]
      · have e1 : ldq Cb 97 t = ldq Ca 97 t := by unfold ldq; rw [Drow 97 (by decide) (by decide)]
        rw [e1]
        by_cases e : t = j
        · rw [if_pos e, e, hCa, zput_ldq (by omega) (by omega), if_neg (by omega), AB.ldq (by decide) (by decide)]; exact p97
        · rw [if_neg e]
    · exact ⟨S5a, S5b, S5c, fun f hf => S5f f (by rintro rfl; exact absurd hf (by decide)) (by rintro rfl; exact absurd hf (by decide))⟩
    · rw [S5K]; exact Or.inr (Or.inr rfl)
    · rw [tok9]; exact Nat.zero_le _
    · rw [S5ids]; exact S5ch
    · rw [x4 20 (by decide)]; exact y6
  have hfin : INV0 (f_74 C (nI i) (nI j)) S6 T D k u ((G1 ++ ([(xo, ao, eo - n, some ro), (it + 1, eo - n, eo, none)] ++ G2)) ++ ([(it + 1 + 1, ac, ac + n, none), (xc, ac + n, ec, some c)] ++ G3)) live rc bs nl pl (it + 1 + 1) := by
    refine inv_over half2 ⟨fun id hid => ?_, ?_, ?_⟩ ⟨w1, fun f _ => w2 f⟩ (fun t r htr => ?_) (fun r hr hnl => ?_)
    · by_cases e66 : id = 66
      · subst e66
        refine list_ext ?_ (fun q => ?_)
        · rw [c3 66 (by decide), s1, hCb, zput_oth (by decide), DF.2.2.1, kdB0]
        · show kd (f_74 C (nI i) (nI j)) q = kd Cb q
          rw [c4, kdB, kdA]
          by_cases d1 : q = ac
          · rw [if_pos d1, if_pos d1]
          · rw [if_neg d1, if_neg d1]
            by_cases d2 : q = eo - n
            · have d3 : ¬ (ac ≤ q ∧ q < ac + n) := by omega
              rw [if_pos d2, if_neg d3, if_pos d2]
            · rw [if_neg d2, if_neg d2]
      · by_cases e97 : id = 97
        · subst e97
          rw [Drow 97 (by decide) (by decide)]
          refine list_ext ?_ (fun q => ?_)
          · rw [c3 97 (by decide), r1 97 (by decide), hCa, zput_row (by omega), List.length_set, E97]
          · show ldq (f_74 C (nI i) (nI j)) 97 q = ldq Ca 97 q
            rw [c6, hCa, zput_ldq (by omega) (by omega), AB.ldq (by decide) (by decide)]
        · by_cases e95 : id = 95
          · subst e95
            refine list_ext ?_ (fun q => ?_)
            · rw [c3 95 (by decide), r1 95 (by decide), hCb, zput_row (by omega), List.length_set, E95]
            · show ldq (f_74 C (nI i) (nI j)) 95 q = ldq Cb 95 q
              rw [c7, hCb, zput_ldq (by omega) (by omega), DF.ldq (by decide) (by decide)]
              have : ldq Ca 95 q = ldq C 95 q := by unfold ldq; rw [Crow 95 (by decide) (by decide)]
              rw [this]
          · rw [c2 id (by simp only [List.mem_cons, List.not_mem_nil, or_false, not_or]; exact ⟨e66, e95, e97, hid⟩), Drow id e66 e95, Crow id e66 e97]
    · unfold zc; rw [c1, hCb]
      show C.2.1 1 = E2.2.1 1
      rw [DF.2.1, hCa]
      show C.2.1 1 = E1.2.1 1
      rw [AB.2.1]
    · rw [c3 99 (by decide)]; exact r1 99 (by decide)
    · have htl : t < live.length := (List.getElem?_eq_some_iff.mp htr).1
      obtain ⟨x', a', e', g1, -, -, -, -, -, g7, -⟩ := r8 t r htr
      have e155 : rv S5 155 r = rv R 155 r := by rw [S5a 155 (by omega) (by decide), Raa 155 (by omega) (by decide)]
      rw [c8 t htl, w3, e155]
      have hiff : (i < t ∧ t < j) ↔ (ro < r ∧ r < c) := by
        have mono : ∀ a b ra rb : Nat, live[a]? = some ra → live[b]? = some rb → a < b → ra < rb := by
          intro a b ra rb ha hb hab
          have e1 := (List.getElem?_eq_some_iff.mp ha)
          have e2 := (List.getElem?_eq_some_iff.mp hb)
          have := List.pairwise_iff_getElem.mp r2 a b e1.1 e2.1 hab
          rw [e1.2, e2.2] at this; exact this
        constructor
        · rintro ⟨g1, g2⟩; exact ⟨mono i t ro r hi htr g1, mono t j r c htr hj g2⟩
        · rintro ⟨g1, g2⟩
          refine ⟨?_, ?_⟩
          · rcases Nat.lt_trichotomy i t with g | g | g
            · exact g
            · rw [g, htr] at hi; have := Option.some.inj hi; omega
            · have := mono t i r ro htr hi g; omega
          · rcases Nat.lt_trichotomy t j with g | g | g
            · exact g
            · rw [g, hj] at htr; have := Option.some.inj htr; omega
            · have := mono j t c r hj htr g; omega
      by_cases d : i < t ∧ t < j
      · rw [if_pos d, if_pos (hiff.mp d), if_neg (by decide)]
      · rw [if_neg d, if_neg (fun hh => d (hiff.mpr hh))]; exact g7
    · rw [w3, r7 r hr hnl]; exact ite_self _
  refine ⟨S6, _, hfin, c1, c2, fun f g1 g2 => by rw [w2, S5f f g1 g2, Raf f g1 g2], w3, fun jj g1 g2 r => by rw [w1 jj g2, S5a jj (by omega) (by omega), Raa jj (by omega) (by omega)], fun q hq => ⟨by rw [c4, if_neg (by omega), if_neg (by omega), if_neg (by omega), if_neg (by omega)], c5 q⟩, ⟨xc, ac + n, ec, List.mem_append_right _ (List.mem_append_left _ (by simp)), by omega⟩, hcode⟩
end
