/-! the mathematics; written by wip/whole/m2parts.py -/
theorem nodup_split {G1 G2 : List Ent} {x a e : Nat} {t : Option Nat} (h : ((G1 ++ (x, a, e, t) :: G2).map (fun en => en.1)).Nodup) : ∀ en ∈ G1 ++ G2, ¬ en.1 = x := by
  intro en hen he
  rw [List.map_append, List.map_cons] at h
  obtain ⟨h1, h2, h3⟩ := List.nodup_append.mp h
  rcases List.mem_append.mp hen with hen | hen
  · exact h3 en.1 (List.mem_map.mpr ⟨en, hen, rfl⟩) x (List.mem_cons_self ..) he
  · exact (List.nodup_cons.mp h2).1 (List.mem_map.mpr ⟨en, hen, he⟩)
theorem inv_split {C C' R R' : zr_Z} {T : List Int32} {D : List (List Int32)} {k n u : Nat} {G G1 G2 P : List Ent} {live : List Nat} {rc : Nat} {bs : List (Nat × Nat × Nat × Nat)} {nl pl it x a e r i a1 e1 b1 b2 : Nat}
    (h : INV0 C R T D k u G live rc bs nl pl it) (hku : k ≤ u) (hG : G = G1 ++ (x, a, e, some r) :: G2) (hi : live[i]? = some r) (hn : 1 ≤ n) (hae : e1 - a1 + n = e - a) (h1 : a ≤ a1) (h2 : a1 ≤ e1) (h3 : e1 ≤ e)
    (hP : P = [(x, a1, e1, some r), (it + 1, b1, b2, none)] ∨ P = [(it + 1, b1, b2, none), (x, a1, e1, some r)])
    (hSG : SG C' R' T a P e) (hmk : ∀ q, ¬ (a ≤ q ∧ q < e ∧ ¬ (a1 ≤ q ∧ q < e1)) → kd C' q = kd C q ∧ vl C' q = vl C q) (hno : ∀ q, a ≤ q → q < e → ¬ (kd C' q = 6 ∨ kd C' q = 7))
    (hC : (∀ id, ¬ id = 66 → ¬ id = 95 → ¬ id = 97 → C'.1 id = C.1 id) ∧ zc C' 1 = zc C 1 ∧ (C'.1 66).length = (C.1 66).length ∧ (C'.1 95).length = (C.1 95).length ∧ (C'.1 97).length = (C.1 97).length ∧ (∀ j, ldq C' 95 j = if j = i then nI a1 else ldq C 95 j) ∧ (∀ j, ldq C' 97 j = if j = i then nI e1 else ldq C 97 j))
    (hR : (∀ j, (j < 143 ∨ 151 < j) → ¬ j = 154 → ∀ i, rv R' j i = rv R j i) ∧ (∀ j, 143 ≤ j → j ≤ 149 → ∀ x, x ≤ it → rv R' j x = rv R j x) ∧ (∀ i, rv R' 154 i = if i = r then nI (e1 - a1) else rv R 154 i) ∧ (∀ f ∈ [3, 7, 10, 28, 35, 36], zf R' f = zf R f))
    (hy : rv R' 143 (it + 1) = 4 ∨ rv R' 143 (it + 1) = 5 ∨ rv R' 143 (it + 1) = 12) (hw : ows (rtok R' (it + 1) none) ≤ 12 * n)
    (hch : chn R' 0 ((G1 ++ (P ++ G2)).map (fun en => en.1))) (h20 : zf R' 20 = nI (it + 1)) (hnb : NB R' (G1 ++ (P ++ G2)) k u) (hz : IZ1 R' (it + 1)) :
    INV0 C' R' T D k u (G1 ++ (P ++ G2)) live rc bs nl pl (it + 1) := by
  obtain ⟨hIT, hIS, hIR, hIB, hIL, hIP, hIW⟩ := h
  obtain ⟨s1, s2, s3, s4, s5, s6, s7, s8, s9, s10⟩ := hIS
  obtain ⟨r1, r2, r3, r4, r5, r6, r7, r8⟩ := hIR
  have hx : x ≤ it := s9 (x, a, e, some r) (by rw [hG]; simp)
  have hmem : (x, a, e, some r) ∈ G := by rw [hG]; simp
  have hrr := r6 x a e r hmem
  have hlo : ∀ id j, ¬ id = 66 → ¬ id = 95 → ¬ id = 97 → ldq C' id j = ldq C id j := fun id j h1 h2 h3 => by unfold ldq; rw [hC.1 id h1 h2 h3]
  have hoth : ∀ en ∈ G1 ++ G2, en ∈ G := by
    intro en hen; rw [hG]
    rcases List.mem_append.mp hen with h | h
    · exact List.mem_append_left _ h
    · exact List.mem_append_right _ (List.mem_cons_of_mem _ h)
  have hnx : ∀ en ∈ G1 ++ G2, ¬ en.1 = x := by
    have := (List.nodup_cons.mp s7).2
    rw [hG] at this
    exact nodup_split this
  have hin : ∀ en ∈ G1 ++ (P ++ G2), en ∈ G1 ++ G2 ∨ en = (x, a1, e1, some r) ∨ en = (it + 1, b1, b2, none) := by
    intro en hen
    rcases List.mem_append.mp hen with h | h
    · exact Or.inl (List.mem_append_left _ h)
    · rcases List.mem_append.mp h with h | h
      · rcases hP with hP | hP <;> rw [hP] at h <;> simp only [List.mem_cons, List.not_mem_nil, or_false] at h <;> rcases h with h | h
        · exact Or.inr (Or.inl h)
        · exact Or.inr (Or.inr h)
        · exact Or.inr (Or.inr h)
        · exact Or.inr (Or.inl h)
      · exact Or.inl (List.mem_append_right _ h)
  have hinr : ∀ en, en ∈ G1 ++ G2 → en ∈ G1 ++ (P ++ G2) := by
    intro en hen
    rcases List.mem_append.mp hen with h | h
    · exact List.mem_append_left _ h
    · exact List.mem_append_right _ (List.mem_append_right _ h)
  have hrin : (x, a1, e1, some r) ∈ G1 ++ (P ++ G2) := by
    refine List.mem_append_right _ (List.mem_append_left _ ?_)
    rcases hP with hP | hP <;> rw [hP] <;> simp
  have hsp : ∀ en ∈ G, en ∈ G1 ++ G2 ∨ en = (x, a, e, some r) := by
    intro en hen; rw [hG] at hen
    rcases List.mem_append.mp hen with h | h
    · exact Or.inl (List.mem_append_left _ h)
    · rcases List.mem_cons.mp h with h | h
      · exact Or.inr h
      · exact Or.inl (List.mem_append_right _ h)
  have hrne : ∀ en ∈ G1 ++ G2, ¬ en.2.2.2 = some r := by
    intro en hen he
    have hnd : (G.filterMap (fun en => en.2.2.2)).Nodup := by rw [r5]; exact List.nodup_range
    rw [hG, List.filterMap_append, List.filterMap_cons] at hnd
    dsimp only at hnd
    obtain ⟨n1, n2, n3⟩ := List.nodup_append.mp hnd
    rcases List.mem_append.mp hen with h | h
    · exact n3 r (List.mem_filterMap.mpr ⟨en, h, he⟩) r (List.mem_cons_self ..) rfl
    · exact (List.nodup_cons.mp n2).1 (List.mem_filterMap.mpr ⟨en, h, he⟩)
  have hkk : ∀ j, 143 ≤ j → j ≤ 149 → ∀ en ∈ G1 ++ G2, rv R' j en.1 = rv R j en.1 := fun j h1 h2 en hen => hR.2.1 j h1 h2 _ (s9 en (hoth en hen))
  have hrt : ∀ en ∈ G1 ++ G2, rtok R' en.1 en.2.2.2 = rtok R en.1 en.2.2.2 := by
    intro en hen
    have hx' := s9 _ (hoth en hen)
    have hne := hrne en hen
    obtain ⟨x', a', e', t⟩ := en
    dsimp only at hx' hne ⊢
    cases t with
    | some r' =>
      show List.replicate (rvn R' 154 r') _ = List.replicate (rvn R 154 r') _
      rw [hR.2.1 144 (by omega) (by omega) x' hx', show rvn R' 154 r' = rvn R 154 r' from congrArg Int32.toNatClampNeg ((hR.2.2.1 r').trans (if_neg (fun h => hne (by rw [h]))))]
    | none =>
      have en : ∀ j, 143 ≤ j → j ≤ 149 → rvn R' j x' = rvn R j x' := fun j h1 h2 => congrArg Int32.toNatClampNeg (hR.2.1 j h1 h2 x' hx')
      unfold rtok
      dsimp only
      rw [hR.2.1 143 (by omega) (by omega) x' hx', hR.2.1 144 (by omega) (by omega) x' hx', hR.2.1 149 (by omega) (by omega) x' hx', en 145 (by omega) (by omega), en 146 (by omega) (by omega), en 147 (by omega) (by omega), en 148 (by omega) (by omega), rsl_all (hR.1 142 (by omega) (by omega)), rsl_all (hR.1 142 (by omega) (by omega))]
  have hkd : ∀ q, ¬ (a ≤ q ∧ q < e) → kd C' q = kd C q ∧ vl C' q = vl C q := fun q hq => hmk q (fun h => hq ⟨h.1, h.2.1⟩)
  have hct : ∀ q, ¬ (a ≤ q ∧ q < e) → ctok C' T q = ctok C T q := fun q hq => by
    have := hkd q hq
    unfold ctok ldT ldU
    rw [this.1, this.2, hlo 72 _ (by decide) (by decide) (by decide), hlo 70 _ (by decide) (by decide) (by decide), hlo 74 _ (by decide) (by decide) (by decide), hlo 76 _ (by decide) (by decide) (by decide), hlo 78 _ (by decide) (by decide) (by decide), hlo 80 _ (by decide) (by decide) (by decide)]
  rw [hG] at s5
  obtain ⟨m, sg1, sg2⟩ := (SG_app _ _ _ _).mp s5
  obtain ⟨t1, t2, t3, t4⟩ := sg2
  dsimp only at t1 t2 t3 t4
  subst t1
  have hek := SG_le _ _ _ t4
  have hPids : P.map (fun en => en.1) = [x, it + 1] ∨ P.map (fun en => en.1) = [it + 1, x] := by
    rcases hP with hP | hP <;> rw [hP]
    · exact Or.inl rfl
    · exact Or.inr rfl
  have hnewno : rtok R' (it + 1) none = [tk0 4] ∨ rtok R' (it + 1) none = [tk0 5] ∨ rtok R' (it + 1) none = [tk0 9] := by
    unfold rtok
    rcases hy with h | h | h <;> rw [h]
    · exact Or.inl rfl
    · exact Or.inr (Or.inl rfl)
    · exact Or.inr (Or.inr rfl)
  have hlw0 : lws (rtok R' (it + 1) none) = 0 := by rcases hnewno with h | h | h <;> rw [h] <;> rfl
  have hrtx : rtok R' x (some r) = List.replicate (e1 - a1) (tkc (rv R 144 x)) := by
    show List.replicate (rvn R' 154 r) (tkc (rv R' 144 x)) = _
    rw [hR.2.1 144 (by omega) (by omega) x hx, show rvn R' 154 r = e1 - a1 from by
      unfold rvn; rw [show R'.2.2.1 154 r = nI (e1 - a1) from (hR.2.2.1 r).trans (if_pos rfl), nI_clamp (by have := hIT.2.2.1.1; omega)]]
  have hrtx0 : rtok R x (some r) = List.replicate (e - a) (tkc (rv R 144 x)) := by
    show List.replicate (rvn R 154 r) (tkc (rv R 144 x)) = _
    rw [show rvn R 154 r = e - a from by
      unfold rvn; rw [show R.2.2.1 154 r = nI (e - a) from hrr.2.2.1, nI_clamp (by have := hIT.2.2.1.1; omega)]]
  have hsumP : ∀ f : Ent → Nat, sumE f P = f (x, a1, e1, some r) + f (it + 1, b1, b2, none) := by
    intro f; rcases hP with hP | hP <;> rw [hP, sumE_cons, sumE_cons, sumE_nil] <;> omega
  refine ⟨?_, ⟨hC.2.2.1.trans s1, by rw [hC.1 68 (by decide) (by decide) (by decide)]; exact s2, s3, fun q q1 q2 => ?_, ?_, hch, ?_, h20, ?_, ?_⟩, ⟨?_, r2, r3, (hR.2.2.2 28 (by decide)).trans r4, ?_, ?_, ?_, ?_⟩, ?_, ?_, ?_, ⟨?_, ?_⟩⟩
  · obtain ⟨h1, h2, h3, h4, h5⟩ := hIT
    obtain ⟨d1, d2, d3, d4, d5, d6, d7⟩ := h5
    refine ⟨(hC.1 61 (by decide) (by decide) (by decide)).trans h1, ⟨(hR.2.2.2 3 (by decide)).trans h2.1, fun i hi => (hR.1 137 (by omega) (by omega) i).trans (h2.2 i hi)⟩, h3, fun i hi => (hR.1 173 (by omega) (by omega) i).trans (h4 i hi), d1, d2, (hC.1 83 (by decide) (by decide) (by decide)).trans d3, (hC.1 85 (by decide) (by decide) (by decide)).trans d4, (hR.2.2.2 7 (by decide)).trans d5, fun d hd => ?_, fun d k hd hk => ?_⟩
    · rw [hR.1 140 (by omega) (by omega)]; exact d6 d hd
    · rw [hR.1 139 (by omega) (by omega)]; exact d7 d k hd hk
  · have := hkd q (by omega); rw [this.1, this.2]; exact s4 q q1 q2
  · rw [SG_app]
    refine ⟨a, SG_cong G1 0 a sg1 (fun p _ hp => hct p (by omega)) (fun en hen => hrt en (List.mem_append_left _ hen)), ?_⟩
    rw [SG_app]
    exact ⟨e, hSG, SG_cong G2 e k t4 (fun p hp _ => hct p (by omega)) (fun en hen => hrt en (List.mem_append_right _ hen))⟩
  · -- the ids are different
    have hperm : (0 :: ((G1 ++ (P ++ G2)).map (fun en => en.1))).Perm ((it + 1) :: (0 :: G.map (fun en => en.1))) := by
      rw [hG]
      simp only [List.map_append, List.map_cons]
      rcases hPids with hp | hp <;> rw [hp]
      · refine List.Perm.trans ?_ (List.Perm.swap ..)
        refine List.Perm.cons 0 ?_
        refine List.Perm.trans ?_ (List.perm_middle)
        refine List.Perm.append_left _ ?_
        exact List.Perm.swap ..
      · refine List.Perm.trans ?_ (List.Perm.swap ..)
        refine List.Perm.cons 0 ?_
        exact List.perm_middle
    rw [List.Perm.nodup_iff hperm, List.nodup_cons]
    refine ⟨fun hm => ?_, s7⟩
    rcases List.mem_cons.mp hm with h | h
    · omega
    · obtain ⟨en, hen, he⟩ := List.mem_map.mp h
      have := s9 en hen; omega
  · intro en hen
    rcases hin en hen with h | h | h
    · have := s9 en (hoth en h); omega
    · rw [h]; show x ≤ it + 1; omega
    · rw [h]; exact Nat.le_refl _
  · rw [sumE_app, sumE_app, hsumP]
    rw [hG, sumE_app, sumE_cons] at s10
    have g1 : gleft (x, a1, e1, some r) = e1 - a1 := rfl
    have g2 : gleft (it + 1, b1, b2, none) = 0 := rfl
    have g3 : gleft (x, a, e, some r) = e - a := rfl
    omega
  · intro id hid
    by_cases e95 : id = 95
    · rw [e95, hC.2.2.2.1]; exact r1 95 (by decide)
    · by_cases e97 : id = 97
      · rw [e97, hC.2.2.2.2.1]; exact r1 97 (by decide)
      · rw [hC.1 id (by rintro rfl; exact absurd hid (by decide)) e95 e97]; exact r1 id hid
  · rw [← r5, hG]
    simp only [List.filterMap_append, List.filterMap_cons]
    rcases hP with hP | hP <;> rw [hP] <;> rfl
  · intro x' a' e' r' hm
    rcases hin _ hm with h | h | h
    · obtain ⟨g1, g2, g3, g4, g5⟩ := r6 x' a' e' r' (hoth _ h)
      have hne : ¬ r' = r := fun hh => hrne _ h (by rw [hh])
      rw [hR.1 152 (by omega) (by omega), hR.1 155 (by omega) (by omega), hR.1 156 (by omega) (by omega), hR.2.2.1 r', if_neg hne, hR.2.1 143 (by omega) (by omega) x' (s9 _ (hoth _ h))]
      exact ⟨g1, g2, g3, g4, g5⟩
    · have q1 : x' = x := congrArg (fun z : Ent => z.1) h
      have q2 : a' = a1 := congrArg (fun z : Ent => z.2.1) h
      have q3 : e' = e1 := congrArg (fun z : Ent => z.2.2.1) h
      have q4 : r' = r := Option.some.inj (congrArg (fun z : Ent => z.2.2.2) h)
      rw [q1, q2, q3, q4]
      rw [hR.1 152 (by omega) (by omega), hR.1 155 (by omega) (by omega), hR.1 156 (by omega) (by omega), hR.2.2.1 r, if_pos rfl, hR.2.1 143 (by omega) (by omega) x hx]
      exact ⟨hrr.1, hrr.2.1, rfl, hrr.2.2.2.1, hrr.2.2.2.2⟩
    · exact absurd (congrArg (fun z : Ent => z.2.2.2) h) (by simp)
  · intro r' hr' hl; rw [hR.1 157 (by omega) (by omega)]; exact r7 r' hr' hl
  · intro j r' hjr
    obtain ⟨x', a', e', g1, g2, g3, g4, g5, g6, g7, g8⟩ := r8 j r' hjr
    by_cases hj : j = i
    · subst hj
      obtain rfl : r = r' := Option.some.inj (hi.symm.trans hjr)
      rcases hsp _ g1 with h | h
      · exact absurd rfl (hrne _ h)
      · have q1 : x' = x := congrArg (fun z : Ent => z.1) h
        have q2 : a' = a := congrArg (fun z : Ent => z.2.1) h
        have q3 : e' = e := congrArg (fun z : Ent => z.2.2.1) h
        rw [q1] at g2 g8
        rw [q2, q3] at g8
        refine ⟨x, a1, e1, hrin, ?_, ?_, ?_, ?_, ?_, ?_, fun q q1 q2 => ?_⟩
        · rw [hlo 91 _ (by decide) (by decide) (by decide), hR.2.1 144 (by omega) (by omega) x hx]; exact g2
        · rw [hlo 93 _ (by decide) (by decide) (by decide), hR.1 153 (by omega) (by omega)]; exact g3
        · rw [hC.2.2.2.2.2.1, if_pos rfl]
        · rw [hC.2.2.2.2.2.2, if_pos rfl]
        · rw [hlo 101 _ (by decide) (by decide) (by decide), hR.1 156 (by omega) (by omega)]; exact g6
        · rw [hlo 99 _ (by decide) (by decide) (by decide), hR.1 157 (by omega) (by omega), hR.1 155 (by omega) (by omega)]; exact g7
        · have := hmk q (fun h => h.2.2 ⟨q1, q2⟩)
          rw [this.1, this.2, hR.2.1 144 (by omega) (by omega) x hx]; exact g8 q (by omega) (by omega)
    · have hrr' : ¬ r' = r := by
        rintro rfl
        have hlt : i < live.length := (List.getElem?_eq_some_iff.mp hi).1
        have hlt2 : j < live.length := (List.getElem?_eq_some_iff.mp hjr).1
        have e1 := (List.getElem?_eq_some_iff.mp hi).2
        have e2 := (List.getElem?_eq_some_iff.mp hjr).2
        rcases Nat.lt_or_gt_of_ne hj with hl | hl
        · have := List.pairwise_iff_getElem.mp r2 j i hlt2 hlt hl
          omega
        · have := List.pairwise_iff_getElem.mp r2 i j hlt hlt2 hl
          omega
      rcases hsp _ g1 with h | h
      · have hx' := s9 _ g1
        have hout : ∀ q, a' ≤ q → q < e' → ¬ (a ≤ q ∧ q < e) := by
          intro q q1 q2 q3
          rcases List.mem_append.mp h with h | h
          · have := (SG_mem G1 0 a sg1 _ h).2.2
            dsimp only at this; omega
          · have := (SG_mem G2 e k t4 _ h).1
            dsimp only at this; omega
        refine ⟨x', a', e', hinr _ h, ?_, ?_, ?_, ?_, ?_, ?_, fun q q1 q2 => ?_⟩
        · rw [hlo 91 _ (by decide) (by decide) (by decide), hR.2.1 144 (by omega) (by omega) x' hx']; exact g2
        · rw [hlo 93 _ (by decide) (by decide) (by decide), hR.1 153 (by omega) (by omega)]; exact g3
        · rw [hC.2.2.2.2.2.1, if_neg hj]; exact g4
        · rw [hC.2.2.2.2.2.2, if_neg hj]; exact g5
        · rw [hlo 101 _ (by decide) (by decide) (by decide), hR.1 156 (by omega) (by omega)]; exact g6
        · rw [hlo 99 _ (by decide) (by decide) (by decide), hR.1 157 (by omega) (by omega), hR.1 155 (by omega) (by omega)]; exact g7
        · have := hkd q (hout q q1 q2)
          rw [this.1, this.2, hR.2.1 144 (by omega) (by omega) x' hx']; exact g8 q q1 q2
      · exact absurd (Option.some.inj (congrArg (fun z : Ent => z.2.2.2) h)) hrr'
  · obtain ⟨h1, h2, h3, h4, ⟨m, hm, hm'⟩, h6, h7⟩ := hIB
    refine ⟨fun id hid => by rw [hC.1 id (by rintro rfl; exact absurd hid (by decide)) (by rintro rfl; exact absurd hid (by decide)) (by rintro rfl; exact absurd hid (by decide))]; exact h1 id hid, (hR.2.2.2 35 (by decide)).trans h2, h3, by rw [hC.2.1, hR.2.2.2 36 (by decide)]; exact h4, ⟨m, hm, hC.2.1.trans hm'⟩, fun b w hbw => ⟨?_, (h6 b w hbw).2⟩, h7⟩
    obtain ⟨g1, g2, g3, g4, g5, g6, g7, g8, g9, g10, g11, g12, g13, g14⟩ := (h6 b w hbw).1
    have hx' : w.1 ≤ it := s9 _ g1
    have hin' : (w.1, w.2.1, w.2.1 + 1 + w.2.2.1, none) ∈ G1 ++ (P ++ G2) := by
      rcases hsp _ g1 with h | h
      · exact hinr _ h
      · exact absurd (congrArg (fun z : Ent => z.2.2.2) h) (by simp)
    refine ⟨hin', g2, by rw [hR.2.1 143 (by omega) (by omega) _ hx']; exact g3, by rw [hR.2.1 144 (by omega) (by omega) _ hx']; exact g4, by rw [hR.1 158 (by omega) (by omega)]; exact g5, by rw [hR.1 159 (by omega) (by omega)]; exact g6, by rw [hR.1 160 (by omega) (by omega)]; exact g7, ?_, by rw [hR.1 162 (by omega) (by omega)]; exact g9, ?_, ?_, ?_, ?_, ?_⟩
    · rw [hR.1 161 (by omega) (by omega), hlo 112 _ (by decide) (by decide) (by decide)]; exact g8
    · rw [hR.1 163 (by omega) (by omega), hlo 108 _ (by decide) (by decide) (by decide)]; exact g10
    · rw [hlo 108 _ (by decide) (by decide) (by decide)]; exact g11
    · rw [hlo 104 _ (by decide) (by decide) (by decide)]; exact g12
    · rw [hlo 106 _ (by decide) (by decide) (by decide)]; exact g13
    · rw [hlo 110 _ (by decide) (by decide) (by decide)]; exact g14
  · obtain ⟨h1, h2, h3, h4⟩ := hIL
    refine ⟨fun id hid => by rw [hC.1 id (by rintro rfl; exact absurd hid (by decide)) (by rintro rfl; exact absurd hid (by decide)) (by rintro rfl; exact absurd hid (by decide))]; exact h1 id hid, h2, fun i hi => ?_, fun q hq => ?_⟩
    · have := h3 i hi
      unfold LD1 at this ⊢
      rw [hlo 70 _ (by decide) (by decide) (by decide), hlo 74 _ (by decide) (by decide) (by decide), hlo 76 _ (by decide) (by decide) (by decide), hlo 78 _ (by decide) (by decide) (by decide), hlo 80 _ (by decide) (by decide) (by decide)]; exact this
    · by_cases hq' : a ≤ q ∧ q < e
      · exact absurd hq (hno q hq'.1 hq'.2)
      · have := hkd q hq'
        rw [this.1] at hq; rw [this.2]; exact h4 q hq
  · obtain ⟨h1, h2, h3⟩ := hIP
    refine ⟨(hR.2.2.2 10 (by decide)).trans h1, h2, fun en hen ht hkk' => ?_, fun en hen ht hkk' => ?_⟩
    · rcases hin en hen with h | h | h
      · rw [hkk 143 (by omega) (by omega) en h] at hkk'
        have e : ∀ j, 143 ≤ j → j ≤ 149 → rvn R' j en.1 = rvn R j en.1 := fun j h1 h2 => congrArg Int32.toNatClampNeg (hkk j h1 h2 en h)
        rw [e 145 (by omega) (by omega), e 146 (by omega) (by omega), e 147 (by omega) (by omega), e 148 (by omega) (by omega)]; exact h3.1 en (hoth en h) ht hkk'
      · rw [h] at ht; exact absurd ht (by simp)
      · rw [h] at hkk'
        dsimp only at hkk'
        rcases hy with g | g | g <;> rw [g] at hkk' <;> exact absurd hkk' (by decide)
    · rcases hin en hen with h | h | h
      · rw [hkk 143 (by omega) (by omega) en h] at hkk'
        have e : ∀ j, 143 ≤ j → j ≤ 149 → rvn R' j en.1 = rvn R j en.1 := fun j h1 h2 => congrArg Int32.toNatClampNeg (hkk j h1 h2 en h)
        rw [e 145 (by omega) (by omega), e 146 (by omega) (by omega), e 147 (by omega) (by omega), e 148 (by omega) (by omega)]; exact h3.2 en (hoth en h) ht hkk'
      · rw [h] at ht; exact absurd ht (by simp)
      · rw [h] at hkk'
        dsimp only at hkk'
        rcases hy with g | g | g <;> rw [g] at hkk' <;> exact absurd hkk' (by decide)
  · have := hIW.1
    rw [hG, sumE_app, sumE_cons] at this
    rw [sumE_app, sumE_app, hsumP, sumE_cong G1 (fun en hen => by show lws (rtok R' en.1 en.2.2.2) = lws (rtok R en.1 en.2.2.2); rw [hrt en (List.mem_append_left _ hen)]), sumE_cong G2 (fun en hen => by show lws (rtok R' en.1 en.2.2.2) = lws (rtok R en.1 en.2.2.2); rw [hrt en (List.mem_append_right _ hen)])]
    dsimp only at this ⊢
    rw [hrtx0, lws_rep] at this
    rw [hrtx, lws_rep, hlw0]
    omega
  · refine ⟨?_, hnb, fun en hen ht => by
      rcases hin en hen with h | h | h
      · exact IZ1_cong (hIW.2.2.2 en (hoth en h) ht) (fun j j1 j2 => hkk j j1 j2 en h)
      · rw [h] at ht; exact absurd ht (by simp)
      · rw [h]; exact hz⟩
    have := hIW.2.1
    rw [hG, sumE_app, sumE_cons] at this
    have hew : ∀ en ∈ G1 ++ G2, ew R' en = ew R en := by
      intro en hen
      unfold ew
      rw [hkk 143 (by omega) (by omega) en hen]
      by_cases hc : en.2.2.2 = none ∧ ¬ rv R 143 en.1 = 11
      · rw [if_pos hc, if_pos hc]
        have := hrt en hen
        rw [hc.1] at this; rw [this]
      · rw [if_neg hc, if_neg hc]
    rw [sumE_app, sumE_app, hsumP, sumE_cong (g := ew R) G1 (fun en hen => hew en (List.mem_append_left _ hen)), sumE_cong (g := ew R) G2 (fun en hen => hew en (List.mem_append_right _ hen))]
    have e1' : ew R' (x, a1, e1, some r) = 12 * (e1 - a1) := by unfold ew; rw [if_neg (by simp)]
    have e2' : ew R (x, a, e, some r) = 12 * (e - a) := by unfold ew; rw [if_neg (by simp)]
    have e3' : ew R' (it + 1, b1, b2, none) = ows (rtok R' (it + 1) none) := by
      unfold ew; rw [if_pos]
      refine ⟨rfl, ?_⟩
      show ¬ rv R' 143 (it + 1) = 11
      rcases hy with g | g | g <;> rw [g] <;> decide
    rw [e1', e3']
    rw [e2'] at this
    omega
