/-! the mathematics; written by wip/whole/m2parts.py -/
theorem getD_app_l {l m : List Int32} {i : Nat} (h : i < l.length) : (l ++ m).getD i (-1) = l.getD i (-1) := by
  rw [List.getD_eq_getElem?_getD, List.getElem?_append_left h, List.getD_eq_getElem?_getD]
theorem getD_app_r {l : List Int32} {c : Int32} {n : Nat} (h : l.length = n) : (l ++ [c]).getD n (-1) = c := by
  rw [List.getD_eq_getElem?_getD, List.getElem?_append_right (by omega), h, Nat.sub_self]; rfl
theorem lws_rep (n : Nat) (c : Int32) : lws (List.replicate n (tkc c)) = n := by
  induction n with
  | zero => rfl
  | succ n ih => rw [List.replicate_succ]; unfold lws at *; rw [List.map_cons, List.sum_cons, ih]; show 1 + n = n + 1; omega
theorem ctk_rep {C : zr_Z} {T : List Int32} {c : Int32} : ∀ n a, (∀ q, a ≤ q → q < a + n → kd C q = 0 ∧ vl C q = c) → ctk C T a n = List.replicate n (tkc c) := by
  intro n
  induction n with
  | zero => intro a _; rfl
  | succ n ih =>
    intro a h
    have := h a (Nat.le_refl _) (by omega)
    rw [ctk, ih (a + 1) (fun q h1 h2 => h q (by omega) (by omega)), List.replicate_succ]
    unfold ctok; rw [this.1, if_neg (by decide), if_pos rfl, this.2]; rfl
theorem fm_lt {G : List Ent} {rc x a e r : Nat} (h : G.filterMap (fun en => en.2.2.2) = List.range rc) (hm : (x, a, e, some r) ∈ G) : r < rc := by
  have : r ∈ G.filterMap (fun en => en.2.2.2) := List.mem_filterMap.mpr ⟨_, hm, rfl⟩
  rw [h] at this; exact List.mem_range.mp this
theorem inv_run {C C' R R' : zr_Z} {T : List Int32} {D : List (List Int32)} {k n : Nat} {G : List Ent} {live : List Nat} {rc : Nat} {bs : List (Nat × Nat × Nat × Nat)} {nl pl it : Nat} {c : Int32} {o cl : Bool}
    (h : INV C R T D k G live rc bs nl pl it) (hn : 1 ≤ n) (hk' : k + n ≤ T.length) (hc : ∀ q, k ≤ q → q < k + n → mA T q = c)
    (hC : (∀ id, ¬ id ∈ [91, 93, 95, 97, 99, 101] → C'.1 id = C.1 id) ∧ zc C' 1 = zc C 1 ∧ C'.1 91 = C.1 91 ++ [c] ∧ C'.1 93 = C.1 93 ++ [nI n] ∧ C'.1 95 = C.1 95 ++ [nI k] ∧ C'.1 97 = C.1 97 ++ [nI (k + n)] ∧ C'.1 99 = C.1 99 ++ [bI o] ∧ C'.1 101 = C.1 101 ++ [bI cl])
    (hR : (∀ j, (j < 142 ∨ 157 < j ∨ j = 142) → ∀ i, rv R' j i = rv R j i) ∧ (∀ j, 143 ≤ j → j ≤ 149 → ∀ x, x ≤ it → rv R' j x = rv R j x) ∧ (∀ j, 152 ≤ j → j ≤ 157 → ∀ i, ¬ i = rc → rv R' j i = rv R j i) ∧ (∀ f ∈ [3, 7, 10, 35, 36], zf R' f = zf R f))
    (hN : rv R' 152 rc = nI (it + 1) ∧ rv R' 153 rc = nI n ∧ rv R' 154 rc = nI n ∧ rv R' 155 rc = bI o ∧ rv R' 156 rc = bI cl ∧ rv R' 157 rc = 0 ∧ rv R' 143 (it + 1) = 10 ∧ rv R' 144 (it + 1) = c)
    (hch : chn R' 0 (G.map (fun en => en.1) ++ [it + 1])) (h20 : zf R' 20 = nI (it + 1)) (h28 : zf R' 28 = nI (rc + 1)) (hX : ¬ c = 32) :
    INV C' R' T D (k + n) (G ++ [(it + 1, k, k + n, some rc)]) (live ++ [rc]) (rc + 1) bs nl pl (it + 1) := by
  obtain ⟨hIT, hIS, hIR, hIB, hIL, hIP, hIW, hIX⟩ := h
  obtain ⟨s1, s2, s3, s4, s5, s6, s7, s8, s9, s10⟩ := hIS
  obtain ⟨r1, r2, r3, r4, r5, r6, r7, r8⟩ := hIR
  have hgt := hIT.2.2.1.1
  have hkd : ∀ q, kd C' q = kd C q := fun q => by unfold kd; rw [hC.1 66 (by decide)]
  have hvl : ∀ q, vl C' q = vl C q := fun q => by unfold vl; rw [hC.1 68 (by decide)]
  have hlo : ∀ id i, ¬ id ∈ [91, 93, 95, 97, 99, 101] → ldq C' id i = ldq C id i := fun id i hid => by unfold ldq; rw [hC.1 id hid]
  have hct : ∀ q, ctok C' T q = ctok C T q := fun q => by
    unfold ctok ldT ldU
    rw [hkd, hvl, hlo 72 _ (by decide), hlo 70 _ (by decide), hlo 74 _ (by decide), hlo 76 _ (by decide), hlo 78 _ (by decide), hlo 80 _ (by decide)]
  have hkk : ∀ j, 143 ≤ j → j ≤ 149 → ∀ en ∈ G, rv R' j en.1 = rv R j en.1 := fun j h1 h2 en hen => hR.2.1 j h1 h2 _ (s9 en hen)
  have hrt : ∀ en ∈ G, rtok R' en.1 en.2.2.2 = rtok R en.1 en.2.2.2 := by
    intro en hen
    obtain ⟨x, a, e, t⟩ := en
    have hx := s9 _ hen
    dsimp only at hx ⊢
    cases t with
    | some r =>
      have hr := fm_lt r5 hen
      show List.replicate (rvn R' 154 r) _ = List.replicate (rvn R 154 r) _
      rw [hR.2.1 144 (by omega) (by omega) x hx, show rvn R' 154 r = rvn R 154 r from congrArg Int32.toNatClampNeg (hR.2.2.1 154 (by omega) (by omega) r (by omega))]
    | none =>
      have en : ∀ j, 143 ≤ j → j ≤ 149 → rvn R' j x = rvn R j x := fun j h1 h2 => congrArg Int32.toNatClampNeg (hR.2.1 j h1 h2 x hx)
      unfold rtok
      dsimp only
      rw [hR.2.1 143 (by omega) (by omega) x hx, hR.2.1 144 (by omega) (by omega) x hx, hR.2.1 149 (by omega) (by omega) x hx, en 145 (by omega) (by omega), en 146 (by omega) (by omega), en 147 (by omega) (by omega), en 148 (by omega) (by omega), rsl_all (hR.1 142 (by omega)), rsl_all (hR.1 142 (by omega))]
  have hnew : rtok R' (it + 1) (some rc) = List.replicate n (tkc c) := by
    show List.replicate (rvn R' 154 rc) (tkc (rv R' 144 (it + 1))) = _
    rw [hN.2.2.2.2.2.2.2, show rvn R' 154 rc = n from by unfold rvn; rw [show R'.2.2.1 154 rc = nI n from hN.2.2.1, nI_clamp (by omega)]]
  refine ⟨?_, ⟨by rw [hC.1 66 (by decide)]; exact s1, by rw [hC.1 68 (by decide)]; exact s2, hk', fun q q1 q2 => by rw [hkd, hvl]; exact s4 q (by omega) q2, ?_, ?_, ?_, h20, ?_, ?_⟩, ⟨?_, ?_, ?_, h28, ?_, ?_, ?_, ?_⟩, ?_, ?_, ?_, ?_, ?_⟩
  · obtain ⟨h1, h2, h3, h4, h5⟩ := hIT
    obtain ⟨d1, d2, d3, d4, d5, d6, d7⟩ := h5
    refine ⟨(hC.1 61 (by decide)).trans h1, ⟨(hR.2.2.2 3 (by decide)).trans h2.1, fun i hi => (hR.1 137 (by omega) i).trans (h2.2 i hi)⟩, h3, fun i hi => (hR.1 173 (by omega) i).trans (h4 i hi), d1, d2, (hC.1 83 (by decide)).trans d3, (hC.1 85 (by decide)).trans d4, (hR.2.2.2 7 (by decide)).trans d5, fun d hd => ?_, fun d k hd hk => ?_⟩
    · rw [hR.1 140 (by omega)]; exact d6 d hd
    · rw [hR.1 139 (by omega)]; exact d7 d k hd hk
  · rw [SG_app]
    refine ⟨k, SG_cong G 0 k s5 (fun p _ _ => hct p) hrt, SG_one (by omega) ?_⟩
    rw [hnew, show k + n - k = n by omega]
    refine ctk_rep _ _ (fun q q1 q2 => ?_)
    rw [hkd, hvl]
    have := s4 q q1 (by omega)
    exact ⟨this.1, this.2.trans (hc q q1 q2)⟩
  · rw [List.map_append]; exact hch
  · rw [List.map_append, ← List.cons_append, List.nodup_append]
    refine ⟨s7, by simp, fun a ha b hb => ?_⟩
    rw [List.map_cons, List.map_nil, List.mem_singleton] at hb
    subst hb
    rcases List.mem_cons.mp ha with rfl | ha
    · omega
    · obtain ⟨en, hen, rfl⟩ := List.mem_map.mp ha
      have := s9 en hen; omega
  · intro en hen
    rcases List.mem_append.mp hen with hen | hen
    · have := s9 en hen; omega
    · rw [List.mem_singleton] at hen; subst hen; exact Nat.le_refl _
  · rw [sumE_snoc]
    have : gleft (it + 1, k, k + n, some rc) = n := by unfold gleft; rw [if_neg (by simp)]; show k + n - k = n; omega
    omega
  · intro id hid
    rw [List.length_append]
    have hlen := r1 id hid
    simp only [List.mem_cons, List.not_mem_nil, or_false] at hid
    rcases hid with rfl | rfl | rfl | rfl | rfl | rfl
    · rw [hC.2.2.1, List.length_append, hlen]; rfl
    · rw [hC.2.2.2.1, List.length_append, hlen]; rfl
    · rw [hC.2.2.2.2.1, List.length_append, hlen]; rfl
    · rw [hC.2.2.2.2.2.1, List.length_append, hlen]; rfl
    · rw [hC.2.2.2.2.2.2.1, List.length_append, hlen]; rfl
    · rw [hC.2.2.2.2.2.2.2, List.length_append, hlen]; rfl
  · rw [List.pairwise_append]
    exact ⟨r2, by simp, fun a ha b hb => by rw [List.mem_singleton] at hb; subst hb; exact r3 a ha⟩
  · intro r hr
    rcases List.mem_append.mp hr with hr | hr
    · have := r3 r hr; omega
    · rw [List.mem_singleton] at hr; omega
  · rw [List.filterMap_append, r5, List.range_succ]; rfl
  · intro x a e r hm
    rcases List.mem_append.mp hm with hm | hm
    · obtain ⟨g1, g2, g3, g4, g5⟩ := r6 x a e r hm
      have hr := fm_lt r5 hm
      have hx := s9 _ hm
      rw [hR.2.2.1 152 (by omega) (by omega) r (by omega), hR.2.2.1 154 (by omega) (by omega) r (by omega), hR.2.2.1 155 (by omega) (by omega) r (by omega), hR.2.2.1 156 (by omega) (by omega) r (by omega), hR.2.1 143 (by omega) (by omega) x hx]
      exact ⟨g1, g2, g3, g4, g5⟩
    · rw [List.mem_singleton] at hm
      obtain ⟨rfl, h2⟩ := Prod.mk.inj hm
      obtain ⟨rfl, h3⟩ := Prod.mk.inj h2
      obtain ⟨rfl, h4⟩ := Prod.mk.inj h3
      obtain rfl := Option.some.inj h4
      refine ⟨hN.1, hN.2.2.2.2.2.2.1, by rw [hN.2.2.1]; congr 1; omega, ?_, ?_⟩
      · rw [hN.2.2.2.1]; cases o
        · exact Or.inl rfl
        · exact Or.inr rfl
      · rw [hN.2.2.2.2.1]; cases cl
        · exact Or.inl rfl
        · exact Or.inr rfl
  · intro r hr hl
    rw [List.mem_append, not_or, List.mem_singleton] at hl
    rw [hR.2.2.1 157 (by omega) (by omega) r hl.2]; exact r7 r (by omega) hl.1
  · intro i r hir
    by_cases hi : i < live.length
    · rw [List.getElem?_append_left hi] at hir
      obtain ⟨x, a, e, g1, g2, g3, g4, g5, g6, g7, g8⟩ := r8 i r hir
      have hr := fm_lt r5 g1
      have hx := s9 _ g1
      have hd : ∀ id ∈ [91, 93, 95, 97, 99, 101], ∀ c', C'.1 id = C.1 id ++ [c'] → ldq C' id i = ldq C id i := fun id hid c' he => by
        unfold ldq; rw [he, getD_app_l (by rw [r1 id hid]; exact hi)]
      refine ⟨x, a, e, List.mem_append_left _ g1, ?_, ?_, ?_, ?_, ?_, ?_, fun q q1 q2 => ?_⟩
      · rw [hd 91 (by decide) _ hC.2.2.1, hR.2.1 144 (by omega) (by omega) x hx]; exact g2
      · rw [hd 93 (by decide) _ hC.2.2.2.1, hR.2.2.1 153 (by omega) (by omega) r (by omega)]; exact g3
      · rw [hd 95 (by decide) _ hC.2.2.2.2.1]; exact g4
      · rw [hd 97 (by decide) _ hC.2.2.2.2.2.1]; exact g5
      · rw [hd 101 (by decide) _ hC.2.2.2.2.2.2.2, hR.2.2.1 156 (by omega) (by omega) r (by omega)]; exact g6
      · rw [hd 99 (by decide) _ hC.2.2.2.2.2.2.1, hR.2.2.1 157 (by omega) (by omega) r (by omega), hR.2.2.1 155 (by omega) (by omega) r (by omega)]; exact g7
      · rw [hkd, hvl, hR.2.1 144 (by omega) (by omega) x hx]; exact g8 q q1 q2
    · have hi2 : i < (live ++ [rc]).length := (List.getElem?_eq_some_iff.mp hir).1
      rw [List.length_append] at hi2
      have hie : i = live.length := by simp only [List.length_cons, List.length_nil] at hi2; omega
      subst hie
      rw [List.getElem?_append_right (Nat.le_refl _), Nat.sub_self] at hir
      obtain rfl : rc = r := Option.some.inj hir
      have hd : ∀ id ∈ [91, 93, 95, 97, 99, 101], ∀ c', C'.1 id = C.1 id ++ [c'] → ldq C' id live.length = c' := fun id hid c' he => by
        unfold ldq; rw [he, getD_app_r (r1 id hid)]
      refine ⟨it + 1, k, k + n, List.mem_append_right _ (List.mem_singleton.mpr rfl), ?_, ?_, ?_, ?_, ?_, ?_, fun q q1 q2 => ?_⟩
      · rw [hd 91 (by decide) _ hC.2.2.1, hN.2.2.2.2.2.2.2]
      · rw [hd 93 (by decide) _ hC.2.2.2.1, hN.2.1]
      · rw [hd 95 (by decide) _ hC.2.2.2.2.1]
      · rw [hd 97 (by decide) _ hC.2.2.2.2.2.1]
      · rw [hd 101 (by decide) _ hC.2.2.2.2.2.2.2, hN.2.2.2.2.1]
      · rw [hd 99 (by decide) _ hC.2.2.2.2.2.2.1, hN.2.2.2.2.2.1, hN.2.2.2.1, if_pos rfl]
      · rw [hkd, hvl, hN.2.2.2.2.2.2.2]
        have := s4 q q1 (by omega)
        exact ⟨this.1, this.2.trans (hc q q1 q2)⟩
  · obtain ⟨h1, h2, h3, h4, ⟨m, hm, hm'⟩, h6, h7⟩ := hIB
    refine ⟨fun id hid => by rw [hC.1 id (by revert hid; revert id; decide)]; exact h1 id hid, (hR.2.2.2 35 (by decide)).trans h2, by omega, by rw [hC.2.1, hR.2.2.2 36 (by decide)]; exact h4, ⟨m, by omega, hC.2.1.trans hm'⟩, fun b w hbw => ⟨?_, by have := (h6 b w hbw).2; omega⟩, h7⟩
    obtain ⟨⟨g1, g2, g3, g4, g5, g6, g7, g8, g9, g10, g11, g12, g13, g14⟩, hra⟩ := h6 b w hbw
    have hx : w.1 ≤ it := s9 _ g1
    refine ⟨List.mem_append_left _ g1, g2, by rw [hR.2.1 143 (by omega) (by omega) _ hx]; exact g3, by rw [hR.2.1 144 (by omega) (by omega) _ hx]; exact g4, by rw [hR.1 158 (by omega)]; exact g5, by rw [hR.1 159 (by omega)]; exact g6, by rw [hR.1 160 (by omega)]; exact g7, ?_, by rw [hR.1 162 (by omega)]; exact g9, ?_, ?_, ?_, ?_, ?_⟩
    · rw [hR.1 161 (by omega), hlo 112 _ (by decide)]; exact g8
    · rw [hR.1 163 (by omega), hlo 108 _ (by decide)]; exact g10
    · rw [hlo 108 _ (by decide)]; exact g11
    · rw [hlo 104 _ (by decide)]; exact g12
    · rw [hlo 106 _ (by decide)]; exact g13
    · rw [hlo 110 _ (by decide), List.countP_append, g14]
      have : List.countP (fun r => decide (r < w.2.2.2)) [rc] = 0 := by
        rw [List.countP_cons, List.countP_nil, decide_eq_false (by omega)]; rfl
      rw [this]; rfl
  · obtain ⟨h1, h2, h3, h4⟩ := hIL
    refine ⟨fun id hid => by rw [hC.1 id (by revert hid; revert id; decide)]; exact h1 id hid, by omega, fun i hi => ?_, fun q hq => ?_⟩
    · have := h3 i hi
      unfold LD1 at this ⊢
      rw [hlo 70 _ (by decide), hlo 74 _ (by decide), hlo 76 _ (by decide), hlo 78 _ (by decide), hlo 80 _ (by decide)]; exact this
    · rw [hkd] at hq; rw [hvl]; exact h4 q hq
  · obtain ⟨h1, h2, h3⟩ := hIP
    refine ⟨(hR.2.2.2 10 (by decide)).trans h1, by omega, fun en hen ht hkk' => ?_, fun en hen ht hkk' => ?_⟩
    · rcases List.mem_append.mp hen with hen | hen
      · rw [hkk 143 (by omega) (by omega) en hen] at hkk'
        have e : ∀ j, 143 ≤ j → j ≤ 149 → rvn R' j en.1 = rvn R j en.1 := fun j h1 h2 => congrArg Int32.toNatClampNeg (hkk j h1 h2 en hen)
        rw [e 145 (by omega) (by omega), e 146 (by omega) (by omega), e 147 (by omega) (by omega), e 148 (by omega) (by omega)]; exact h3.1 en hen ht hkk'
      · rw [List.mem_singleton] at hen; subst hen; exact absurd ht (by simp)
    · rcases List.mem_append.mp hen with hen | hen
      · rw [hkk 143 (by omega) (by omega) en hen] at hkk'
        have e : ∀ j, 143 ≤ j → j ≤ 149 → rvn R' j en.1 = rvn R j en.1 := fun j h1 h2 => congrArg Int32.toNatClampNeg (hkk j h1 h2 en hen)
        rw [e 145 (by omega) (by omega), e 146 (by omega) (by omega), e 147 (by omega) (by omega), e 148 (by omega) (by omega)]; exact h3.2 en hen ht hkk'
      · rw [List.mem_singleton] at hen; subst hen; exact absurd ht (by simp)
  · obtain ⟨h1, h2, h3⟩ := hIW
    refine ⟨?_, ?_, NB_app h3.1 hrt (fun A B hA => ?_), fun en hen ht => ?_⟩
    rotate_right
    · rcases List.mem_append.mp hen with g | g
      · exact IZ1_cong (h3.2 en g ht) (fun j j1 j2 => hkk j j1 j2 en g)
      · rw [List.mem_singleton] at g; rw [g] at ht; exact absurd ht (by simp)
    rotate_right
    · cases A with
      | nil => exact Nat.zero_le _
      | cons e l =>
        cases l with
        | nil =>
          rw [List.cons_append] at hA
          injection hA with hA _
          rw [← hA, sumE_cons, sumE_nil]
          have : ecl R' (it + 1, k, k + n, some rc) = 0 := by
            unfold ecl; dsimp only; rw [hnew]; unfold ncl
            rw [List.map_replicate]
            show (List.replicate n (if (0 : Int32) = 9 then 1 else 0)).sum = 0
            rw [if_neg (by decide)]; simp
          omega
        | cons e' l => exact absurd (congrArg List.length hA) (by simp)
    · rw [sumE_snoc, sumE_cong G (fun en hen => by show lws (rtok R' en.1 en.2.2.2) = lws (rtok R en.1 en.2.2.2); rw [hrt en hen])]
      dsimp only
      rw [hnew, lws_rep]; omega
    · rw [sumE_snoc, sumE_cong (f := ew R') (g := ew R) G (fun en hen => by
        unfold ew
        rw [hkk 143 (by omega) (by omega) en hen]
        by_cases hc : en.2.2.2 = none ∧ ¬ rv R 143 en.1 = 11
        · rw [if_pos hc, if_pos hc]
          have := hrt en hen
          rw [hc.1] at this; rw [this]
        · rw [if_neg hc, if_neg hc])]
      have : ew R' (it + 1, k, k + n, some rc) = 12 * n := by
        unfold ew; rw [if_neg (by simp)]; show 12 * (k + n - k) = 12 * n; congr 1; omega
      omega
  · refine ⟨IX_none (by rw [hc (k + n - 1) (by omega) (by omega)]; exact hX), fun r hr => ?_, fun id hid => by rw [hC.1 id (by revert hid; revert id; decide)]; exact hIX.2.2 id hid⟩
    rcases List.mem_append.mp hr with hr | hr
    · have := r3 r hr
      rw [hR.2.2.1 157 (by omega) (by omega) r (by omega)]; exact hIX.2.1 r hr
    · rw [List.mem_singleton] at hr; rw [hr]; exact hN.2.2.2.2.2.1
theorem inv_brk {C C' R R' : zr_Z} {T : List Int32} {D : List (List Int32)} {k : Nat} {G : List Ent} {live : List Nat} {rc : Nat} {bs : List (Nat × Nat × Nat × Nat)} {nl pl it x p im : Nat}
    (h : INV C R T D k G live rc bs nl pl it) (hlt : bs.length < k) (hxn : ∀ u ∈ bs, u.1 < x) (hmet : ∃ n, n < k ∧ zc C 1 = nI n) (hx : (x, p, p + 1 + im, none) ∈ G) (him : im ≤ 1) (hx1 : rv R 143 x = 11) (hx2 : rv R 144 x = nI im)
    (hC : (∀ id, ¬ id ∈ [104, 106, 108, 110, 112] → C'.1 id = C.1 id) ∧ zc C' 1 = zc C 1 + 1 ∧ C'.1 104 = C.1 104 ++ [nI p] ∧ C'.1 106 = C.1 106 ++ [nI im] ∧ C'.1 108 = C.1 108 ++ [0] ∧ C'.1 110 = C.1 110 ++ [nI live.length] ∧ C'.1 112 = C.1 112 ++ [zc C 1 + 1])
    (hR : (∀ j, (j < 158 ∨ 163 < j) → ∀ i, rv R' j i = rv R j i) ∧ (∀ j, 158 ≤ j → j ≤ 163 → ∀ i, ¬ i = bs.length → rv R' j i = rv R j i) ∧ (∀ f ∈ [3, 7, 10, 20, 21, 28], zf R' f = zf R f))
    (hN : rv R' 158 bs.length = nI x ∧ rv R' 159 bs.length = nI (p + 1 + im) ∧ rv R' 160 bs.length = nI rc ∧ rv R' 161 bs.length = zc C 1 + 1 ∧ rv R' 162 bs.length = nI im ∧ rv R' 163 bs.length = 0) (h35 : zf R' 35 = nI (bs.length + 1)) (h36 : zf R' 36 = zf R 36 + 1) :
    INV C' R' T D k G live rc (bs ++ [(x, p, im, rc)]) nl pl it := by
  obtain ⟨hIT, hIS, hIR, hIB, hIL, hIP, hIW, hIX⟩ := h
  have hbl := hIX.2.2
  have hlenEq : ∀ id ∈ [104, 106, 108, 110, 112], (C'.1 id).length = (bs ++ [(x, p, im, rc)]).length := by
    intro id hid
    have hlen := hbl id hid
    simp only [List.mem_cons, List.not_mem_nil, or_false] at hid
    rw [List.length_append]
    rcases hid with rfl | rfl | rfl | rfl | rfl
    · rw [hC.2.2.1, List.length_append, hlen]; rfl
    · rw [hC.2.2.2.1, List.length_append, hlen]; rfl
    · rw [hC.2.2.2.2.1, List.length_append, hlen]; rfl
    · rw [hC.2.2.2.2.2.1, List.length_append, hlen]; rfl
    · rw [hC.2.2.2.2.2.2, List.length_append, hlen]; rfl
  have hkd : ∀ q, kd C' q = kd C q := fun q => by unfold kd; rw [hC.1 66 (by decide)]
  have hvl : ∀ q, vl C' q = vl C q := fun q => by unfold vl; rw [hC.1 68 (by decide)]
  have hlo : ∀ id i, ¬ id ∈ [104, 106, 108, 110, 112] → ldq C' id i = ldq C id i := fun id i hid => by unfold ldq; rw [hC.1 id hid]
  have hct : ∀ q, ctok C' T q = ctok C T q := fun q => by
    unfold ctok ldT ldU
    rw [hkd, hvl, hlo 72 _ (by decide), hlo 70 _ (by decide), hlo 74 _ (by decide), hlo 76 _ (by decide), hlo 78 _ (by decide), hlo 80 _ (by decide)]
  have hrr : ∀ j, (142 ≤ j ∧ j ≤ 149) ∨ j = 154 → ∀ i, rv R' j i = rv R j i := fun j hj i => hR.1 j (by omega) i
  have hrn : ∀ j x, j < 158 → rvn R' j x = rvn R j x := fun j x hj => congrArg Int32.toNatClampNeg (hR.1 j (by omega) x)
  refine ⟨?_, ?_, ?_, ?_, ?_, ?_, ?_, ?_⟩
  · obtain ⟨h1, h2, h3, h4, h5⟩ := hIT
    obtain ⟨d1, d2, d3, d4, d5, d6, d7⟩ := h5
    refine ⟨(hC.1 61 (by decide)).trans h1, ⟨(hR.2.2 3 (by decide)).trans h2.1, fun i hi => (hR.1 137 (by omega) i).trans (h2.2 i hi)⟩, h3, fun i hi => (hR.1 173 (by omega) i).trans (h4 i hi), d1, d2, (hC.1 83 (by decide)).trans d3, (hC.1 85 (by decide)).trans d4, (hR.2.2 7 (by decide)).trans d5, fun d hd => ?_, fun d k hd hk => ?_⟩
    · rw [hR.1 140 (by omega)]; exact d6 d hd
    · rw [hR.1 139 (by omega)]; exact d7 d k hd hk
  · obtain ⟨s1, s2, s3, s4, s5, s6, s7, s8, s9, s10⟩ := hIS
    refine ⟨by rw [hC.1 66 (by decide)]; exact s1, by rw [hC.1 68 (by decide)]; exact s2, s3, fun q h1 h2 => by rw [hkd, hvl]; exact s4 q h1 h2, SG_cong G 0 k s5 (fun p _ _ => hct p) (fun en _ => rtok_all hrr), ?_, s7, (hR.2.2 20 (by decide)).trans s8, s9, s10⟩
    exact chn_cong _ _ s6 (fun v _ => hR.1 150 (by omega) v) (fun v _ => hR.1 151 (by omega) v) (hR.2.2 21 (by decide))
  · obtain ⟨h1, h2, h3, h4, h5, h6, h7, h8⟩ := hIR
    refine ⟨fun id hid => by rw [hC.1 id (by revert hid; revert id; decide)]; exact h1 id hid, h2, h3, (hR.2.2 28 (by decide)).trans h4, h5, fun x a e r hm => ?_, fun r hr hl' => ?_, fun i r hir => ?_⟩
    · rw [hR.1 152 (by omega), hR.1 143 (by omega), hR.1 154 (by omega), hR.1 155 (by omega), hR.1 156 (by omega)]; exact h6 x a e r hm
    · rw [hR.1 157 (by omega)]; exact h7 r hr hl'
    · obtain ⟨x, a, e, g1, g2, g3, g4, g5, g6, g7, g8⟩ := h8 i r hir
      refine ⟨x, a, e, g1, ?_, ?_, ?_, ?_, ?_, ?_, fun q q1 q2 => ?_⟩
      · rw [hlo 91 _ (by decide), hR.1 144 (by omega)]; exact g2
      · rw [hlo 93 _ (by decide), hR.1 153 (by omega)]; exact g3
      · rw [hlo 95 _ (by decide)]; exact g4
      · rw [hlo 97 _ (by decide)]; exact g5
      · rw [hlo 101 _ (by decide), hR.1 156 (by omega)]; exact g6
      · rw [hlo 99 _ (by decide), hR.1 157 (by omega), hR.1 155 (by omega)]; exact g7
      · rw [hkd, hvl, hR.1 144 (by omega)]; exact g8 q q1 q2
  · obtain ⟨h1, h2, h3, h4, h5, h6, h7⟩ := hIB
    obtain ⟨m, hm, hm'⟩ := hmet
    have hlive := hIR.2.2.1
    refine ⟨fun id hid => ?_, by rw [h35, List.length_append]; rfl, by rw [List.length_append]; simp only [List.length_cons, List.length_nil]; omega, by rw [hC.2.1, h36, h4], ⟨m + 1, by omega, by rw [hC.2.1, hm', nI_1]⟩, fun b w hbw => ?_, ?_⟩
    · exact Nat.le_of_eq (hlenEq id hid).symm
    · by_cases hb : b < bs.length
      · rw [List.getElem?_append_left hb] at hbw
        obtain ⟨⟨g1, g2, g3, g4, g5, g6, g7, g8, g9, g10, g11, g12, g13, g14⟩, hra⟩ := h6 b w hbw
        have hd : ∀ id ∈ [104, 106, 108, 110, 112], ∀ c', C'.1 id = C.1 id ++ [c'] → ldq C' id b = ldq C id b := fun id hid c' he => by
          unfold ldq; rw [he, getD_app_l (by rw [hbl id hid]; exact hb)]
        have hR2 : ∀ j, 158 ≤ j → j ≤ 163 → rv R' j b = rv R j b := fun j j1 j2 => hR.2.1 j j1 j2 b (by omega)
        refine ⟨⟨g1, g2, by rw [hR.1 143 (by omega)]; exact g3, by rw [hR.1 144 (by omega)]; exact g4, by rw [hR2 158 (by omega) (by omega)]; exact g5, by rw [hR2 159 (by omega) (by omega)]; exact g6, by rw [hR2 160 (by omega) (by omega)]; exact g7, ?_, by rw [hR2 162 (by omega) (by omega)]; exact g9, ?_, ?_, ?_, ?_, ?_⟩, hra⟩
        · rw [hR2 161 (by omega) (by omega), hd 112 (by decide) _ hC.2.2.2.2.2.2]; exact g8
        · rw [hR2 163 (by omega) (by omega), hd 108 (by decide) _ hC.2.2.2.2.1]; exact g10
        · rw [hd 108 (by decide) _ hC.2.2.2.2.1]; exact g11
        · rw [hd 104 (by decide) _ hC.2.2.1]; exact g12
        · rw [hd 106 (by decide) _ hC.2.2.2.1]; exact g13
        · rw [hd 110 (by decide) _ hC.2.2.2.2.2.1]; exact g14
      · have hb2 : b < (bs ++ [(x, p, im, rc)]).length := (List.getElem?_eq_some_iff.mp hbw).1
        rw [List.length_append] at hb2
        have hbe : b = bs.length := by simp only [List.length_cons, List.length_nil] at hb2; omega
        subst hbe
        rw [List.getElem?_append_right (Nat.le_refl _), Nat.sub_self] at hbw
        obtain rfl : (x, p, im, rc) = w := Option.some.inj hbw
        have hd : ∀ id ∈ [104, 106, 108, 110, 112], ∀ c', C'.1 id = C.1 id ++ [c'] → ldq C' id bs.length = c' := fun id hid c' he => by
          unfold ldq; rw [he, getD_app_r (hbl id hid)]
        refine ⟨⟨hx, him, by rw [hR.1 143 (by omega)]; exact hx1, by rw [hR.1 144 (by omega)]; exact hx2, hN.1, hN.2.1, hN.2.2.1, ?_, hN.2.2.2.2.1, ?_, ?_, ?_, ?_, ?_⟩, Nat.le_refl _⟩
        · rw [hN.2.2.2.1, hd 112 (by decide) _ hC.2.2.2.2.2.2]
        · rw [hN.2.2.2.2.2, hd 108 (by decide) _ hC.2.2.2.2.1]
        · rw [hd 108 (by decide) _ hC.2.2.2.2.1]; exact Or.inl rfl
        · rw [hd 104 (by decide) _ hC.2.2.1]
        · rw [hd 106 (by decide) _ hC.2.2.2.1]
        · rw [hd 110 (by decide) _ hC.2.2.2.2.2.1]
          congr 1
          symm
          rw [List.countP_eq_length]
          intro r hr; exact decide_eq_true (hlive r hr)
    · rw [List.pairwise_append]
      refine ⟨h7, by simp, fun u hu w hw => ?_⟩
      rw [List.mem_singleton] at hw; subst hw
      have hux := hxn u hu
      obtain ⟨b, hb, rfl⟩ := List.mem_iff_getElem.mp hu
      exact ⟨(h6 b _ (List.getElem?_eq_getElem hb)).2, hux⟩
  · obtain ⟨h1, h2, h3, h4⟩ := hIL
    refine ⟨fun id hid => by rw [hC.1 id (by revert hid; revert id; decide)]; exact h1 id hid, h2, fun i hi => ?_, fun q hq => ?_⟩
    · have := h3 i hi
      unfold LD1 at this ⊢
      rw [hlo 70 _ (by decide), hlo 74 _ (by decide), hlo 76 _ (by decide), hlo 78 _ (by decide), hlo 80 _ (by decide)]; exact this
    · rw [hkd] at hq; rw [hvl]; exact h4 q hq
  · obtain ⟨h1, h2, h3⟩ := hIP
    refine ⟨(hR.2.2 10 (by decide)).trans h1, h2, fun en hen ht hk => ?_, fun en hen ht hk => ?_⟩
    · rw [hR.1 143 (by omega)] at hk
      rw [hrn 145 _ (by omega), hrn 146 _ (by omega), hrn 147 _ (by omega), hrn 148 _ (by omega)]; exact h3.1 en hen ht hk
    · rw [hR.1 143 (by omega)] at hk
      rw [hrn 145 _ (by omega), hrn 146 _ (by omega), hrn 147 _ (by omega), hrn 148 _ (by omega)]; exact h3.2 en hen ht hk
  · obtain ⟨h1, h2, h3⟩ := hIW
    refine ⟨?_, ?_, NB_cong h3.1 (fun en _ => rtok_all hrr), IZ_cong h3.2 (fun en _ j j1 j2 => hrr j (by omega) en.1)⟩
    · rw [sumE_cong (g := fun en => lws (rtok R en.1 en.2.2.2)) G (fun en _ => by rw [rtok_all hrr])]; exact h1
    · rw [sumE_cong (g := ew R) G (fun en _ => ew_all hrr en)]; exact h2
  · refine ⟨?_, fun r hr => (hR.1 157 (by omega) r).trans (hIX.2.1 r hr), hlenEq⟩
    intro n hn hall
    obtain ⟨G', Gs, h1, h2, h3⟩ := hIX.1 n hn hall
    exact ⟨G', Gs, h1, h2, fun en hen => by
      obtain ⟨g1, g2, g3, g4⟩ := h3 en hen
      exact ⟨g1, g2, by rw [hR.1 143 (by omega)]; exact g3, by rw [hR.1 144 (by omega)]; exact g4⟩⟩
