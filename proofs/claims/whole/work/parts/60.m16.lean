/-! the mathematics; written by wip/whole/m2parts.py -/
theorem sumE_snoc (f : Ent → Nat) (G : List Ent) (e : Ent) : sumE f (G ++ [e]) = sumE f G + f e := by rw [sumE_app, sumE_cons, sumE_nil, Nat.add_zero]
theorem CK.ldq {C C' : zr_Z} (h : CK C C') {id : Nat} (hid : ¬ id ∈ mrows) (i : Nat) : ldq C' id i = ldq C id i := by rw [ldq_eq, ldq_eq, h.1 id hid]
theorem IX_snoc {R R' : zr_Z} {T : List Int32} {G : List Ent} {k : Nat} (h : IX R T G k) (hr : ∀ en ∈ G, rv R' 143 en.1 = rv R 143 en.1 ∧ rv R' 144 en.1 = rv R 144 en.1) {x : Nat} (hx : rv R' 143 x = 0 ∧ rv R' 144 x = mA T k) : IX R' T (G ++ [(x, k, k + 1, none)]) (k + 1) := by
  intro n hn hall
  cases n with
  | zero => exact ⟨_, [], by rw [List.append_nil], rfl, fun en hen => absurd hen (by simp)⟩
  | succ n =>
    obtain ⟨G', Gs, h1, h2, h3⟩ := h n (by omega) (fun j hj1 hj2 => hall j (by omega) (by omega))
    refine ⟨G', Gs ++ [(x, k, k + 1, none)], by rw [h1, List.append_assoc], by simp [h2], fun en hen => ?_⟩
    rcases List.mem_append.mp hen with hen | hen
    · obtain ⟨g1, g2, g3, g4⟩ := h3 en hen
      have := hr en (by rw [h1]; exact List.mem_append_right _ hen)
      exact ⟨g1, g2, this.1.trans g3, this.2.trans g4⟩
    · rw [List.mem_singleton] at hen; subst hen; exact ⟨rfl, rfl, hx.1, hx.2.trans (hall k (by omega) (by omega))⟩
theorem IX_none {R : zr_Z} {T : List Int32} {G : List Ent} {k : Nat} (h : ¬ mA T (k - 1) = 32) : IX R T G k := by
  intro n hn hall
  cases n with
  | zero => exact ⟨_, [], by rw [List.append_nil], rfl, fun en hen => absurd hen (by simp)⟩
  | succ n => exact absurd (hall (k - 1) (by omega) (by omega)) h
theorem IR_app {C C' R R' : zr_Z} {T : List Int32} {G G' : List Ent} {live : List Nat} {rc k it pl : Nat} (h : IR C R T G live rc) (hC : CK C C') (hR : RK R R' it pl) (hit : ∀ en ∈ G, en.1 ≤ it)
    (hmk : ∀ q, q < k → kd C' q = kd C q ∧ vl C' q = vl C q) (hG : ∀ en, en ∈ G → ¬ en.2.2.2 = none → en ∈ G' ∧ en.2.2.1 ≤ k) (hG2 : ∀ en ∈ G', en ∈ G ∨ en.2.2.2 = none) (hfm : G'.filterMap (fun en => en.2.2.2) = G.filterMap (fun en => en.2.2.2)) :
    IR C' R' T G' live rc := by
  obtain ⟨h1, h2, h3, h4, h5, h6, h7, h8⟩ := h
  have nm : ∀ id ∈ [91, 93, 95, 97, 99, 101], ¬ id ∈ mrows := by decide
  refine ⟨fun id hid => by rw [hC.1 id (nm id hid)]; exact h1 id hid, h2, h3, (hR.2.2.2 28 (by decide)).trans h4, hfm.trans h5, ?_, ?_, ?_⟩
  · intro x a e r hm
    rcases hG2 _ hm with hm | hm
    · obtain ⟨g1, g2, g3, g4, g5⟩ := h6 x a e r hm
      rw [hR.1 152 (by omega), hR.1 154 (by omega), hR.1 155 (by omega), hR.1 156 (by omega), hR.2.1 143 (by omega) (by omega) x (hit _ hm)]
      exact ⟨g1, g2, g3, g4, g5⟩
    · exact absurd hm (by simp)
  · intro r hr hl; rw [hR.1 157 (by omega)]; exact h7 r hr hl
  · intro i r hir
    obtain ⟨x, a, e, g1, g2, g3, g4, g5, g6, g7, g8⟩ := h8 i r hir
    have hx := hit _ g1
    obtain ⟨hg, he⟩ := hG _ g1 (by simp)
    refine ⟨x, a, e, hg, ?_, ?_, ?_, ?_, ?_, ?_, fun q q1 q2 => ?_⟩
    · rw [hC.ldq (by decide), hR.2.1 144 (by omega) (by omega) x hx]; exact g2
    · rw [hC.ldq (by decide), hR.1 153 (by omega)]; exact g3
    · rw [hC.ldq (by decide)]; exact g4
    · rw [hC.ldq (by decide)]; exact g5
    · rw [hC.ldq (by decide), hR.1 156 (by omega)]; exact g6
    · rw [hC.ldq (by decide), hR.1 157 (by omega), hR.1 155 (by omega)]; exact g7
    · have := hmk q (by dsimp only at he; omega)
      rw [this.1, this.2, hR.2.1 144 (by omega) (by omega) x hx]; exact g8 q q1 q2
theorem BR1_app {C C' R R' : zr_Z} {G G' : List Ent} {live : List Nat} {it pl b : Nat} {w : Nat × Nat × Nat × Nat} (h : BR1 C R G live b w) (hC : ∀ id ∈ [104, 106, 108, 110, 112], ldq C' id b = ldq C id b) (hR : RK R R' it pl) (hit : ∀ en ∈ G, en.1 ≤ it)
    (hG : (w.1, w.2.1, w.2.1 + 1 + w.2.2.1, none) ∈ G → (w.1, w.2.1, w.2.1 + 1 + w.2.2.1, none) ∈ G') : BR1 C' R' G' live b w := by
  obtain ⟨h1, h2, h3, h4, h5, h6, h7, h8, h9, h10, h11, h12, h13, h14⟩ := h
  have hx : w.1 ≤ it := hit _ h1
  unfold BR1
  rw [hC 104 (by decide), hC 106 (by decide), hC 108 (by decide), hC 110 (by decide), hC 112 (by decide), hR.1 158 (by omega), hR.1 159 (by omega), hR.1 160 (by omega), hR.1 161 (by omega), hR.1 162 (by omega), hR.1 163 (by omega),
    hR.2.1 143 (by omega) (by omega) _ hx, hR.2.1 144 (by omega) (by omega) _ hx]
  exact ⟨hG h1, h2, h3, h4, h5, h6, h7, h8, h9, h10, h11, h12, h13, h14⟩
theorem IB_app {C C' R R' : zr_Z} {G G' : List Ent} {live : List Nat} {rc k k' it pl : Nat} {bs : List (Nat × Nat × Nat × Nat)} (h : IB C R G live rc k bs) (hC : CK C C') (hR : RK R R' it pl) (hit : ∀ en ∈ G, en.1 ≤ it) (hk : k ≤ k')
    (hG : ∀ en, en ∈ G → rv R 143 en.1 = 11 → en ∈ G') : IB C' R' G' live rc k' bs := by
  obtain ⟨h1, h2, h3, h4, ⟨n, hn, hn'⟩, h6, h7⟩ := h
  have nm : ∀ id ∈ [104, 106, 108, 110, 112], ¬ id ∈ mrows := by decide
  refine ⟨fun id hid => by rw [hC.1 id (nm id hid)]; exact h1 id hid, (hR.2.2.2 35 (by decide)).trans h2, by omega, ?_, ⟨n, by omega, hC.2.2.2.trans hn'⟩, fun b w hbw => ⟨?_, (h6 b w hbw).2⟩, h7⟩
  · rw [hC.2.2.2, hR.2.2.2 36 (by decide)]; exact h4
  · exact BR1_app (h6 b w hbw).1 (fun id hid => hC.ldq (nm id hid) b) hR hit (fun hm => hG _ hm (h6 b w hbw).1.2.2.1)
theorem DEF_keep {C C' R R' : zr_Z} {D : List (List Int32)} {it pl : Nat} (h : DEF C R D) (hC : CK C C') (hR : RK R R' it pl) : DEF C' R' D := by
  obtain ⟨h1, h2, h3, h4, h5, h6, h7⟩ := h
  refine ⟨h1, h2, (hC.1 83 (by decide)).trans h3, (hC.1 85 (by decide)).trans h4, (hR.2.2.2 7 (by decide)).trans h5, fun d hd => ?_, fun d k hd hk => ?_⟩
  · rw [hR.1 140 (by omega)]; exact h6 d hd
  · rw [hR.1 139 (by omega)]; exact h7 d k hd hk
theorem IT_keep {C C' R R' : zr_Z} {T : List Int32} {D : List (List Int32)} {it pl : Nat} (h : IT C R T D) (hC : CK C C') (hR : RK R R' it pl) : IT C' R' T D := by
  obtain ⟨h1, h2, h3, h4, h5⟩ := h
  refine ⟨(hC.1 61 (by decide)).trans h1, ⟨(hR.2.2.2 3 (by decide)).trans h2.1, fun i hi => (hR.1 137 (by omega) i).trans (h2.2 i hi)⟩, h3, fun i hi => (hR.1 173 (by omega) i).trans (h4 i hi), DEF_keep h5 hC hR⟩
theorem inv_app2 {C C' R R' : zr_Z} {T : List Int32} {D : List (List Int32)} {k0 k k' u : Nat} {G G0 Gs : List Ent} {live : List Nat} {rc : Nat} {bs : List (Nat × Nat × Nat × Nat)} {nl nl' pl pl' it : Nat}
    (h : INV0 C R T D k u G live rc bs nl pl it) (hov : ∀ r ∈ live, rv R 157 r = 0) (hbl : ∀ id ∈ [104, 106, 108, 110, 112], (C.1 id).length = bs.length) (hu : u ≤ k') (hC : CK C C') (hR : RK R R' it pl) (hG : G = G0 ++ Gs) (hGs : ∀ en ∈ Gs, en.2.2.2 = none ∧ rv R 143 en.1 = 0) (hS0 : SG C R T 0 G0 k0) (hk0 : k0 ≤ k) (hk : k < k') (hk' : k' ≤ T.length)
    (hmk : ∀ q, ¬ (k0 ≤ q ∧ q < k') → kd C' q = kd C q ∧ vl C' q = vl C q) (hold : ∀ q, q < k0 → ctok C' T q = ctok C T q)
    (hch : chn R' 0 (G0.map (fun en => en.1) ++ [it + 1])) (h20 : zf R' 20 = nI (it + 1)) (htok : ctk C' T k0 (k' - k0) = rtok R' (it + 1) none)
    (hL : IL C' T k' nl') (hp10 : zf R' 10 = nI pl') (hpl : pl ≤ pl' ∧ pl' ≤ 2 * k') (hpn : (rv R' 143 (it + 1) = 3 ∨ rv R' 143 (it + 1) = 6 ∨ rv R' 143 (it + 1) = 7) → rvn R' 145 (it + 1) + rvn R' 146 (it + 1) ≤ pl' ∧ rvn R' 147 (it + 1) + rvn R' 148 (it + 1) ≤ pl')
    (hz11 : rv R' 143 (it + 1) = 11 → rvn R' 145 (it + 1) + rvn R' 146 (it + 1) = 0 ∧ rvn R' 147 (it + 1) + rvn R' 148 (it + 1) = 0) (hw1 : 5 * lws (rtok R' (it + 1) none) ≤ 13 * (k' - u)) (hw2 : (rv R' 143 (it + 1) = 11 ∧ k0 = u) ∨ (¬ rv R' 143 (it + 1) = 11 ∧ ows (rtok R' (it + 1) none) ≤ 12 * (k' - u))) (hX : IX R' T (G0 ++ [(it + 1, k0, k', none)]) k') (hnb : ncl (rtok R' (it + 1) none) ≤ nop (rtok R' (it + 1) none) + (if k < u then 1 else 0)) (hz : IZ1 R' (it + 1)) :
    INV C' R' T D k' (G0 ++ [(it + 1, k0, k', none)]) live rc bs nl' pl' (it + 1) := by
  obtain ⟨hIT, hIS, hIR, hIB, hIL, hIP, hIW⟩ := h
  obtain ⟨s1, s2, s3, s4, s5, s6, s7, s8, s9, s10⟩ := hIS
  have hrt : ∀ en ∈ G, rtok R' en.1 en.2.2.2 = rtok R en.1 en.2.2.2 := fun en hen => hR.rtok (s9 en hen) (fun h1 h2 => hIP.2.2.1 en hen h1 h2)
  have hkk : ∀ en ∈ G, rv R' 143 en.1 = rv R 143 en.1 := fun en hen => hR.2.1 143 (by omega) (by omega) _ (s9 en hen)
  have hend : ∀ en ∈ G0, en.2.2.1 ≤ k0 := fun en hen => (SG_mem G0 0 k0 hS0 en hen).2.2
  have h0 : ∀ en ∈ G0, en ∈ G := fun en hen => by rw [hG]; exact List.mem_append_left _ hen
  have hin : ∀ en, en ∈ G → ¬ en.2.2.2 = none ∨ ¬ rv R 143 en.1 = 0 → en ∈ G0 := by
    intro en hen hne
    rw [hG] at hen
    rcases List.mem_append.mp hen with h | h
    · exact h
    · have := hGs en h
      rcases hne with h' | h'
      · exact absurd this.1 h'
      · exact absurd this.2 h'
  refine ⟨IT_keep hIT hC hR, ⟨hC.2.1.trans s1, hC.2.2.1.trans s2, hk', fun q q1 q2 => ?_, ?_, ?_, ?_, h20, ?_, ?_⟩, ?_, ?_, hL, ⟨hp10, hpl.2, ?_, ?_⟩, ⟨?_, ?_, ?_, ?_⟩, hX, fun r hr => (hR.1 157 (by omega) r).trans (hov r hr), fun id hid => by rw [hC.1 id (by revert hid; revert id; decide)]; exact hbl id hid⟩
  · have := hmk q (by omega); rw [this.1, this.2]; exact s4 q (by omega) q2
  · rw [SG_app]; exact ⟨k0, SG_cong G0 0 k0 hS0 (fun p _ hp => hold p hp) (fun en hen => hrt en (h0 en hen)), SG_one (by omega) htok⟩
  · rw [List.map_append]; exact hch
  · rw [List.map_append, ← List.cons_append, List.nodup_append]
    have s7' : (0 :: G0.map (fun en => en.1)).Nodup := by
      rw [hG, List.map_append, ← List.cons_append] at s7
      exact (List.nodup_append.mp s7).1
    refine ⟨s7', by simp, fun a ha b hb => ?_⟩
    rw [List.map_cons, List.map_nil, List.mem_singleton] at hb
    subst hb
    rcases List.mem_cons.mp ha with rfl | ha
    · omega
    · obtain ⟨en, hen, rfl⟩ := List.mem_map.mp ha
      have := s9 en (h0 en hen); omega
  · intro en hen
    rcases List.mem_append.mp hen with hen | hen
    · have := s9 en (h0 en hen); omega
    · rw [List.mem_singleton] at hen; subst hen; exact Nat.le_refl _
  · rw [sumE_snoc]
    rw [hG, sumE_app] at s10
    have : gleft (it + 1, k0, k', none) = 0 := rfl
    omega
  · refine IR_app hIR hC hR s9 (k := k0) (fun q hq => hmk q (by omega)) (fun en hen hne => ?_) (fun en hen => ?_) ?_
    · have := hin en hen (Or.inl hne)
      exact ⟨List.mem_append_left _ this, hend en this⟩
    · rcases List.mem_append.mp hen with hen | hen
      · exact Or.inl (h0 en hen)
      · rw [List.mem_singleton] at hen; subst hen; exact Or.inr rfl
    · rw [hG, List.filterMap_append, List.filterMap_append]
      have : Gs.filterMap (fun en => en.2.2.2) = [] := by
        rw [List.filterMap_eq_nil_iff]; intro en hen; exact (hGs en hen).1
      rw [this]; simp
  · exact IB_app hIB hC hR s9 (by omega) (fun en hen h11 => List.mem_append_left _ (hin en hen (Or.inr (by rw [h11]; decide))))
  · intro en hen ht hkd
    rcases List.mem_append.mp hen with hen | hen
    · have hen := h0 en hen
      have hx := s9 en hen
      rw [hkk en hen] at hkd
      have := hIP.2.2.1 en hen ht hkd
      have e : ∀ j, 143 ≤ j → j ≤ 149 → rvn R' j en.1 = rvn R j en.1 := fun j h1 h2 => congrArg Int32.toNatClampNeg (hR.2.1 j h1 h2 _ hx)
      rw [e 145 (by omega) (by omega), e 146 (by omega) (by omega), e 147 (by omega) (by omega), e 148 (by omega) (by omega)]; omega
    · rw [List.mem_singleton] at hen; subst hen; exact hpn hkd
  · intro en hen ht h11
    rcases List.mem_append.mp hen with hen | hen
    · have hen := h0 en hen
      have hx := s9 en hen
      rw [hkk en hen] at h11
      have e : ∀ j, 143 ≤ j → j ≤ 149 → rvn R' j en.1 = rvn R j en.1 := fun j h1 h2 => congrArg Int32.toNatClampNeg (hR.2.1 j h1 h2 _ hx)
      rw [e 145 (by omega) (by omega), e 146 (by omega) (by omega), e 147 (by omega) (by omega), e 148 (by omega) (by omega)]; exact hIP.2.2.2 en hen ht h11
    · rw [List.mem_singleton] at hen; subst hen; exact hz11 h11
  · rw [sumE_snoc, sumE_cong G0 (fun en hen => by show lws (rtok R' en.1 en.2.2.2) = lws (rtok R en.1 en.2.2.2); rw [hrt en (h0 en hen)])]
    have := hIW.1
    rw [hG, sumE_app] at this
    dsimp only
    omega
  · rw [sumE_snoc, sumE_cong (f := ew R') (g := ew R) G0 (fun en hen => by
      have hen := h0 en hen
      unfold ew
      rw [hkk en hen]
      by_cases hc : en.2.2.2 = none ∧ ¬ rv R 143 en.1 = 11
      · rw [if_pos hc, if_pos hc]
        have := hrt en hen
        rw [hc.1] at this; rw [this]
      · rw [if_neg hc, if_neg hc])]
    have := hIW.2.1
    rw [hG, sumE_app] at this
    have hnew : ew R' (it + 1, k0, k', none) ≤ 12 * (k' - u) := by
      unfold ew
      by_cases hc : rv R' 143 (it + 1) = 11
      · rw [if_neg (fun h => h.2 hc)]
        rcases hw2 with h | h
        · show 12 * (k' - k0) ≤ _
          rw [h.2]; exact Nat.le_refl _
        · exact absurd hc h.1
      · rw [if_pos ⟨rfl, hc⟩]; rcases hw2 with h | h
        · exact absurd h.1 hc
        · exact h.2
    omega
  · refine NB_app (NB_less hIW.2.2.1 hG (fun en hen => ?_)) (fun en hen => hrt en (h0 en hen)) (fun A B hA => ?_)
    · have := hGs en hen
      unfold eop; rw [this.1, rtok_eq, if_pos this.2]; rfl
    · cases A with
      | nil => exact Nat.zero_le _
      | cons e l =>
        cases l with
        | nil =>
          rw [List.cons_append] at hA
          injection hA with hA _
          rw [← hA, sumE_cons, sumE_nil, sumE_cons, sumE_nil]; exact hnb
        | cons e' l => exact absurd (congrArg List.length hA) (by simp)
  · intro en hen ht
    rcases List.mem_append.mp hen with g | g
    · exact IZ1_cong (hIW.2.2.2 en (h0 en g) ht) (fun j j1 j2 => hR.2.1 j j1 j2 _ (s9 en (h0 en g)))
    · rw [List.mem_singleton] at g; rw [g]; exact hz
theorem inv_app0 {C C' R R' : zr_Z} {T : List Int32} {D : List (List Int32)} {k k' u : Nat} {G : List Ent} {live : List Nat} {rc : Nat} {bs : List (Nat × Nat × Nat × Nat)} {nl nl' pl pl' it : Nat}
    (h : INV0 C R T D k u G live rc bs nl pl it) (hov : ∀ r ∈ live, rv R 157 r = 0) (hbl : ∀ id ∈ [104, 106, 108, 110, 112], (C.1 id).length = bs.length) (hu : u ≤ k') (hC : CK C C') (hR : RK R R' it pl) (hk : k < k') (hk' : k' ≤ T.length)
    (hmk : ∀ q, ¬ (k ≤ q ∧ q < k') → kd C' q = kd C q ∧ vl C' q = vl C q) (hold : ∀ q, q < k → ctok C' T q = ctok C T q)
    (hch : chn R' 0 (G.map (fun en => en.1) ++ [it + 1])) (h20 : zf R' 20 = nI (it + 1)) (htok : ctk C' T k (k' - k) = rtok R' (it + 1) none)
    (hL : IL C' T k' nl') (hp10 : zf R' 10 = nI pl') (hpl : pl ≤ pl' ∧ pl' ≤ 2 * k') (hpn : (rv R' 143 (it + 1) = 3 ∨ rv R' 143 (it + 1) = 6 ∨ rv R' 143 (it + 1) = 7) → rvn R' 145 (it + 1) + rvn R' 146 (it + 1) ≤ pl' ∧ rvn R' 147 (it + 1) + rvn R' 148 (it + 1) ≤ pl')
    (hz11 : rv R' 143 (it + 1) = 11 → rvn R' 145 (it + 1) + rvn R' 146 (it + 1) = 0 ∧ rvn R' 147 (it + 1) + rvn R' 148 (it + 1) = 0) (hw1 : 5 * lws (rtok R' (it + 1) none) ≤ 13 * (k' - u)) (hw2 : (rv R' 143 (it + 1) = 11 ∧ k = u) ∨ ows (rtok R' (it + 1) none) ≤ 12 * (k' - u)) (hux : rv R' 143 (it + 1) = 11 → k = u) (hX : IX R' T (G ++ [(it + 1, k, k', none)]) k') (hnb : ncl (rtok R' (it + 1) none) ≤ nop (rtok R' (it + 1) none) + (if k < u then 1 else 0)) (hz : IZ1 R' (it + 1)) :
    INV C' R' T D k' (G ++ [(it + 1, k, k', none)]) live rc bs nl' pl' (it + 1) := by
  refine inv_app2 h hov hbl hu hC hR (Gs := []) (by rw [List.append_nil]) (fun en hen => absurd hen (by simp)) h.2.1.2.2.2.2.1 (Nat.le_refl _) hk hk' hmk hold hch h20 htok hL hp10 hpl hpn hz11 hw1 ?_ hX hnb hz
  by_cases hc : rv R' 143 (it + 1) = 11
  · rcases hw2 with h | h
    · exact Or.inl h
    · exact Or.inl ⟨hc, (hux hc)⟩
  · rcases hw2 with h | h
    · exact absurd h.1 hc
    · exact Or.inr ⟨hc, h⟩
theorem inv_app {C C' R R' : zr_Z} {T : List Int32} {D : List (List Int32)} {k k' : Nat} {G : List Ent} {live : List Nat} {rc : Nat} {bs : List (Nat × Nat × Nat × Nat)} {nl nl' pl pl' it : Nat}
    (h : INV C R T D k G live rc bs nl pl it) (hC : CK C C') (hR : RK R R' it pl) (hk : k < k') (hk' : k' ≤ T.length)
    (hmk : ∀ q, ¬ (k ≤ q ∧ q < k') → kd C' q = kd C q ∧ vl C' q = vl C q) (hold : ∀ q, q < k → ctok C' T q = ctok C T q)
    (hch : chn R' 0 (G.map (fun en => en.1) ++ [it + 1])) (h20 : zf R' 20 = nI (it + 1)) (htok : ctk C' T k (k' - k) = rtok R' (it + 1) none)
    (hL : IL C' T k' nl') (hp10 : zf R' 10 = nI pl') (hpl : pl ≤ pl' ∧ pl' ≤ 2 * k') (hpn : (rv R' 143 (it + 1) = 3 ∨ rv R' 143 (it + 1) = 6 ∨ rv R' 143 (it + 1) = 7) → rvn R' 145 (it + 1) + rvn R' 146 (it + 1) ≤ pl' ∧ rvn R' 147 (it + 1) + rvn R' 148 (it + 1) ≤ pl')
    (hz11 : rv R' 143 (it + 1) = 11 → rvn R' 145 (it + 1) + rvn R' 146 (it + 1) = 0 ∧ rvn R' 147 (it + 1) + rvn R' 148 (it + 1) = 0) (hw1 : 5 * lws (rtok R' (it + 1) none) ≤ 13 * (k' - k)) (hw2 : rv R' 143 (it + 1) = 11 ∨ ows (rtok R' (it + 1) none) ≤ 12 * (k' - k)) (hX : IX R' T (G ++ [(it + 1, k, k', none)]) k') (hnb : ncl (rtok R' (it + 1) none) ≤ nop (rtok R' (it + 1) none)) (hz : IZ1 R' (it + 1)) :
    INV C' R' T D k' (G ++ [(it + 1, k, k', none)]) live rc bs nl' pl' (it + 1) := by
  exact inv_app0 h.z h.ov h.bl (by omega) hC hR hk hk' hmk hold hch h20 htok hL hp10 hpl hpn hz11 hw1 (hw2.imp (fun h => ⟨h, rfl⟩) id) (fun _ => rfl) hX (by omega) hz
