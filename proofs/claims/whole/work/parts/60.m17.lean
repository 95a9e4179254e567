/-! the mathematics; written by wip/whole/m2parts.py -/
theorem rsl_all {R R' : zr_Z} (h : ∀ i, rv R' 142 i = rv R 142 i) (a n : Nat) : rsl R' a n = rsl R a n := rsl_cong n a (fun i _ _ => h i)
theorem rtok_all {R R' : zr_Z} {x : Nat} {t : Option Nat} (h : ∀ j, (142 ≤ j ∧ j ≤ 149) ∨ j = 154 → ∀ i, rv R' j i = rv R j i) : rtok R' x t = rtok R x t := by
  have en : ∀ j, (142 ≤ j ∧ j ≤ 149) ∨ j = 154 → ∀ i, rvn R' j i = rvn R j i := fun j hj i => congrArg Int32.toNatClampNeg (h j hj i)
  cases t with
  | some r =>
    show List.replicate (rvn R' 154 r) _ = List.replicate (rvn R 154 r) _
    rw [h 144 (by omega), en 154 (by omega)]
  | none =>
    unfold rtok
    dsimp only
    rw [h 143 (by omega), h 144 (by omega), h 149 (by omega), en 145 (by omega), en 146 (by omega), en 147 (by omega), en 148 (by omega), rsl_all (h 142 (by omega)), rsl_all (h 142 (by omega))]
theorem ew_all {R R' : zr_Z} (h : ∀ j, (142 ≤ j ∧ j ≤ 149) ∨ j = 154 → ∀ i, rv R' j i = rv R j i) (en : Ent) : ew R' en = ew R en := by
  unfold ew; rw [h 143 (by omega), rtok_all h]
theorem inv_gen {C C' R R' : zr_Z} {T : List Int32} {D : List (List Int32)} {k : Nat} {G : List Ent} {live : List Nat} {rc : Nat} {bs : List (Nat × Nat × Nat × Nat)} {nl pl it : Nat}
    (h : INV C R T D k G live rc bs nl pl it) (hC : (∀ id, ¬ id = 108 → ¬ id = 87 → C'.1 id = C.1 id) ∧ zc C' 1 = zc C 1 ∧ (C'.1 108).length = bs.length)
    (hR : (∀ j, ¬ j = 163 → ¬ j = 141 → ∀ i, rv R' j i = rv R j i) ∧ (∀ f ∈ [3, 7, 10, 20, 21, 28, 35, 36], zf R' f = zf R f)) (h108 : ∀ b, b < bs.length → rv R' 163 b = ldq C' 108 b ∧ (ldq C' 108 b = 0 ∨ ldq C' 108 b = 1)) :
    INV C' R' T D k G live rc bs nl pl it := by
  obtain ⟨hIT, hIS, hIR, hIB, hIL, hIP, hIW, hIX⟩ := h
  have hl : ∀ id i, (¬ id = 108 ∧ ¬ id = 87) → ldq C' id i = ldq C id i := fun id i hid => by unfold ldq; rw [hC.1 id hid.1 hid.2]
  have hkd : ∀ q, kd C' q = kd C q := fun q => by unfold kd; rw [hC.1 66 (by decide) (by decide)]
  have hvl : ∀ q, vl C' q = vl C q := fun q => by unfold vl; rw [hC.1 68 (by decide) (by decide)]
  have hct : ∀ q, ctok C' T q = ctok C T q := fun q => by
    unfold ctok ldT ldU
    rw [hkd, hvl, hl 72 _ (by decide), hl 70 _ (by decide), hl 74 _ (by decide), hl 76 _ (by decide), hl 78 _ (by decide), hl 80 _ (by decide)]
  have hrr : ∀ j, (142 ≤ j ∧ j ≤ 149) ∨ j = 154 → ∀ i, rv R' j i = rv R j i := fun j hj i => hR.1 j (by omega) (by omega) i
  have hrn : ∀ j x, (¬ j = 163 ∧ ¬ j = 141) → rvn R' j x = rvn R j x := fun j x hj => congrArg Int32.toNatClampNeg (hR.1 j hj.1 hj.2 x)
  refine ⟨?_, ?_, ?_, ?_, ?_, ?_, ?_, ?_⟩
  · obtain ⟨h1, h2, h3, h4, h5⟩ := hIT
    obtain ⟨d1, d2, d3, d4, d5, d6, d7⟩ := h5
    refine ⟨(hC.1 61 (by decide) (by decide)).trans h1, ⟨(hR.2 3 (by decide)).trans h2.1, fun i hi => (hR.1 137 (by omega) (by omega) i).trans (h2.2 i hi)⟩, h3, fun i hi => (hR.1 173 (by omega) (by omega) i).trans (h4 i hi), d1, d2, (hC.1 83 (by decide) (by decide)).trans d3, (hC.1 85 (by decide) (by decide)).trans d4, (hR.2 7 (by decide)).trans d5, fun d hd => ?_, fun d k hd hk => ?_⟩
    · rw [hR.1 140 (by omega) (by omega)]; exact d6 d hd
    · rw [hR.1 139 (by omega) (by omega)]; exact d7 d k hd hk
  · obtain ⟨s1, s2, s3, s4, s5, s6, s7, s8, s9, s10⟩ := hIS
    refine ⟨by rw [hC.1 66 (by decide) (by decide)]; exact s1, by rw [hC.1 68 (by decide) (by decide)]; exact s2, s3, fun q h1 h2 => by rw [hkd, hvl]; exact s4 q h1 h2, SG_cong G 0 k s5 (fun p _ _ => hct p) (fun en _ => rtok_all hrr), ?_, s7, (hR.2 20 (by decide)).trans s8, s9, s10⟩
    exact chn_cong _ _ s6 (fun v _ => hR.1 150 (by omega) (by omega) v) (fun v _ => hR.1 151 (by omega) (by omega) v) (hR.2 21 (by decide))
  · obtain ⟨h1, h2, h3, h4, h5, h6, h7, h8⟩ := hIR
    refine ⟨fun id hid => by rw [hC.1 id (by rintro rfl; exact absurd hid (by decide)) (by rintro rfl; exact absurd hid (by decide))]; exact h1 id hid, h2, h3, (hR.2 28 (by decide)).trans h4, h5, fun x a e r hm => ?_, fun r hr hl' => ?_, fun i r hir => ?_⟩
    · rw [hR.1 152 (by omega) (by omega), hR.1 143 (by omega) (by omega), hR.1 154 (by omega) (by omega), hR.1 155 (by omega) (by omega), hR.1 156 (by omega) (by omega)]; exact h6 x a e r hm
    · rw [hR.1 157 (by omega) (by omega)]; exact h7 r hr hl'
    · obtain ⟨x, a, e, g1, g2, g3, g4, g5, g6, g7, g8⟩ := h8 i r hir
      refine ⟨x, a, e, g1, ?_, ?_, ?_, ?_, ?_, ?_, fun q q1 q2 => ?_⟩
      · rw [hl 91 _ (by decide), hR.1 144 (by omega) (by omega)]; exact g2
      · rw [hl 93 _ (by decide), hR.1 153 (by omega) (by omega)]; exact g3
      · rw [hl 95 _ (by decide)]; exact g4
      · rw [hl 97 _ (by decide)]; exact g5
      · rw [hl 101 _ (by decide), hR.1 156 (by omega) (by omega)]; exact g6
      · rw [hl 99 _ (by decide), hR.1 157 (by omega) (by omega), hR.1 155 (by omega) (by omega)]; exact g7
      · rw [hkd, hvl, hR.1 144 (by omega) (by omega)]; exact g8 q q1 q2
  · obtain ⟨h1, h2, h3, h4, ⟨n, hn, hn'⟩, h6, h7⟩ := hIB
    refine ⟨fun id hid => ?_, (hR.2 35 (by decide)).trans h2, h3, by rw [hC.2.1, hR.2 36 (by decide)]; exact h4, ⟨n, hn, hC.2.1.trans hn'⟩, fun b w hbw => ⟨?_, (h6 b w hbw).2⟩, h7⟩
    · by_cases e : id = 108
      · rw [e]; exact Nat.le_of_eq hC.2.2.symm
      · rw [hC.1 id e (by rintro rfl; exact absurd hid (by decide))]; exact h1 id hid
    · obtain ⟨g1, g2, g3, g4, g5, g6, g7, g8, g9, g10, g11, g12, g13, g14⟩ := (h6 b w hbw).1
      have hb : b < bs.length := (List.getElem?_eq_some_iff.mp hbw).1
      have e163 := h108 b hb
      refine ⟨g1, g2, by rw [hR.1 143 (by omega) (by omega)]; exact g3, by rw [hR.1 144 (by omega) (by omega)]; exact g4, by rw [hR.1 158 (by omega) (by omega)]; exact g5, by rw [hR.1 159 (by omega) (by omega)]; exact g6, by rw [hR.1 160 (by omega) (by omega)]; exact g7, ?_, by rw [hR.1 162 (by omega) (by omega)]; exact g9, e163.1, e163.2, ?_, ?_, ?_⟩
      · rw [hR.1 161 (by omega) (by omega), hl 112 _ (by decide)]; exact g8
      · rw [hl 104 _ (by decide)]; exact g12
      · rw [hl 106 _ (by decide)]; exact g13
      · rw [hl 110 _ (by decide)]; exact g14
  · obtain ⟨h1, h2, h3, h4⟩ := hIL
    refine ⟨fun id hid => by rw [hC.1 id (by rintro rfl; exact absurd hid (by decide)) (by rintro rfl; exact absurd hid (by decide))]; exact h1 id hid, h2, fun i hi => ?_, fun q hq => ?_⟩
    · have := h3 i hi
      unfold LD1 at this ⊢
      rw [hl 70 _ (by decide), hl 74 _ (by decide), hl 76 _ (by decide), hl 78 _ (by decide), hl 80 _ (by decide)]; exact this
    · rw [hkd] at hq; rw [hvl]; exact h4 q hq
  · obtain ⟨h1, h2, h3⟩ := hIP
    refine ⟨(hR.2 10 (by decide)).trans h1, h2, fun en hen ht hk => ?_, fun en hen ht hk => ?_⟩
    · rw [hR.1 143 (by omega) (by omega)] at hk
      rw [hrn 145 _ (by omega), hrn 146 _ (by omega), hrn 147 _ (by omega), hrn 148 _ (by omega)]; exact h3.1 en hen ht hk
    · rw [hR.1 143 (by omega) (by omega)] at hk
      rw [hrn 145 _ (by omega), hrn 146 _ (by omega), hrn 147 _ (by omega), hrn 148 _ (by omega)]; exact h3.2 en hen ht hk
  · obtain ⟨h1, h2, h3⟩ := hIW
    refine ⟨?_, ?_, NB_cong h3.1 (fun en _ => rtok_all hrr), IZ_cong h3.2 (fun en _ j j1 j2 => hrr j (by omega) en.1)⟩
    · rw [sumE_cong (g := fun en => lws (rtok R en.1 en.2.2.2)) G (fun en _ => by rw [rtok_all hrr])]; exact h1
    · rw [sumE_cong (g := ew R) G (fun en _ => ew_all hrr en)]; exact h2
  · refine ⟨?_, fun r hr => (hR.1 157 (by omega) (by omega) r).trans (hIX.2.1 r hr), fun id hid => ?_⟩
    rotate_left
    · by_cases e : id = 108
      · rw [e]; exact hC.2.2
      · rw [hC.1 id e (by rintro rfl; exact absurd hid (by decide))]; exact hIX.2.2 id hid
    intro n hn hall
    obtain ⟨G', Gs, h1, h2, h3⟩ := hIX.1 n hn hall
    exact ⟨G', Gs, h1, h2, fun en hen => by
      obtain ⟨g1, g2, g3, g4⟩ := h3 en hen
      exact ⟨g1, g2, by rw [hR.1 143 (by omega) (by omega)]; exact g3, by rw [hR.1 144 (by omega) (by omega)]; exact g4⟩⟩

theorem inv_kill {C C' R R' : zr_Z} {T : List Int32} {D : List (List Int32)} {k : Nat} {G : List Ent} {live : List Nat} {rc : Nat} {bs : List (Nat × Nat × Nat × Nat)} {nl pl it : Nat}
    (h : INV C R T D k G live rc bs nl pl it) (hC : (∀ id, ¬ id = 108 → C'.1 id = C.1 id) ∧ zc C' 1 = zc C 1 ∧ (C'.1 108).length = bs.length ∧ ∀ b, b < bs.length → (C'.1 108).getD b (-1) = if (C.1 106).getD b (-1) = 0 then 1 else (C.1 108).getD b (-1))
    (hR : (∀ j, ¬ j = 163 → ∀ i, rv R' j i = rv R j i) ∧ (∀ f ∈ [3, 7, 10, 20, 21, 28, 35, 36], zf R' f = zf R f) ∧ ∀ b, b < bs.length → rv R' 163 b = if rv R 162 b = 0 then 1 else rv R 163 b) :
    INV C' R' T D k G live rc bs nl pl it := by
  refine inv_gen h ⟨fun id h1 _ => hC.1 id h1, hC.2.1, hC.2.2.1⟩ ⟨fun j h1 _ => hR.1 j h1, hR.2.1⟩ (fun b hb => ?_)
  obtain ⟨g1, g2, g3, g4, g5, g6, g7, g8, g9, g10, g11, g12, g13, g14⟩ := (h.2.2.2.1.2.2.2.2.2.1 b _ (List.getElem?_eq_getElem hb)).1
  have e108 : ldq C' 108 b = if (C.1 106).getD b (-1) = 0 then 1 else (C.1 108).getD b (-1) := hC.2.2.2 b hb
  refine ⟨?_, ?_⟩
  · rw [e108, hR.2.2 b hb, g9, g10]
    show (if nI (bs[b]).2.2.1 = 0 then 1 else ldq C 108 b) = if ldq C 106 b = 0 then 1 else ldq C 108 b
    rw [g13]
  · rw [e108]; split
    · exact Or.inr rfl
    · exact g11
theorem inv_same {C C' R R' : zr_Z} {T : List Int32} {D : List (List Int32)} {k : Nat} {G : List Ent} {live : List Nat} {rc : Nat} {bs : List (Nat × Nat × Nat × Nat)} {nl pl it : Nat}
    (h : INV C R T D k G live rc bs nl pl it) (hC : (∀ id, ¬ id = 87 → C'.1 id = C.1 id) ∧ zc C' 1 = zc C 1) (hR : (∀ j, ¬ j = 141 → ∀ i, rv R' j i = rv R j i) ∧ (∀ f ∈ [3, 7, 10, 20, 21, 28, 35, 36], zf R' f = zf R f)) :
    INV C' R' T D k G live rc bs nl pl it := by
  refine inv_gen h ⟨fun id _ h2 => hC.1 id h2, hC.2, by rw [hC.1 108 (by decide)]; exact h.bl 108 (by decide)⟩ ⟨fun j _ h2 => hR.1 j h2, hR.2⟩ (fun b hb => ?_)
  obtain ⟨g1, g2, g3, g4, g5, g6, g7, g8, g9, g10, g11, g12, g13, g14⟩ := (h.2.2.2.1.2.2.2.2.2.1 b _ (List.getElem?_eq_getElem hb)).1
  have e : ldq C' 108 b = ldq C 108 b := by unfold ldq; rw [hC.1 108 (by decide)]
  rw [hR.1 163 (by decide), e]; exact ⟨g10, g11⟩
theorem inv_sceq {C R R' : zr_Z} {T : List Int32} {D : List (List Int32)} {k : Nat} {G : List Ent} {live : List Nat} {rc : Nat} {bs : List (Nat × Nat × Nat × Nat)} {nl pl it : Nat}
    (h : INV C R T D k G live rc bs nl pl it) (hs : sceq R R') : INV C R' T D k G live rc bs nl pl it :=
  inv_same h ⟨fun _ _ => rfl, rfl⟩ ⟨fun j _ i => by unfold rv; rw [hs.2.2.1], fun f hf => hs.2.2.2.1 f (by
    simp only [List.mem_cons, List.not_mem_nil, or_false] at hf; omega)⟩
