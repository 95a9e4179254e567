/-! the mathematics; written by wip/whole/m2parts.py -/
def RDN (C R : zr_Z) (T : List Int32) (D : List (List Int32)) (G : List Ent) (rc nl pl it : Nat) : Prop :=
  IT C R T D ∧ IS C R T T.length T.length G it ∧ (rc ≤ T.length ∧ zf R 28 = nI rc ∧ G.filterMap (fun en => en.2.2.2) = List.range rc ∧ (∀ x a e r, (x, a, e, some r) ∈ G → rv R 143 x = 10 ∧ rv R 154 r = nI (e - a))) ∧
  IL C T T.length nl ∧ IP R G T.length pl ∧ IW R G T.length T.length
theorem rdn_of {C C' R R2 : zr_Z} {T : List Int32} {D : List (List Int32)} {G : List Ent} {live : List Nat} {rc : Nat} {bs : List (Nat × Nat × Nat × Nat)} {nl pl it : Nat}
    (h : INV0 C R T D T.length T.length G live rc bs nl pl it) (hC : ∀ id, ¬ id ∈ [91, 93, 95, 97, 99, 101] → C'.1 id = C.1 id) (hR : (∀ j, ¬ j = 157 → ∀ i, rv R2 j i = rv R j i) ∧ (∀ f, zf R2 f = zf R f)) : RDN C' R2 T D G rc nl pl it := by
  obtain ⟨hIT, hIS, hIR, hIB, hIL, hIP, hIW⟩ := h
  obtain ⟨r1, r2, r3, r4, r5, r6, r7, r8⟩ := hIR
  have hlo : ∀ id i, ¬ id ∈ [91, 93, 95, 97, 99, 101] → ldq C' id i = ldq C id i := fun id i hid => by rw [ldq_eq, ldq_eq, hC id hid]
  have hkd : ∀ q, kd C' q = kd C q := fun q => by unfold kd; rw [hC 66 (by decide)]
  have hvl : ∀ q, vl C' q = vl C q := fun q => by unfold vl; rw [hC 68 (by decide)]
  have hct : ∀ q, ctok C' T q = ctok C T q := fun q => by
    rw [ctok_eq, ctok_eq]; unfold ldT ldU
    rw [hkd, hvl, hlo 72 _ (by decide), hlo 70 _ (by decide), hlo 74 _ (by decide), hlo 76 _ (by decide), hlo 78 _ (by decide), hlo 80 _ (by decide)]
  have hrr : ∀ j, (142 ≤ j ∧ j ≤ 149) ∨ j = 154 → ∀ i, rv R2 j i = rv R j i := fun j hj i => hR.1 j (by omega) i
  have hrn : ∀ j x, ¬ j = 157 → rvn R2 j x = rvn R j x := fun j x hj => congrArg Int32.toNatClampNeg (hR.1 j hj x)
  refine ⟨?_, ?_, ⟨hIB.2.2.1.2, (hR.2 28).trans r4, r5, fun x a e r hm => ?_⟩, ?_, ?_, ?_⟩
  · obtain ⟨h1, h2, h3, h4, h5⟩ := hIT
    obtain ⟨d1, d2, d3, d4, d5, d6, d7⟩ := h5
    refine ⟨(hC 61 (by decide)).trans h1, ⟨(hR.2 3).trans h2.1, fun i hi => (hR.1 137 (by omega) i).trans (h2.2 i hi)⟩, h3, fun i hi => (hR.1 173 (by omega) i).trans (h4 i hi), d1, d2, (hC 83 (by decide)).trans d3, (hC 85 (by decide)).trans d4, (hR.2 7).trans d5, fun d hd => ?_, fun d k hd hk => ?_⟩
    · rw [hR.1 140 (by omega)]; exact d6 d hd
    · rw [hR.1 139 (by omega)]; exact d7 d k hd hk
  · obtain ⟨s1, s2, s3, s4, s5, s6, s7, s8, s9, s10⟩ := hIS
    refine ⟨by rw [hC 66 (by decide)]; exact s1, by rw [hC 68 (by decide)]; exact s2, s3, fun q h1 h2 => by rw [hkd, hvl]; exact s4 q h1 h2, SG_cong G 0 _ s5 (fun p _ _ => hct p) (fun en _ => rtok_all hrr), ?_, s7, (hR.2 20).trans s8, s9, s10⟩
    exact chn_cong _ _ s6 (fun v _ => hR.1 150 (by omega) v) (fun v _ => hR.1 151 (by omega) v) (hR.2 21)
  · have := r6 x a e r hm
    rw [hR.1 143 (by omega), hR.1 154 (by omega)]; exact ⟨this.2.1, this.2.2.1⟩
  · obtain ⟨h1, h2, h3, h4⟩ := hIL
    refine ⟨fun id hid => by rw [hC id (by revert hid; revert id; decide)]; exact h1 id hid, h2, fun i hi => ?_, fun q hq => ?_⟩
    · have := h3 i hi
      unfold LD1 at this ⊢
      rw [hlo 70 _ (by decide), hlo 74 _ (by decide), hlo 76 _ (by decide), hlo 78 _ (by decide), hlo 80 _ (by decide)]; exact this
    · rw [hkd] at hq; rw [hvl]; exact h4 q hq
  · obtain ⟨h1, h2, h3⟩ := hIP
    refine ⟨(hR.2 10).trans h1, h2, fun en hen ht hk => ?_, fun en hen ht hk => ?_⟩
    · rw [hR.1 143 (by omega)] at hk
      rw [hrn 145 _ (by omega), hrn 146 _ (by omega), hrn 147 _ (by omega), hrn 148 _ (by omega)]; exact h3.1 en hen ht hk
    · rw [hR.1 143 (by omega)] at hk
      rw [hrn 145 _ (by omega), hrn 146 _ (by omega), hrn 147 _ (by omega), hrn 148 _ (by omega)]; exact h3.2 en hen ht hk
  · obtain ⟨h1, h2, h3⟩ := hIW
    refine ⟨?_, ?_, NB_cong h3.1 (fun en _ => rtok_all hrr), IZ_cong h3.2 (fun en _ j j1 j2 => hrr j (by omega) en.1)⟩
    · rw [sumE_cong (g := fun en => lws (rtok R en.1 en.2.2.2)) G (fun en _ => by rw [rtok_all hrr])]; exact h1
    · rw [sumE_cong (g := ew R) G (fun en _ => ew_all hrr en)]; exact h2
theorem marked {C R : zr_Z} {T : List Int32} {D : List (List Int32)} (h : IT C R T D) :
    (∃ C' R', o_54 C = some C' ∧ IT C' R' T D ∧ ¬ zc C' 2 = 0 ∧ zc C' 2 = zf R' 46 ∧ zc C' 3 = zf R' 47 ∧ o_159 R = some (0, zmf (zmf R' 45 (-1)) 0 1)) ∨
    (∃ C' R' G rc nl pl it, o_54 C = some C' ∧ RDN C' R' T D G rc nl pl it ∧ zc C' 2 = 0 ∧ zf R' 46 = 0 ∧ zc C' 3 = zf R' 47 ∧
      o_159 R = (Option.bind (o_152 R') fun u5 => (if (zf u5 46) = 0 then some (zf u5 45, u5) else some (0, zmf (zmf u5 45 (-1)) 0 1)))) := by
  obtain ⟨i1, i2, i3, i4, i5, i6⟩ := inv_start h
  have hl := h.2.2.1.1
  obtain ⟨k', C1, R1, G, live, rc, bs, nl, pl, it, w1, w2, w3, w4, w5, w6⟩ := read_loop T.length 0 _ _ _ _ _ _ _ _ _ oF oF (by omega) (by unfold oF; omega) (by unfold oF; omega) i1 (by rw [i2]; rfl) (by rw [i3]; rfl)
  rw [nI_0] at w5 w6
  obtain ⟨C2, R2, R3, G2, it2, p1, p2, p3, p4, p5, p6, p7⟩ := pair_lock (fi := 0) (b0 := 0) (Nat.le_refl _) (by rw [List.countP_eq_zero]; intro r _; simp) (Nat.zero_le _) w1.z w1.ov
  rw [nI_0] at p3 p4
  obtain ⟨c1, c2, c3⟩ := c77 (C := C2) (n := 0) (by omega)
  rw [nI_0] at c1 c2 c3
  have e54 : o_54 C = some (f_77 C2 0) := by
    unfold o_54; rw [w5, p3]; rfl
  have hz : ∀ j, zc (f_77 C2 0) j = zc C1 j := fun j => by unfold zc; rw [c1, p2.1]
  have e159 : o_159 R = (if ¬ (zf R1 46) = 0 then (if (zf R1 46) = 0 then some (zf R1 45, R1) else some (0, zmf (zmf R1 45 (-1)) 0 1)) else (Option.bind (o_134 R1 0) fun u4 => (Option.bind (o_152 u4) fun u5 => (if (zf u5 46) = 0 then some (zf u5 45, u5) else some (0, zmf (zmf u5 45 (-1)) 0 1))))) := by
    unfold o_159; rw [if_pos (by decide)]; exact w6
  by_cases hf : zc C1 2 = 0
  · refine Or.inr ⟨f_77 C2 0, R3, G2, rc, nl, pl, it2, e54, ?_, by rw [hz]; exact hf, ?_, ?_, ?_⟩
    · obtain rfl : k' = T.length := by
        rcases w2 with g | g
        · exact g
        · exact absurd hf g
      exact rdn_of p1 (fun id hid => c3 id hid) ⟨p5, p6⟩
    · rw [p6, p2.2.2.1 46 (by decide) (by decide), ← w3]; exact hf
    · rw [hz, p6, p2.2.2.1 47 (by decide) (by decide), ← w4]
    · rw [e159, if_neg (by rw [← w3]; exact fun hh => hh hf), p4]; rfl
  · refine Or.inl ⟨f_77 C2 0, R1, e54, ?_, by rw [hz]; exact hf, by rw [hz]; exact w3, by rw [hz]; exact w4, ?_⟩
    · obtain ⟨h1, h2, h3, h4, h5⟩ := w1.1
      obtain ⟨d1, d2, d3, d4, d5, d6, d7⟩ := h5
      have hrow : ∀ id, ¬ id ∈ [91, 93, 95, 97, 99, 101] → ¬ id ∈ [66, 95, 97, 99] → (f_77 C2 0).1 id = C1.1 id := fun id g1 g2 => (c3 id g1).trans (p2.2.1 id g2)
      exact ⟨(hrow 61 (by decide) (by decide)).trans h1, h2, h3, h4, d1, d2, (hrow 83 (by decide) (by decide)).trans d3, (hrow 85 (by decide) (by decide)).trans d4, d5, d6, d7⟩
    · rw [e159, if_pos (by rw [← w3]; exact hf), if_neg (by rw [← w3]; exact hf)]
