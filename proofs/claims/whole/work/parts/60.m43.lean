/-! the mathematics; written by wip/whole/m2parts.py -/
def BASE (C R : zr_Z) (T : List Int32) (D : List (List Int32)) : Prop := IT C R T D
theorem zfill_row {C : zr_Z} {id n : Nat} {v : Int32} (hn : n ≤ 1500) (hm : zr_most id = 1500) : (zfill C id (nI n) v).1 id = List.replicate n v := by
  unfold zfill; dsimp only; rw [mup_same]; unfold rlen; rw [if_neg (nI_pos (by omega)), nI_clamp (by omega), hm, Nat.min_eq_left hn]
theorem zfill_oth {C : zr_Z} {id j : Nat} {n v : Int32} (h : ¬ j = id) : (zfill C id n v).1 j = C.1 j := by
  unfold zfill; dsimp only; rw [mup_oth _ _ h]
theorem zcut0_row {C : zr_Z} {id : Nat} : (zcut C id 0).1 id = [] := by
  rw [← nI_0, zcut_row (by omega), List.take_zero]
theorem c34 {C : zr_Z} {T : List Int32} (hC : mC C T) (hT : gT T) : (f_34 C).2 = C.2 ∧ (f_34 C).1 66 = List.replicate T.length 0 ∧ (f_34 C).1 68 = T ∧ (∀ id ∈ [70, 72, 74, 76, 78, 80], (f_34 C).1 id = []) ∧ ∀ id, ¬ id ∈ mrows → (f_34 C).1 id = C.1 id := by
  have hl := hT.1
  obtain ⟨E, hE⟩ : ∃ E, E = zcut (zfill C 66 (zs C 61) 0) 68 0 := ⟨_, rfl⟩
  have e66 : E.1 66 = List.replicate T.length 0 := by rw [hE, zcut_oth (by decide), hC.sz, zfill_row hl rfl]
  have e68 : E.1 68 = [] := by rw [hE]; exact zcut0_row
  have eo : ∀ id, ¬ id = 66 → ¬ id = 68 → E.1 id = C.1 id := fun id h1 h2 => by rw [hE, zcut_oth h2, zfill_oth h1]
  have loop : ∀ d i n Z, i + d = T.length → d < n → Z.2 = C.2 → (∀ id, ¬ id = 68 → Z.1 id = E.1 id) → Z.1 68 = T.take i →
      ∃ Z', g_34_22 n Z (nI i) = zcut (zcut (zcut (zcut (zcut (zcut Z' 70 0) 72 0) 74 0) 76 0) 78 0) 80 0 ∧ Z'.2 = C.2 ∧ (∀ id, ¬ id = 68 → Z'.1 id = E.1 id) ∧ Z'.1 68 = T := by
    intro d
    induction d with
    | zero =>
      intro i n Z hi hn h1 h2 h3
      obtain ⟨n, rfl⟩ : ∃ z, n = z + 1 := ⟨n - 1, by omega⟩
      have hz : zs Z 61 = nI T.length := by unfold zs; rw [h2 61 (by decide), eo 61 (by decide) (by decide), hC]
      refine ⟨Z, by rw [g_34_22, hz, if_pos ((nI_leI (by omega) (by omega)).mpr (by omega))], h1, h2, ?_⟩
      rw [h3, List.take_of_length_le (by omega)]
    | succ d ih =>
      intro i n Z hi hn h1 h2 h3
      obtain ⟨n, rfl⟩ : ∃ z, n = z + 1 := ⟨n - 1, by omega⟩
      have h61 : Z.1 61 = T := by rw [h2 61 (by decide), eo 61 (by decide) (by decide)]; exact hC
      have hz : zs Z 61 = nI T.length := by unfold zs; rw [h61]
      have hzt : zt Z 61 (nI i) = mA T i := by unfold zt; rw [h61, rat_mA (by omega)]
      rw [g_34_22, hz, if_neg (by rw [nI_leI (by omega) (by omega)]; omega), hzt, nI_1]
      refine ih (i + 1) n _ (by omega) (by omega) h1 (fun id hid => by rw [zadd_oth hid]; exact h2 id hid) ?_
      rw [zadd_row (by rw [h3, List.length_take]; show min i T.length < 1500; omega), h3]
      have hil : i < T.length := by omega
      rw [List.take_succ_eq_append_getElem hil]
      congr 2
      unfold mA; rw [List.getD_eq_getElem?_getD, List.getElem?_eq_getElem hil]; rfl
  obtain ⟨Z', y1, y2, y3, y4⟩ := loop T.length 0 (T.length + 1) E (by omega) (by omega) (by rw [hE]; rfl) (fun _ _ => rfl) (by rw [e68]; rfl)
  have hf : f_34 C = zcut (zcut (zcut (zcut (zcut (zcut Z' 70 0) 72 0) 74 0) 76 0) 78 0) 80 0 := by
    unfold f_34
    rw [← hE]
    have hz : zs E 61 = nI T.length := by unfold zs; rw [eo 61 (by decide) (by decide), hC]
    rw [hz, nI_toInt (by omega), show ((T.length : Int) - (0 : Int32).toInt).toNat + 1 = T.length + 1 by have : (0 : Int32).toInt = 0 := rfl; omega, ← y1, nI_0]
  rw [hf]
  refine ⟨y2, ?_, ?_, ?_, ?_⟩
  · rw [zcut_oth (by decide), zcut_oth (by decide), zcut_oth (by decide), zcut_oth (by decide), zcut_oth (by decide), zcut_oth (by decide), y3 66 (by decide)]; exact e66
  · rw [zcut_oth (by decide), zcut_oth (by decide), zcut_oth (by decide), zcut_oth (by decide), zcut_oth (by decide), zcut_oth (by decide)]; exact y4
  · intro id hid
    simp only [List.mem_cons, List.not_mem_nil, or_false] at hid
    rcases hid with rfl | rfl | rfl | rfl | rfl | rfl
    · rw [zcut_oth (by decide), zcut_oth (by decide), zcut_oth (by decide), zcut_oth (by decide), zcut_oth (by decide)]; exact zcut0_row
    · rw [zcut_oth (by decide), zcut_oth (by decide), zcut_oth (by decide), zcut_oth (by decide)]; exact zcut0_row
    · rw [zcut_oth (by decide), zcut_oth (by decide), zcut_oth (by decide)]; exact zcut0_row
    · rw [zcut_oth (by decide), zcut_oth (by decide)]; exact zcut0_row
    · rw [zcut_oth (by decide)]; exact zcut0_row
    · exact zcut0_row
  · intro id hid
    simp only [List.mem_cons, List.not_mem_nil, or_false, not_or] at hid
    rw [zcut_oth hid.2.2.2.2.2.2.2, zcut_oth hid.2.2.2.2.2.2.1, zcut_oth hid.2.2.2.2.2.1, zcut_oth hid.2.2.2.2.1, zcut_oth hid.2.2.2.1, zcut_oth hid.2.2.1, y3 id hid.2.1]; exact eo id hid.1 hid.2.1
theorem inv_start {C R : zr_Z} {T : List Int32} {D : List (List Int32)} (h : IT C R T D) : INV (f_55 C) (zmf (zmf (zmf (zmf (zmf (zar (zmf (zmf (zmf (zmf R 0 0) 10 0) 20 0) 21 0) 150 0 0) 28 0) 35 0) 36 0) 46 0) 47 (-1)) T D 0 [] [] 0 [] 0 0 0 ∧
    zc (f_55 C) 2 = 0 ∧ zc (f_55 C) 3 = -1 ∧ (∀ id, ¬ id ∈ [66, 68, 70, 72, 74, 76, 78, 80, 91, 93, 95, 97, 99, 101, 104, 106, 108, 110, 112] → (f_55 C).1 id = C.1 id) ∧ (∀ j, ¬ j = 1 → ¬ j = 2 → ¬ j = 3 → zc (f_55 C) j = zc C j) ∧ (f_55 C).2.2 = C.2.2 := by
  obtain ⟨h1, h2, hT, h4, h5⟩ := h
  obtain ⟨a1, a2, a3, a4, a5⟩ := c34 h1 hT
  obtain ⟨b1, b2, b3⟩ := c77 (C := f_34 C) (n := 0) (by omega)
  obtain ⟨c1, c2, c3⟩ := c26 (C := f_77 (f_34 C) (nI 0)) (n := 0) (by omega)
  rw [nI_0] at b1 b2 b3 c1 c2 c3
  have hrow : (f_55 C).1 = (f_26 (f_77 (f_34 C) 0) 0).1 := rfl
  have hr : ∀ id, ¬ id ∈ [91, 93, 95, 97, 99, 101] → ¬ id ∈ [104, 106, 108, 110, 112] → (f_55 C).1 id = (f_34 C).1 id := fun id q1 q2 => by rw [hrow, c3 id q2, b3 id q1]
  have hrun : ∀ id ∈ [91, 93, 95, 97, 99, 101], (f_55 C).1 id = [] := fun id hid => by rw [hrow, c3 id (by revert hid; revert id; decide), b2 id hid, List.take_zero]
  have hbr : ∀ id ∈ [104, 106, 108, 110, 112], (f_55 C).1 id = [] := fun id hid => by rw [hrow, c2 id hid, List.take_zero]
  have h22 : (f_55 C).2.2 = C.2.2 := by
    show (f_26 (f_77 (f_34 C) 0) 0).2.2 = C.2.2
    rw [c1, b1, a1]
  have hz0 : (f_26 (f_77 (f_34 C) 0) 0).2 = C.2 := by rw [c1, b1, a1]
  have hkd : ∀ q, q < T.length → kd (f_55 C) q = 0 ∧ vl (f_55 C) q = mA T q := fun q hq => by
    unfold kd vl
    rw [hr 66 (by decide) (by decide), hr 68 (by decide) (by decide), a2, a3]
    refine ⟨?_, rfl⟩
    rw [List.getD_eq_getElem?_getD, List.getElem?_replicate, if_pos hq]; rfl
  have hkd8 : ∀ q, kd (f_55 C) q = 0 ∨ kd (f_55 C) q = -1 := fun q => by
    by_cases hq : q < T.length
    · exact Or.inl (hkd q hq).1
    · right; unfold kd; rw [hr 66 (by decide) (by decide), a2, List.getD_eq_getElem?_getD, List.getElem?_eq_none (by rw [List.length_replicate]; omega)]; rfl
  obtain ⟨R0, hR0⟩ : ∃ R0, R0 = zmf (zmf (zmf (zmf (zmf (zar (zmf (zmf (zmf (zmf R 0 0) 10 0) 20 0) 21 0) 150 0 0) 28 0) 35 0) 36 0) 46 0) 47 (-1) := ⟨_, rfl⟩
  rw [← hR0]
  have hv : ∀ j, ¬ j = 150 → ∀ i, rv R0 j i = rv R j i := fun j hj i => by
    rw [hR0]; simp only [rv_zmf]; rw [rv_oth _ _ _ hj]; simp only [rv_zmf]
  have hv150 : rv R0 150 0 = 0 := by
    rw [hR0]; simp only [rv_zmf]; rw [← nI_0, rv_at _ _ _ (by omega), if_pos rfl]
  have hf : ∀ f, f ∈ [3, 7] → zf R0 f = zf R f := fun f hf' => by
    rw [hR0]
    rw [zf_other _ _ (by rintro rfl; exact absurd hf' (by decide)), zf_other _ _ (by rintro rfl; exact absurd hf' (by decide)), zf_other _ _ (by rintro rfl; exact absurd hf' (by decide)), zf_other _ _ (by rintro rfl; exact absurd hf' (by decide)), zf_other _ _ (by rintro rfl; exact absurd hf' (by decide)), zf_zar, zf_other _ _ (by rintro rfl; exact absurd hf' (by decide)), zf_other _ _ (by rintro rfl; exact absurd hf' (by decide)), zf_other _ _ (by rintro rfl; exact absurd hf' (by decide)), zf_other _ _ (by rintro rfl; exact absurd hf' (by decide))]
  have f10 : zf R0 10 = 0 := by
    rw [hR0, zf_other _ _ (by decide), zf_other _ _ (by decide), zf_other _ _ (by decide), zf_other _ _ (by decide), zf_other _ _ (by decide), zf_zar, zf_other _ _ (by decide), zf_other _ _ (by decide), zf_same]
  have f20 : zf R0 20 = 0 := by
    rw [hR0, zf_other _ _ (by decide), zf_other _ _ (by decide), zf_other _ _ (by decide), zf_other _ _ (by decide), zf_other _ _ (by decide), zf_zar, zf_other _ _ (by decide), zf_same]
  have f21 : zf R0 21 = 0 := by
    rw [hR0, zf_other _ _ (by decide), zf_other _ _ (by decide), zf_other _ _ (by decide), zf_other _ _ (by decide), zf_other _ _ (by decide), zf_zar, zf_same]
  have f28 : zf R0 28 = 0 := by
    rw [hR0, zf_other _ _ (by decide), zf_other _ _ (by decide), zf_other _ _ (by decide), zf_other _ _ (by decide), zf_same]
  have f35 : zf R0 35 = 0 := by
    rw [hR0, zf_other _ _ (by decide), zf_other _ _ (by decide), zf_other _ _ (by decide), zf_same]
  have f36 : zf R0 36 = 0 := by
    rw [hR0, zf_other _ _ (by decide), zf_other _ _ (by decide), zf_same]
  have hz1 : zc (f_55 C) 1 = 0 := by unfold f_55 f_25 zc zsc va_up; rfl
  refine ⟨⟨⟨?_, ⟨(hf 3 (by decide)).trans h2.1, fun i hi => (hv 137 (by decide) i).trans (h2.2 i hi)⟩, hT, fun i hi => (hv 173 (by decide) i).trans (h4 i hi), ?_⟩, ⟨?_, ?_, Nat.zero_le _, fun q _ hq => hkd q hq, rfl, ⟨hv150, f21⟩, by simp, f20, fun en hen => absurd hen (by simp), Nat.le_refl _⟩,
    ⟨fun id hid => by rw [hrun id hid]; rfl, List.Pairwise.nil, fun r hr => absurd hr (by simp), f28, rfl, fun x a e r hm => absurd hm (by simp), fun r hr => by omega, fun i r hir => absurd hir (by simp)⟩,
    ⟨fun id hid => Nat.zero_le _, f35, ⟨Nat.le_refl _, Nat.le_refl _⟩, hz1.trans f36.symm, ⟨0, Nat.le_refl _, hz1⟩, fun b w hbw => absurd hbw (by simp), List.Pairwise.nil⟩,
    ⟨fun id hid => by rw [hr id (by revert hid; revert id; decide) (by revert hid; revert id; decide), a4 id hid]; rfl, Nat.le_refl _, fun i hi => by omega, fun q hq => ?_⟩, ⟨f10, Nat.le_refl _, fun en hen => absurd hen (by simp), fun en hen => absurd hen (by simp)⟩, ⟨Nat.le_refl _, Nat.le_refl _, ⟨fun A B hA => by rw [(List.append_eq_nil_iff.mp hA.symm).1]; exact Nat.le_refl _, fun hh => absurd hh (by omega)⟩, fun en hen => absurd hen (by simp)⟩, ?_, fun r hr => absurd hr (by simp), fun id hid => by rw [hbr id hid]; rfl⟩, ?_, ?_, ?_, ?_, h22⟩
  · show (f_55 C).1 61 = T
    rw [hr 61 (by decide) (by decide), a5 61 (by decide)]; exact h1
  · obtain ⟨d1, d2, d3, d4, d5, d6, d7⟩ := h5
    exact ⟨d1, d2, by rw [hr 83 (by decide) (by decide), a5 83 (by decide)]; exact d3, by rw [hr 85 (by decide) (by decide), a5 85 (by decide)]; exact d4, (hf 7 (by decide)).trans d5, fun d hd => by rw [hv 140 (by decide)]; exact d6 d hd, fun d k hd hk => by rw [hv 139 (by decide)]; exact d7 d k hd hk⟩
  · rw [hr 66 (by decide) (by decide), a2, List.length_replicate]
  · rw [hr 68 (by decide) (by decide), a3]
  · rcases hkd8 q with g | g <;> rw [g] at hq <;> exact absurd hq (by decide)
  · intro n hn _
    obtain rfl : n = 0 := by omega
    exact ⟨[], [], rfl, rfl, fun en hen => absurd hen (by simp)⟩
  · unfold f_55 zc zsc va_up; rfl
  · unfold f_55 zc zsc va_up; rfl
  · intro id hid
    rw [hr id (fun hh => hid (by simp only [List.mem_cons, List.not_mem_nil, or_false] at hh ⊢; omega)) (fun hh => hid (by simp only [List.mem_cons, List.not_mem_nil, or_false] at hh ⊢; omega))]
    exact a5 id (fun hh => hid (by simp only [List.mem_cons, List.not_mem_nil, or_false] at hh ⊢; omega))
  · intro j j1 j2 j3
    have : zc (f_55 C) j = zc (f_26 (f_77 (f_34 C) 0) 0) j := by
      unfold f_55 f_25 zc zsc va_up
      dsimp only
      rw [if_neg j3, if_neg j2, if_neg j1]
    rw [this]; unfold zc; rw [hz0]
theorem read_loop {T : List Int32} {D : List (List Int32)} : ∀ d k C R G live rc bs nl pl it n m, T.length - k ≤ d → d + 1 < n → d + 1 < m → INV C R T D k G live rc bs nl pl it → zc C 2 = zf R 46 → zc C 3 = zf R 47 →
    ∃ k' C' R' G' live' rc' bs' nl' pl' it', INV C' R' T D k' G' live' rc' bs' nl' pl' it' ∧ (k' = T.length ∨ ¬ zc C' 2 = 0) ∧ zc C' 2 = zf R' 46 ∧ zc C' 3 = zf R' 47 ∧ g_54_6 n C (nI k) = (Option.bind (o_80 C' 0) fun u2 => some u2) ∧
      g_159_54 m R (nI k) = (if ¬ (zf R' 46) = 0 then (if (zf R' 46) = 0 then some (zf R' 45, R') else some (0, zmf (zmf R' 45 (-1)) 0 1)) else (Option.bind (o_134 R' 0) fun u4 => (Option.bind (o_152 u4) fun u5 => (if (zf u5 46) = 0 then some (zf u5 45, u5) else some (0, zmf (zmf u5 45 (-1)) 0 1))))) := by
  intro d
  induction d using Nat.strongRecOn with
  | ind d ih =>
  intro k C R G live rc bs nl pl it n m hd hn hm h f2 f3
  have hT := h.1.2.2.1
  have hl := hT.1
  have hkL := h.2.1.2.2.1
  obtain ⟨n, rfl⟩ : ∃ z, n = z + 1 := ⟨n - 1, by omega⟩
  obtain ⟨m, rfl⟩ : ∃ z, m = z + 1 := ⟨m - 1, by omega⟩
  have hz : zf R 3 = nI T.length := h.1.2.1.1
  by_cases hend : T.length ≤ k
  · refine ⟨k, C, R, G, live, rc, bs, nl, pl, it, h, Or.inl (by omega), f2, f3, ?_, ?_⟩
    · rw [g_54_6, h.1.1.sz, if_pos ((nI_leI (by omega) (by omega)).mpr hend)]
    · rw [g_159_54, hz, if_pos ((nI_leI (by omega) (by omega)).mpr hend)]
  · by_cases hf : zc C 2 = 0
    · obtain ⟨C', R', k', G', live', rc', bs', nl', pl', it', q1, q2, q3, q4, q5, q6⟩ := part_all h (by omega) hf f2 f3
      have hk'L := q4.2.1.2.2.1
      obtain ⟨k2, C2, R2, G2, live2, rc2, bs2, nl2, pl2, it2, w1, w2, w3, w4, w5, w6⟩ := ih (T.length - k') (by omega) k' C' R' G' live' rc' bs' nl' pl' it' n m (Nat.le_refl _) (by omega) (by omega) q4 q5 q6
      refine ⟨k2, C2, R2, G2, live2, rc2, bs2, nl2, pl2, it2, w1, w2, w3, w4, by rw [q1 n]; exact w5, ?_⟩
      have hf' : zf R 46 = 0 := by rw [← f2]; exact hf
      rw [g_159_54, hz, if_neg (by rw [nI_leI (by omega) (by omega)]; exact hend), if_neg (fun hh => hh hf'), q2]
      simp only [Option.bind_some]; exact w6
    · refine ⟨k, C, R, G, live, rc, bs, nl, pl, it, h, Or.inr hf, f2, f3, ?_, ?_⟩
      · rw [g_54_6, h.1.1.sz, if_neg (by rw [nI_leI (by omega) (by omega)]; exact hend), if_pos hf]
      · have hf' : ¬ zf R 46 = 0 := by rw [← f2]; exact hf
        rw [g_159_54, hz, if_neg (by rw [nI_leI (by omega) (by omega)]; exact hend), if_pos hf']
