/-! the mathematics; written by wip/whole/m2parts.py -/
theorem c27 {C : zr_Z} {n : Nat} (hn : n < 1500) (h : ∀ id ∈ [104, 106, 108, 110, 112], (C.1 id).length = n) (p : Int32) (im : Bool) :
    (∀ j, ¬ j = 1 → zc (f_27 C p im) j = zc C j) ∧ zc (f_27 C p im) 1 = zc C 1 + 1 ∧ (f_27 C p im).1 104 = C.1 104 ++ [p] ∧ (f_27 C p im).1 106 = C.1 106 ++ [bI im] ∧ (f_27 C p im).1 108 = C.1 108 ++ [0] ∧ (f_27 C p im).1 110 = C.1 110 ++ [zs C 91] ∧ (f_27 C p im).1 112 = C.1 112 ++ [zc C 1 + 1] ∧ ∀ id, ¬ id ∈ [104, 106, 108, 110, 112] → (f_27 C p im).1 id = C.1 id := by
  have h104 : (C.1 104).length < 1500 := by rw [h 104 (by decide)]; exact hn
  have h106 : (C.1 106).length < 1500 := by rw [h 106 (by decide)]; exact hn
  have h108 : (C.1 108).length < 1500 := by rw [h 108 (by decide)]; exact hn
  have h110 : (C.1 110).length < 1500 := by rw [h 110 (by decide)]; exact hn
  have h112 : (C.1 112).length < 1500 := by rw [h 112 (by decide)]; exact hn
  have e1 : (zsc C 1 (zc C 1 + 1)).1 = C.1 := rfl
  have ezc : zc (zadd (zadd (zadd (zadd (zsc C 1 (zc C 1 + 1)) 104 p) 106 (bI im)) 108 0) 110 (f_76 (zadd (zadd (zadd (zsc C 1 (zc C 1 + 1)) 104 p) 106 (bI im)) 108 0))) 1 = zc C 1 + 1 := zc_zsc _ _ _
  have ezs : f_76 (zadd (zadd (zadd (zsc C 1 (zc C 1 + 1)) 104 p) 106 (bI im)) 108 0) = zs C 91 := by
    unfold f_76 zs; rw [zadd_oth (by decide), zadd_oth (by decide), zadd_oth (by decide)]; rfl
  unfold f_27
  rw [ezc, ezs]
  refine ⟨fun j hj => ?_, zc_zsc _ _ _, ?_, ?_, ?_, ?_, ?_, ?_⟩
  · show zc (zsc C 1 (zc C 1 + 1)) j = zc C j
    unfold zc zsc; exact mup_oth _ _ hj
  · rw [zadd_oth (by decide), zadd_oth (by decide), zadd_oth (by decide), zadd_oth (by decide), zadd_row (C := zsc C 1 (zc C 1 + 1)) h104]; rfl
  · rw [zadd_oth (by decide), zadd_oth (by decide), zadd_oth (by decide), zadd_row, zadd_oth (by decide)]
    · rfl
    · rw [zadd_oth (by decide)]; exact h106
  · rw [zadd_oth (by decide), zadd_oth (by decide), zadd_row, zadd_oth (by decide), zadd_oth (by decide)]
    · rfl
    · rw [zadd_oth (by decide), zadd_oth (by decide)]; exact h108
  · rw [zadd_oth (by decide), zadd_row, zadd_oth (by decide), zadd_oth (by decide), zadd_oth (by decide)]
    · rfl
    · rw [zadd_oth (by decide), zadd_oth (by decide), zadd_oth (by decide)]; exact h110
  · rw [zadd_row, zadd_oth (by decide), zadd_oth (by decide), zadd_oth (by decide), zadd_oth (by decide)]
    · rfl
    · rw [zadd_oth (by decide), zadd_oth (by decide), zadd_oth (by decide), zadd_oth (by decide)]; exact h112
  · intro id hid
    simp only [List.mem_cons, List.not_mem_nil, or_false, not_or] at hid
    rw [zadd_oth hid.2.2.2.2, zadd_oth hid.2.2.2.1, zadd_oth hid.2.2.1, zadd_oth hid.2.1, zadd_oth hid.1]; rfl
section
variable {C R : zr_Z} {T : List Int32} {D : List (List Int32)} {k : Nat} {G : List Ent} {live : List Nat} {rc : Nat} {bs : List (Nat × Nat × Nat × Nat)} {nl pl it : Nat}
theorem part_bracket (h : INV C R T D k G live rc bs nl pl it) (hk : k < T.length) (h2 : zc C 2 = 0) (f2 : zc C 2 = zf R 46) (f3 : zc C 3 = zf R 47) (im : Bool) (hc : if im = true then mA T k = 33 ∧ mA T (k + 1) = 91 else mA T k = 91) : PARTOK C R T D k := by
  have hT := h.1.2.2.1
  have hl := hT.1
  have hmC := h.1.1
  have hmR := h.1.2.1
  have hS := h.sok
  obtain ⟨s1, s2, s3, s4, s5, s6, s7, s8, s9, s10⟩ := h.2.1
  obtain ⟨b1, b2, b3, b4, ⟨mt, mt1, mt2⟩, b6, b7⟩ := h.2.2.2.1
  obtain ⟨i, hi⟩ : ∃ i, i = if im = true then 1 else 0 := ⟨_, rfl⟩
  have hi1 : i ≤ 1 := by rw [hi]; split <;> omega
  have hbi : bI im = nI i := by rw [hi]; cases im <;> rfl
  have hki : k + 1 + i ≤ T.length := by
    cases im with
    | true => have := mA_lt hc.2 (by decide); rw [hi, if_pos rfl]; omega
    | false => rw [hi, if_neg (by decide)]; omega
  have cls : ∀ n, g_54_6 (n + 1) C (nI k) = g_54_6 n (f_27 C (nI k) im) (nI (k + 1 + i)) := by
    intro n
    cases im with
    | true =>
      obtain ⟨hc1, hc2⟩ := hc
      have hf : f_51 C (nI k) = (nI (k + 2), f_27 C (nI k) true) := by
        unfold f_51; rw [hmC.at (by omega), nI_1, hmC.at (by omega), hc1, if_pos (by decide), if_pos hc2, if_pos (by decide), nI_2]; rfl
      rw [cs_in hmC hT hk h2, if_neg (by rw [hc1]; decide), if_pos hc1, hf, zmax_up (by omega) (by omega), hi]; rfl
    | false =>
      have hc1 : mA T k = 91 := hc
      have hf : f_51 C (nI k) = (nI (k + 1), f_27 C (nI k) false) := by
        unfold f_51; rw [hmC.at (by omega), hc1, if_neg (by decide), if_neg (by decide), nI_1]; rfl
      rw [cs_in hmC hT hk h2, if_neg (by rw [hc1]; decide), if_neg (by rw [hc1]; decide), if_neg (by rw [hc1]; decide), if_neg (by rw [hc1]; decide), if_neg (by rw [hc1]; decide), if_pos hc1, hf, zmax_up (by omega) (by omega), hi]; rfl
  have rfs : o_149 R (nI k) = (Option.bind (o_139 R (nI k) im) fun u16 => (if sok u16.2 then some (u16.1, u16.2) else none)) := by
    rw [rs_in hmR hT hk]
    cases im with
    | true => rw [hc.1, if_neg (by decide), if_neg (by decide), if_neg (by decide), if_neg (by decide), if_neg (by decide), if_neg (by decide), if_neg (by decide), if_neg (by decide), if_neg (by decide), if_neg (by decide), if_neg (fun h => h hc.2)]
    | false =>
      have hc1 : mA T k = 91 := hc
      rw [hc1]; rfl
  have hlast : mA T (k + 1 + i - 1) = 91 := by
    rw [hi]; cases im with
    | true => exact hc.2
    | false => exact hc
  have hu := fun q h1 h2 => s4 q h1 (h2 : q < T.length)
  obtain ⟨R1, q1, q2, q3, q4, q5⟩ := inv_item1 (C' := C) (k' := k + 1 + i) (wh := 11) (le := bI im) h.z h.ov h.bl (by omega) (by omega) hki (CK2.refl C) (fun _ _ => ⟨rfl, rfl⟩) (fun q a b => by rw [(hu q a (by omega)).1]; decide) (by decide) (by
    cases im with
    | true =>
      have hi' : i = 1 := hi
      rw [hi', show k + 1 + 1 - k = 1 + 1 by omega, ctk_add, ctk_one, ctk_one]
      unfold ctok; rw [(hu k (by omega) hk).1, (hu k (by omega) hk).2, (hu (k + 1) (by omega) (by omega)).1, (hu (k + 1) (by omega) (by omega)).2, hc.1, hc.2]; rfl
    | false =>
      have hi' : i = 0 := hi
      have hc1 : mA T k = 91 := hc
      rw [hi', show k + 1 + 0 - k = 1 by omega, ctk_one]
      unfold ctok; rw [(hu k (by omega) hk).1, (hu k (by omega) hk).2, hc1]; rfl) (by
    cases im with
    | true => have hi' : i = 1 := hi
              rw [hi']; show 5 * 2 ≤ _; omega
    | false => show 5 * 1 ≤ _; omega) (Or.inl ⟨rfl, rfl⟩) (Or.inl (by rw [hlast]; decide))
  have hq : ∀ j, zr_alen j = 1500 → inq j (nI bs.length) := fun j hj => inq_nI (by omega) (by omega)
  have h35 : zf R1 35 = nI bs.length := (q3 35 (by decide) (by decide)).trans b2
  have h28 : zf R1 28 = nI rc := q2.2.2.1.2.2.2.1
  have hbb : bs.length < 2 ^ 31 := by omega
  have hkk : (if im = true then nI k + 2 else nI k + 1 : Int32) = nI (k + 1 + i) := by rw [hi, nI_1, nI_2]; cases im <;> rfl
  have h36 : zf R1 36 = zc C 1 := (q3 36 (by decide) (by decide)).trans b4.symm
  obtain ⟨R', hR', hres⟩ : ∃ R', R' = zmf (zar (zmf (zar (zar (zar (zar (zar R1 158 (nI bs.length) (nI (it + 1))) 159 (nI bs.length) (nI (k + 1 + i))) 160 (nI bs.length) (nI rc)) 162 (nI bs.length) (bI im)) 163 (nI bs.length) 0) 36 (zc C 1 + 1)) 161 (nI bs.length) (zc C 1 + 1)) 35 (nI (bs.length + 1)) ∧ o_139 R (nI k) im = some (nI (k + 1 + i), R') := by
    refine ⟨_, rfl, ?_⟩
    unfold o_139
    rw [q1]
    simp only [Option.bind_some]
    rw [b2, h35, if_pos (hq 158 rfl), if_pos (hq 159 rfl), if_pos (hq 160 rfl), if_pos (hq 162 rfl), if_pos (hq 163 rfl), hkk, h28, h36]
    unfold olet
    dsimp only
    have e35 : zf (zmf (zar (zar (zar (zar (zar R1 158 (nI bs.length) (nI (it + 1))) 159 (nI bs.length) (nI (k + 1 + i))) 160 (nI bs.length) (nI rc)) 162 (nI bs.length) (bI im)) 163 (nI bs.length) 0) 36 (zc C 1 + 1)) 35 = nI bs.length := by rw [zf_other _ _ (by decide)]; exact h35
    have e36 : zf (zmf (zar (zar (zar (zar (zar R1 158 (nI bs.length) (nI (it + 1))) 159 (nI bs.length) (nI (k + 1 + i))) 160 (nI bs.length) (nI rc)) 162 (nI bs.length) (bI im)) 163 (nI bs.length) 0) 36 (zc C 1 + 1)) 36 = zc C 1 + 1 := zf_same _ _ _
    rw [e35, e36, nI_1, nI_pred, if_pos (hq 161 rfl), if_pos (hq 159 rfl), zv_nI _ _ hbb, rv_zmf, rv_oth _ _ _ (by decide), rv_oth _ _ _ (by decide), rv_oth _ _ _ (by decide), rv_at _ _ _ hbb, if_pos rfl]
  obtain ⟨z0, z1, z104, z106, z108, z110, z112, zoth⟩ := c27 (C := C) (n := bs.length) (by omega) h.bl (nI k) im
  have hzs : zs C 91 = nI live.length := by unfold zs; rw [h.2.2.1.1 91 (by decide)]
  have hinv := inv_brk (C' := f_27 C (nI k) im) (R' := R') (x := it + 1) (p := k) (im := i) q2 (by omega) (fun u hu => by
      obtain ⟨b, hb, rfl⟩ := List.mem_iff_getElem.mp hu
      have := s9 _ (b6 b _ (List.getElem?_eq_getElem hb)).1.1
      dsimp only at this; omega) ⟨mt, by omega, mt2⟩ (List.mem_append_right _ (List.mem_singleton.mpr rfl)) hi1 q4 (by rw [q5, hbi])
    ⟨zoth, z1, z104, by rw [z106, hbi], z108, by rw [z110, hzs], z112⟩
    ⟨fun j hj i => by rw [hR', rv_zmf, rv_oth _ _ _ (by omega), rv_zmf, rv_oth _ _ _ (by omega), rv_oth _ _ _ (by omega), rv_oth _ _ _ (by omega), rv_oth _ _ _ (by omega), rv_oth _ _ _ (by omega)], fun j j1 j2 i hi => by
      rw [hR']; simp only [rv_zmf, rv_zar _ _ _ _ hbb]
      rw [if_neg (fun h => hi h.2), if_neg (fun h => hi h.2), if_neg (fun h => hi h.2), if_neg (fun h => hi h.2), if_neg (fun h => hi h.2), if_neg (fun h => hi h.2)], fun f hf => by
      rw [hR', zf_other _ _ (by rintro rfl; exact absurd hf (by decide)), zf_zar, zf_other _ _ (by rintro rfl; exact absurd hf (by decide))]; rfl⟩
    ⟨by rw [hR', rv_zmf, rv_oth _ _ _ (by decide), rv_zmf, rv_oth _ _ _ (by decide), rv_oth _ _ _ (by decide), rv_oth _ _ _ (by decide), rv_oth _ _ _ (by decide), rv_at _ _ _ hbb, if_pos rfl],
     by rw [hR', rv_zmf, rv_oth _ _ _ (by decide), rv_zmf, rv_oth _ _ _ (by decide), rv_oth _ _ _ (by decide), rv_oth _ _ _ (by decide), rv_at _ _ _ hbb, if_pos rfl],
     by rw [hR', rv_zmf, rv_oth _ _ _ (by decide), rv_zmf, rv_oth _ _ _ (by decide), rv_oth _ _ _ (by decide), rv_at _ _ _ hbb, if_pos rfl],
     by rw [hR', rv_zmf, rv_at _ _ _ hbb, if_pos rfl],
     by rw [hR', rv_zmf, rv_oth _ _ _ (by decide), rv_zmf, rv_oth _ _ _ (by decide), rv_at _ _ _ hbb, if_pos rfl, hbi],
     by rw [hR', rv_zmf, rv_oth _ _ _ (by decide), rv_zmf, rv_at _ _ _ hbb, if_pos rfl]⟩
    (by rw [hR']; exact zf_same _ _ _) (by rw [hR', zf_other _ _ (by decide), zf_zar, zf_same, h36])
  refine ⟨_, R', k + 1 + i, _, _, _, _, _, _, _, cls, ?_, by omega, hinv, ?_, ?_⟩
  · rw [rfs, hres]; simp only [Option.bind_some, if_pos hinv.sok]
  · rw [z0 2 (by decide), hR', zf_other _ _ (by decide), zf_zar, zf_other _ _ (by decide), zf_zar, zf_zar, zf_zar, zf_zar, zf_zar, q3 46 (by decide) (by decide)]; exact f2
  · rw [z0 3 (by decide), hR', zf_other _ _ (by decide), zf_zar, zf_other _ _ (by decide), zf_zar, zf_zar, zf_zar, zf_zar, zf_zar, q3 47 (by decide) (by decide)]; exact f3
end
