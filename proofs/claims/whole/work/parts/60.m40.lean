/-! the mathematics; written by wip/whole/m2parts.py -/
theorem dfind_in (w : List Int32) : ∀ (D : List (List Int32)) d, dfind w d D = -1 ∨ ∃ i, i < d + D.length ∧ dfind w d D = nI i := by
  intro D
  induction D with
  | nil => intro d; exact Or.inl rfl
  | cons v D ih =>
    intro d
    rw [dfind]
    by_cases h : v = w
    · rw [if_pos h]; exact Or.inr ⟨d, by simp, rfl⟩
    · rw [if_neg h]
      rcases ih (d + 1) with g | ⟨i, g1, g2⟩
      · exact Or.inl g
      · exact Or.inr ⟨i, by simp only [List.length_cons]; omega, g2⟩
theorem nrm.mR {R R' : zr_Z} {T : List Int32} {l : List Int32} (h : nrm R R' l) (g : mR R T) : mR R' T :=
  ⟨(h.2.2.2 3 (by decide)).trans g.1, fun i hi => (h.1 137 (by decide) i).trans (g.2 i hi)⟩
theorem DEF_R {C R R' : zr_Z} {D : List (List Int32)} (h : DEF C R D) (hv : ∀ j, ¬ j = 141 → ∀ i, rv R' j i = rv R j i) (h7 : zf R' 7 = zf R 7) : DEF C R' D := by
  obtain ⟨d1, d2, d3, d4, d5, d6, d7⟩ := h
  exact ⟨d1, d2, d3, d4, h7.trans d5, fun d hd => by rw [hv 140 (by decide)]; exact d6 d hd, fun d k hd hk => by rw [hv 139 (by decide)]; exact d7 d k hd hk⟩
theorem munesc_nil (T : List Int32) (a : Nat) : munesc T a a = [] := by unfold munesc; rw [Nat.sub_self]; rfl
section
variable {C R : zr_Z} {T : List Int32} {D : List (List Int32)} {k : Nat} {G : List Ent} {live : List Nat} {rc : Nat} {bs bs0 : List (Nat × Nat × Nat × Nat)} {nl pl it x p im ra : Nat}
theorem close_label {C1 R3 : zr_Z} {num : Int32} {e : Nat} {w : List Int32} (h : INV C R T D k G live rc bs nl pl it) (hbs : bs = bs0 ++ [(x, p, im, ra)]) (hk : k < T.length) (hke : k < e) (heL : e ≤ T.length) (hc : mA T k = 93) (f2 : zc C 2 = zf R 46) (f3 : zc C 3 = zf R 47) (h2 : zc C 2 = 0)
    (hC1 : C1 = (va_up C.1 87 w, C.2)) (hR3 : (∀ j, ¬ j = 141 → ∀ i, rv R3 j i = rv R j i) ∧ (∀ f ∈ [3, 7, 10, 20, 21, 28, 36, 46, 47], zf R3 f = zf R f) ∧ zf R3 35 = nI bs0.length) (hnum : ∃ i, i < 20 ∧ num = nI i) (hX : ¬ mA T (e - 1) = 32)
    (hcl : o_29 C (nI k) = cfin (f_37 C1 0 num 0 0 0 0) (if im = 0 then 6 else 7) (nI p) (nI k) (nI e) (nI bs0.length)) (hrf : o_140 R (nI k) = rfin (zar (zar R3 149 (nI x) num) 143 (nI x) (if im = 0 then 6 else 7 : Int32)) (nI ra) (nI bs0.length) (nI e)) : PARTOK C R T D k := by
  have hT := h.1.2.2.1
  have hl := hT.1
  obtain ⟨s1, s2, s3, s4, s5, s6, s7, s8, s9, s10⟩ := h.2.1
  obtain ⟨b1, b2, b3, b4, ⟨mt, mt1, mt2⟩, b6, b7⟩ := h.2.2.2.1
  have hlast : bs[bs0.length]? = some (x, p, im, ra) := by rw [hbs, List.getElem?_append_right (Nat.le_refl _), Nat.sub_self]; rfl
  obtain ⟨⟨g1, g2, g3, g4, g5, g6, g7, g8, g9, g10, g11, g12, g13, g14⟩, hra⟩ := b6 _ _ hlast
  dsimp only at g1 g2 g3 g4 g5 g6 g7 g9 g12 g13 g14 hra
  have hx := s9 _ g1
  dsimp only at hx
  have hxb : x < 2 ^ 31 := by omega
  have hIL := h.2.2.2.2.1
  have hnlk := hIL.2.1
  have hP := h.2.2.2.2.2.1
  have hsz := hP.2.2.2 _ g1 rfl g3
  dsimp only at hsz
  have hC1r : ∀ id, ¬ id = 87 → C1.1 id = C.1 id := fun id hid => by rw [hC1]; exact mup_oth _ _ hid
  obtain ⟨w0, w70, w72, w74, w76, w78, w80, woth⟩ := c37 (C := C1) (n := nl) (by omega) (fun id hid => by rw [hC1r id (by rintro rfl; exact absurd hid (by decide))]; exact hIL.1 id hid) 0 num 0 0 0 0
  obtain ⟨C2, hC2⟩ : ∃ C2, C2 = f_37 C1 0 num 0 0 0 0 := ⟨_, rfl⟩
  rw [← hC2] at w0 w70 w72 w74 w76 w78 w80 woth hcl
  have new : ∀ id c, id ∈ [70, 72, 74, 76, 78, 80] → C2.1 id = C1.1 id ++ [c] → ldq C2 id nl = c := by
    intro id c q1 q2
    rw [ldq_eq, q2, getD_app_r]
    rw [hC1r id (by rintro rfl; exact absurd q1 (by decide))]; exact hIL.1 id q1
  have n70 := new 70 _ (by decide) w70
  have n72 := new 72 _ (by decide) w72
  have n74 := new 74 _ (by decide) w74
  have n76 := new 76 _ (by decide) w76
  have n78 := new 78 _ (by decide) w78
  have n80 := new 80 _ (by decide) w80
  obtain ⟨kk, hkk⟩ : ∃ kk : Int32, kk = if im = 0 then 6 else 7 := ⟨_, rfl⟩
  have hkk67 : kk = 6 ∨ kk = 7 := by rw [hkk]; by_cases q : im = 0; exact Or.inl (if_pos q); exact Or.inr (if_neg q)
  rw [← hkk] at hcl hrf
  obtain ⟨R', hR'⟩ : ∃ R', R' = zar (zar R3 149 (nI x) num) 143 (nI x) kk := ⟨_, rfl⟩
  rw [← hR'] at hrf
  have rA : ∀ j, ¬ j = 149 → ¬ j = 143 → ∀ i, rv R' j i = rv R3 j i := fun j q1 q2 i => by rw [hR', rv_oth _ _ _ q2, rv_oth _ _ _ q1]
  have rB : ∀ j y, ¬ y = x → rv R' j y = rv R3 j y := fun j y hy => by rw [hR', rv_zar _ _ _ _ hxb, if_neg (fun hh => hy hh.2), rv_zar _ _ _ _ hxb, if_neg (fun hh => hy hh.2)]
  have r143 : rv R' 143 x = kk := by rw [hR']; exact zar_rv_x hxb
  have r149 : rv R' 149 x = num := by rw [hR', rv_oth _ _ _ (by decide)]; exact zar_rv_x hxb
  have rn : ∀ j, ¬ j = 149 → ¬ j = 143 → ¬ j = 141 → rvn R' j x = rvn R j x := fun j q1 q2 q3 => congrArg Int32.toNatClampNeg ((rA j q1 q2 x).trans (hR3.1 j q3 x))
  have r145 : rvn R' 145 x = 0 := by rw [rn 145 (by decide) (by decide) (by decide)]; omega
  have r146 : rvn R' 146 x = 0 := by rw [rn 146 (by decide) (by decide) (by decide)]; omega
  have r147 : rvn R' 147 x = 0 := by rw [rn 147 (by decide) (by decide) (by decide)]; omega
  have r148 : rvn R' 148 x = 0 := by rw [rn 148 (by decide) (by decide) (by decide)]; omega
  obtain ⟨i, hi20, hi⟩ := hnum
  have hzf' : ∀ f, zf R' f = zf R3 f := fun f => by rw [hR', zf_zar, zf_zar]
  obtain ⟨C5, R5, G', live', it', y1, y2, y3, y4, y5⟩ := close_fin (C1 := C2) (R' := R') (e := e) (kk := kk) (num := num) (tl := []) (ul := []) (pl' := pl) h hbs hke heL hkk
    ⟨by rw [w0, hC1], fun id q1 q2 => by rw [woth id q1]; exact hC1r id q2, fun id hid => by
        have hr := hC1r id (by rintro rfl; exact absurd hid (by decide))
        rw [← hr]
        simp only [List.mem_cons, List.not_mem_nil, or_false] at hid
        rcases hid with rfl | rfl | rfl | rfl | rfl | rfl
        · exact ⟨_, w70⟩
        · exact ⟨_, w72⟩
        · exact ⟨_, w74⟩
        · exact ⟨_, w76⟩
        · exact ⟨_, w78⟩
        · exact ⟨_, w80⟩⟩
    (Or.inr ⟨0, 0, Or.inl n70, n74, n76, n78, n80, Nat.le_refl _, Nat.zero_le _⟩) ⟨n72, by unfold ldT; rw [n70, n74, n76]; rfl, by unfold ldU; rw [n78, n80]; rfl⟩
    ⟨fun j hj y => (rA j (by omega) (by omega) y).trans (hR3.1 j (by omega) y), fun j j1 j2 y hy => (rB j y hy).trans (hR3.1 j (by omega) y), (rA 144 (by decide) (by decide) x).trans (hR3.1 144 (by decide) x), fun y hy => (rA 142 (by decide) (by decide) y).trans (hR3.1 142 (by decide) y), fun f hf => (hzf' f).trans (hR3.2.1 f (by simp only [List.mem_cons, List.not_mem_nil, or_false] at hf ⊢; omega)), ((hzf' 10).trans (hR3.2.1 10 (by decide))).trans hP.1, (hzf' 35).trans hR3.2.2⟩
    r143 (by rw [rtok_eq, r143, r145, r146, r147, r148, r149]; rcases hkk67 with q | q <;> rw [q] <;> rfl) (fun j j1 j2 => by
      have hz := h.2.2.2.2.2.2.1.2.2.2 _ g1 rfl
      have e1 : rv R' j x = rv R j x := (rA j (by omega) (by omega) x).trans (hR3.1 j (by omega) x)
      have e2 : rvn R' j x = rvn R j x := congrArg Int32.toNatClampNeg e1
      rw [e1, e2]; exact hz.1 j j1 j2) (by rw [r145, r146, r147, r148]; omega) ⟨Nat.le_refl _, by have := hP.2.1; omega⟩ (by show 5 * (0 + 0) ≤ _; omega) (by
      have := lws_le kk num [] [] hkk67
      rw [if_pos rfl] at this
      simp only [List.length_nil] at this; omega) hX (nI e)
  refine close_link y3 hT hk hke heL hc ?_ ?_ (hcl.trans y1) (hrf.trans y2) h.1.1 h.1.2.1 h2
  · have e1 : zc C5 2 = zc C 2 := by unfold zc; rw [y4]
    rw [e1, y5 46 (by decide) (by decide), hzf', hR3.2.1 46 (by decide)]; exact f2
  · have e1 : zc C5 3 = zc C 3 := by unfold zc; rw [y4]
    rw [e1, y5 47 (by decide) (by decide), hzf', hR3.2.1 47 (by decide)]; exact f3
end
