/-! the mathematics; written by wip/whole/m2parts.py -/
section
variable {C R : zr_Z} {T : List Int32} {D : List (List Int32)} {k : Nat} {G : List Ent} {live : List Nat} {rc : Nat} {bs bs0 : List (Nat × Nat × Nat × Nat)} {nl pl it x p im ra : Nat}
theorem close_round {R1 : zr_Z} {a b t u e : Nat} (h : INV C R T D k G live rc bs nl pl it) (hbs : bs = bs0 ++ [(x, p, im, ra)]) (hk : k < T.length) (hc : mA T k = 93) (f2 : zc C 2 = zf R 46) (f3 : zc C 3 = zf R 47) (h2 : zc C 2 = 0)
    (hf32 : f_32 C (nI k + 1) = (nI e, f_37 C 1 (-1) (nI a) (nI b) (nI t) (nI u))) (h119 : o_119 (zmf R 35 (nI bs0.length)) (nI k + 1) = some (true, R1)) (hsc : sceq (zmf R 35 (nI bs0.length)) R1)
    (z50 : zf R1 50 = nI e) (z52 : zf R1 52 = nI a) (z53 : zf R1 53 = nI b) (htit : (zf R1 56 = 1 ∧ zf R1 54 = nI t ∧ zf R1 55 = nI u ∧ rfc (mA T u) = false) ∨ (zf R1 56 = 0 ∧ t = u))
    (hpa : k + 1 < a) (hab : a ≤ b) (hbt : b ≤ t) (htu : t ≤ u) (huL : u ≤ T.length + 1) (heL : e ≤ T.length) (he1 : 1 ≤ e) (h41 : mA T (e - 1) = 41) (hm1 : mrch T b a) (hr1 : a = b ∨ rfc (mA T b) = false) (hm2 : mrch T u t)
    (hw : (b - a) + (u - t) + 2 ≤ e - (k + 1)) (hdead : ldq C 108 bs0.length = 0) : PARTOK C R T D k := by
  have hT := h.1.2.2.1
  have hl := hT.1
  obtain ⟨s1, s2, s3, s4, s5, s6, s7, s8, s9, s10⟩ := h.2.1
  obtain ⟨b1, b2, b3, b4, ⟨mt, mt1, mt2⟩, b6, b7⟩ := h.2.2.2.1
  have hlen : bs.length = bs0.length + 1 := by rw [hbs, List.length_append]; rfl
  have hlast : bs[bs0.length]? = some (x, p, im, ra) := by rw [hbs, List.getElem?_append_right (Nat.le_refl _), Nat.sub_self]; rfl
  obtain ⟨⟨g1, g2, g3, g4, g5, g6, g7, g8, g9, g10, g11, g12, g13, g14⟩, hra⟩ := b6 _ _ hlast
  dsimp only at g1 g2 g3 g4 g5 g6 g7 g9 g12 g13 g14 hra
  have hx := s9 _ g1
  dsimp only at hx
  have hxb : x < 2 ^ 31 := by omega
  have hIL := h.2.2.2.2.1
  have hnlk := hIL.2.1
  have hP := h.2.2.2.2.2.1
  have hpl2 := hP.2.1
  have hnb : bs0.length < 1500 := by omega
  have hv1 : ∀ j i, rv R1 j i = rv R j i := fun j i => (scq_rv hsc j i).trans rfl
  have hf1 : ∀ f, (f < 50 ∨ 56 < f) → ¬ f = 35 → zf R1 f = zf R f := fun f hf h35 => (hsc.2.2.2.1 f hf).trans (zf_other _ _ h35)
  have h35' : zf R1 35 = nI bs0.length := (hsc.2.2.2.1 35 (by omega)).trans (zf_same _ _ _)
  have hm1R : mR R1 T := ⟨(hf1 3 (by omega) (by decide)).trans h.1.2.1.1, fun i hi => (hv1 137 i).trans (h.1.2.1.2 i hi)⟩
  have hn1R : mN R1 := fun i hi => (hv1 173 i).trans (h.1.2.2.2.1 i hi)
  have h10 : zf R1 10 = nI pl := (hf1 10 (by omega) (by decide)).trans hP.1
  obtain ⟨tl, htl⟩ : ∃ tl, tl = munesc T a b := ⟨_, rfl⟩
  obtain ⟨ul, hul⟩ : ∃ ul, ul = munesc T t u := ⟨_, rfl⟩
  have hrA : a < b → rfc (mA T b) = false := fun hh => hr1.resolve_left (by omega)
  have hrU : t < u → rfc (mA T u) = false := fun hh => by
    rcases htit with ⟨-, -, -, q⟩ | ⟨-, q⟩
    · exact q
    · omega
  have tlen : tl.length ≤ b - a := by rw [htl]; exact mun_len hT b (by omega) (b - a) a hm1 hrA
  have ulen : ul.length ≤ u - t := by rw [hul]; exact mun_len hT u (by omega) (u - t) t hm2 hrU
  obtain ⟨w0, w70, w72, w74, w76, w78, w80, woth⟩ := c37 (C := C) (n := nl) (by omega) hIL.1 1 (-1) (nI a) (nI b) (nI t) (nI u)
  obtain ⟨C2, hC2⟩ : ∃ C2, C2 = f_37 C 1 (-1) (nI a) (nI b) (nI t) (nI u) := ⟨_, rfl⟩
  rw [← hC2] at w0 w70 w72 w74 w76 w78 w80 woth hf32
  have new : ∀ id c, id ∈ [70, 72, 74, 76, 78, 80] → C2.1 id = C.1 id ++ [c] → ldq C2 id nl = c := by
    intro id c q1 q2
    rw [ldq_eq, q2, getD_app_r (hIL.1 id q1)]
  have n70 := new 70 _ (by decide) w70
  have n72 := new 72 _ (by decide) w72
  have n74 := new 74 _ (by decide) w74
  have n76 := new 76 _ (by decide) w76
  have n78 := new 78 _ (by decide) w78
  have n80 := new 80 _ (by decide) w80
  obtain ⟨kk, hkk⟩ : ∃ kk : Int32, kk = if im = 0 then 6 else 7 := ⟨_, rfl⟩
  have hkk67 : kk = 6 ∨ kk = 7 := by rw [hkk]; by_cases q : im = 0; exact Or.inl (if_pos q); exact Or.inr (if_neg q)
  have hm1z : mR (zar R1 145 (nI x) (nI pl)) T := hm1R.zar (by decide) _ _
  have hn1z : mN (zar R1 145 (nI x) (nI pl)) := fun i hi => (rv_oth R1 _ _ (by decide) i).trans (hn1R i hi)
  obtain ⟨R2, q1, q2⟩ := r120 (R := zar R1 145 (nI x) (nI pl)) hT hm1z hn1z (pl := pl) (a := a) (b := b) h10 (by omega) (by omega) hm1 hrA
  rw [← htl] at q1 q2
  have hm2R := q2.mR hm1z
  have hn2R := q2.mN hn1z
  have f56 : zf R2 56 = zf R1 56 := q2.2.2.2.2 56 (by decide) (by decide) (by decide)
  have f54 : zf R2 54 = zf R1 54 := q2.2.2.2.2 54 (by decide) (by decide) (by decide)
  have f55 : zf R2 55 = zf R1 55 := q2.2.2.2.2 55 (by decide) (by decide) (by decide)
  obtain ⟨R2b, hR2b⟩ : ∃ R2b, R2b = zar (zar R2 146 (nI x) (nI tl.length)) 147 (nI x) (nI (pl + tl.length)) := ⟨_, rfl⟩
  have hm2b : mR R2b T := by rw [hR2b]; exact (hm2R.zar (by decide) _ _).zar (by decide) _ _
  have hn2b : mN R2b := fun i hi => by rw [hR2b]; exact ((rv_oth _ _ _ (by decide) i).trans (rv_oth _ _ _ (by decide) i)).trans (hn2R i hi)
  have h10b : zf R2b 10 = nI (pl + tl.length) := by rw [hR2b, zf_zar, zf_zar]; exact q2.2.2.2.1
  obtain ⟨R3, n2, t1, t2, t3⟩ : ∃ R3 n2, n2 = nI ul.length ∧ kpq R2b R3 (pl + tl.length) ul ∧ ((zf R2 56 = 0 ∧ R3 = R2b ∧ n2 = 0) ∨ (¬ zf R2 56 = 0 ∧ o_120 R2b (zf R2 54) (zf R2 55) = some (n2, R3) ∧ sok R3)) := by
    rcases htit with ⟨c1, c2, c3, c4⟩ | ⟨c1, c2⟩
    · obtain ⟨R3, y1, y2⟩ := r120 (R := R2b) hT hm2b hn2b (pl := pl + tl.length) (a := t) (b := u) h10b (by omega) (by omega) hm2 hrU
      rw [← hul] at y1 y2
      refine ⟨R3, _, rfl, y2, Or.inr ⟨by rw [f56, c1]; decide, by rw [f54, f55, c2, c3]; exact y1, (y2.mR hm2b).sk hT⟩⟩
    · have : ul = [] := by rw [hul, c2]; exact munesc_nil T u
      refine ⟨R2b, 0, by rw [this]; rfl, by rw [this]; exact kpq_nil h10b, Or.inl ⟨by rw [f56, c1], rfl, rfl⟩⟩
  obtain ⟨R', hR'⟩ : ∃ R', R' = zar (zar (zar R3 148 (nI x) n2) 149 (nI x) (-1)) 143 (nI x) kk := ⟨_, rfl⟩
  have vA : ∀ j, (j < 142 ∨ 149 < j) → ∀ i, rv R3 j i = rv R j i := fun j hj i => by
    rw [t2.1 j (by omega), hR2b, rv_oth _ _ _ (by omega), rv_oth _ _ _ (by omega), q2.1 j (by omega), rv_oth _ _ _ (by omega)]; exact hv1 j i
  have vB : ∀ j, 143 ≤ j → j ≤ 149 → ∀ y, ¬ y = x → rv R3 j y = rv R j y := fun j j1 j2 y hy => by
    rw [t2.1 j (by omega), hR2b, rv_zar _ _ _ _ hxb, if_neg (fun hh => hy hh.2), rv_zar _ _ _ _ hxb, if_neg (fun hh => hy hh.2), q2.1 j (by omega), rv_zar _ _ _ _ hxb, if_neg (fun hh => hy hh.2)]; exact hv1 j y
  have vC : rv R3 144 x = rv R 144 x := by rw [t2.1 144 (by decide), hR2b, rv_oth _ _ _ (by decide), rv_oth _ _ _ (by decide), q2.1 144 (by decide), rv_oth _ _ _ (by decide)]; exact hv1 144 x
  have v145 : rv R3 145 x = nI pl := by rw [t2.1 145 (by decide), hR2b, rv_oth _ _ _ (by decide), rv_oth _ _ _ (by decide), q2.1 145 (by decide)]; exact zar_rv_x hxb
  have v146 : rv R3 146 x = nI tl.length := by rw [t2.1 146 (by decide), hR2b, rv_oth _ _ _ (by decide)]; exact zar_rv_x hxb
  have v147 : rv R3 147 x = nI (pl + tl.length) := by rw [t2.1 147 (by decide), hR2b]; exact zar_rv_x hxb
  have pool2 : ∀ i, rv R2b 142 i = rv R2 142 i := fun i => by rw [hR2b, rv_oth _ _ _ (by decide), rv_oth _ _ _ (by decide)]
  have vP : ∀ i, i < pl → rv R3 142 i = rv R 142 i := fun i hi => by
    rw [t2.2.1 i (by omega), pool2, q2.2.1 i hi, rv_oth _ _ _ (by decide)]; exact hv1 142 i
  have rslT : rsl R3 pl tl.length = tl := by
    refine Eq.trans (rsl_cong (R := R2) tl.length pl (fun i i1 i2 => ?_)) q2.2.2.1
    rw [t2.2.1 i (by omega), pool2]
  have rslU : rsl R3 (pl + tl.length) ul.length = ul := t2.2.2.1
  have fR3 : ∀ f, ¬ f = 10 → ¬ f = 50 → ¬ f = 51 → zf R3 f = zf R1 f := fun f c1 c2 c3 => by
    rw [t2.2.2.2.2 f c1 c2 c3, hR2b, zf_zar, zf_zar, q2.2.2.2.2 f c1 c2 c3, zf_zar]
  have rA : ∀ j, ¬ j = 143 → ¬ j = 148 → ¬ j = 149 → ∀ i, rv R' j i = rv R3 j i := fun j c1 c2 c3 i => by rw [hR', rv_oth _ _ _ c1, rv_oth _ _ _ c3, rv_oth _ _ _ c2]
  have rB : ∀ j y, ¬ y = x → rv R' j y = rv R3 j y := fun j y hy => by rw [hR', rv_zar _ _ _ _ hxb, if_neg (fun hh => hy hh.2), rv_zar _ _ _ _ hxb, if_neg (fun hh => hy hh.2), rv_zar _ _ _ _ hxb, if_neg (fun hh => hy hh.2)]
  have r143 : rv R' 143 x = kk := by rw [hR']; exact zar_rv_x hxb
  have r149 : rv R' 149 x = -1 := by rw [hR', rv_oth _ _ _ (by decide)]; exact zar_rv_x hxb
  have r148 : rv R' 148 x = n2 := by rw [hR', rv_oth _ _ _ (by decide), rv_oth _ _ _ (by decide)]; exact zar_rv_x hxb
  have s145 : rvn R' 145 x = pl := by
    unfold rvn; rw [show R'.2.2.1 145 x = nI pl from (rA 145 (by decide) (by decide) (by decide) x).trans v145, nI_clamp (by omega)]
  have s146 : rvn R' 146 x = tl.length := by
    unfold rvn; rw [show R'.2.2.1 146 x = nI tl.length from (rA 146 (by decide) (by decide) (by decide) x).trans v146, nI_clamp (by omega)]
  have s147 : rvn R' 147 x = pl + tl.length := by
    unfold rvn; rw [show R'.2.2.1 147 x = nI (pl + tl.length) from (rA 147 (by decide) (by decide) (by decide) x).trans v147, nI_clamp (by omega)]
  have s148 : rvn R' 148 x = ul.length := by
    unfold rvn; rw [show R'.2.2.1 148 x = nI ul.length from r148.trans t1, nI_clamp (by omega)]
  have hrt : rtok R' x none = [(kk, -1, tl, ul)] := by
    rw [rtok_eq, r143, s145, s146, s147, s148, r149, rsl_all (R := R3) (rA 142 (by decide) (by decide) (by decide)), rsl_all (R := R3) (rA 142 (by decide) (by decide) (by decide)), rslT, rslU]
    rcases hkk67 with c | c <;> rw [c] <;> rfl
  have hzf' : ∀ f, zf R' f = zf R3 f := fun f => by rw [hR', zf_zar, zf_zar, zf_zar]
  obtain ⟨C5, R5, G', live', it', y1, y2, y3, y4, y5⟩ := close_fin (C1 := C2) (R' := R') (e := e) (kk := kk) (num := -1) (tl := tl) (ul := ul) (pl' := pl + tl.length + ul.length) h hbs (by omega) heL hkk
    ⟨w0, fun id c1 _ => woth id c1, fun id hid => by
        simp only [List.mem_cons, List.not_mem_nil, or_false] at hid
        rcases hid with rfl | rfl | rfl | rfl | rfl | rfl
        · exact ⟨_, w70⟩
        · exact ⟨_, w72⟩
        · exact ⟨_, w74⟩
        · exact ⟨_, w76⟩
        · exact ⟨_, w78⟩
        · exact ⟨_, w80⟩⟩
    (Or.inl ⟨a, b, t, u, n70, n74, n76, n78, n80, by omega, huL, hm1, hrA, hm2, hrU⟩) ⟨n72, by unfold ldT; rw [n70, n74, n76, if_pos rfl, nI_clamp (by omega), nI_clamp (by omega), htl], by unfold ldU; rw [n78, n80, nI_clamp (by omega), nI_clamp (by omega), hul]⟩
    ⟨fun j hj y => (rA j (by omega) (by omega) (by omega) y).trans (vA j (by omega) y), fun j j1 j2 y hy => (rB j y hy).trans (vB j j1 j2 y hy), (rA 144 (by decide) (by decide) (by decide) x).trans vC, fun y hy => (rA 142 (by decide) (by decide) (by decide) y).trans (vP y hy), fun f hf => by
        rw [hzf', fR3 f (by rintro rfl; exact absurd hf (by decide)) (by rintro rfl; exact absurd hf (by decide)) (by rintro rfl; exact absurd hf (by decide))]
        simp only [List.mem_cons, List.not_mem_nil, or_false] at hf
        exact hf1 f (by omega) (by omega), by rw [hzf']; exact t2.2.2.2.1, by rw [hzf', fR3 35 (by decide) (by decide) (by decide)]; exact h35'⟩
    r143 hrt (fun j j1 j2 => by
      have : j = 145 ∨ j = 146 ∨ j = 147 ∨ j = 148 := by omega
      rcases this with c | c | c | c
      · rw [c, s145]; exact (rA 145 (by decide) (by decide) (by decide) x).trans v145
      · rw [c, s146]; exact (rA 146 (by decide) (by decide) (by decide) x).trans v146
      · rw [c, s147]; exact (rA 147 (by decide) (by decide) (by decide) x).trans v147
      · rw [c, s148]; exact r148.trans t1) (by rw [s145, s146, s147, s148]; omega) ⟨by omega, by omega⟩ (by omega) (by
      have := lws_le kk (-1) tl ul hkk67
      by_cases hue : ul = []
      · rw [if_pos hue] at this; omega
      · rw [if_neg hue] at this; omega) (by rw [h41]; decide) (nI e)
  have h104 : zs C 104 = nI (bs0.length + 1) := by unfold zs; rw [h.bl 104 (by decide), hlen]
  have z106 : zt C2 106 (nI bs0.length) = nI im := by rw [zt_ldq _ _ (by omega), ldq_eq, woth 106 (by decide)]; exact g13
  have z104 : zt C2 104 (nI bs0.length) = nI p := by rw [zt_ldq _ _ (by omega), ldq_eq, woth 104 (by decide)]; exact g12
  have him1 : (if decide (nI im = 1) = true then 7 else 6 : Int32) = kk := by
    rw [hkk]
    have : nI im = 1 ↔ ¬ im = 0 := by rw [show (1 : Int32) = nI 1 from rfl, nI_eq (by omega) (by omega)]; omega
    by_cases q : im = 0
    · rw [if_pos q, if_neg (by rw [decide_eq_false (fun hh => this.mp hh q)]; decide)]
    · rw [if_neg q, if_pos (decide_eq_true (this.mpr q))]
  have him0 : (if nI im = 0 then 6 else 7 : Int32) = kk := by
    rw [hkk]
    have : nI im = 0 ↔ im = 0 := by rw [← nI_0, nI_eq (by omega) (by omega)]
    by_cases q : im = 0
    · rw [if_pos q, if_pos (this.mpr q)]
    · rw [if_neg q, if_neg (fun hh => q (this.mp hh))]
  have zd : zt C 108 (nI bs0.length) = 0 := by rw [zt_ldq _ _ (by omega)]; exact hdead
  refine close_link y3 hT hk (by omega) heL hc ?_ ?_ ?_ ?_ h.1.1 h.1.2.1 h2
  · have e1 : zc C5 2 = zc C 2 := by unfold zc; rw [y4]
    rw [e1, y5 46 (by decide) (by decide), hzf', fR3 46 (by decide) (by decide) (by decide), hf1 46 (by omega) (by decide)]; exact f2
  · have e1 : zc C5 3 = zc C 3 := by unfold zc; rw [y4]
    rw [e1, y5 47 (by decide) (by decide), hzf', fR3 47 (by decide) (by decide) (by decide), hf1 47 (by omega) (by decide)]; exact f3
  · rw [c29_in h104 hnb, if_neg (fun hh => hh zd), hf32]
    dsimp only
    rw [if_neg (ne_m1 (by omega)), z106, z104, him1]; exact y1
  · have r162 : zv R2 162 (nI bs0.length) = nI im := by rw [zv_nI _ _ (by omega), q2.1 162 (by decide), rv_oth _ _ _ (by decide), hv1]; exact g9
    have r160 : zv R2 160 (nI bs0.length) = nI ra := by rw [zv_nI _ _ (by omega), q2.1 160 (by decide), rv_oth _ _ _ (by decide), hv1]; exact g7
    have hfin := r140_round (R := R) (R1 := R1) (nb := bs0.length) (x := x) (k := nI k) h.sok hnb (b2.trans (by rw [hlen])) (g10.trans hdead) g5 (by omega) h119 (hm1R.sk hT) (R2 := R2) (n1 := nI tl.length) (by rw [h10, z52, z53]; exact q1) (hm2R.sk hT) (R3 := R3) (n2 := n2) (by
      rw [q2.2.2.2.1, ← hR2b]
      rcases t3 with ⟨c1, c2, c3⟩ | ⟨c1, c2, c3⟩
      · exact Or.inl ⟨c1, c2, c3⟩
      · refine Or.inr ⟨c1, c2, c3, ?_, ?_⟩
        · rw [r162, zv_nI _ _ (by omega), vA 162 (by omega)]; exact g9
        · rw [r160, zv_nI _ _ (by omega), vA 160 (by omega)]; exact g7)
    rw [hfin, r162, r160, him0, ← hR', z50]; exact y2
end
