/-! the mathematics; written by wip/whole/m2parts.py -/
section
variable {C R : zr_Z} {T : List Int32} {D : List (List Int32)} {k : Nat} {G : List Ent} {live : List Nat} {rc : Nat} {bs : List (Nat × Nat × Nat × Nat)} {nl pl it : Nat}
theorem part_close (h : INV C R T D k G live rc bs nl pl it) (hk : k < T.length) (h2 : zc C 2 = 0) (f2 : zc C 2 = zf R 46) (f3 : zc C 3 = zf R 47) (hc : mA T k = 93) : PARTOK C R T D k := by
  have hT := h.1.2.2.1
  have hl := hT.1
  have hmC := h.1.1
  have hmR := h.1.2.1
  have hS := h.sok
  obtain ⟨s1, s2, s3, s4, s5, s6, s7, s8, s9, s10⟩ := h.2.1
  obtain ⟨b1, b2, b3, b4, ⟨mt, mt1, mt2⟩, b6, b7⟩ := h.2.2.2.1
  rcases List.eq_nil_or_concat bs with hnil | ⟨bs0, w, hbs⟩
  · -- no bracket
    have h35 : zf R 35 = 0 := by rw [b2, hnil]; rfl
    have h' : INV C (zmf R 35 0) T D k G live rc bs nl pl it := inv_same h ⟨fun _ _ => rfl, rfl⟩ ⟨fun _ _ _ => rfl, fun f hf => by
      by_cases e : f = 35
      · rw [e, zf_same, h35]
      · exact zf_other _ _ e⟩
    refine close_text h' hk hc (f2.trans (zf_other _ _ (by decide)).symm) (f3.trans (zf_other _ _ (by decide)).symm) ?_ (r140_none hS h35) hmC hmR h2
    have hz : zs C 104 = 0 := by unfold zs; rw [h.bl 104 (by decide), hnil]; rfl
    unfold o_29; rw [hz, if_neg (by decide), nI_1]
  · rw [List.concat_eq_append] at hbs
    obtain ⟨x, p, im, ra⟩ := w
    have hlen : bs.length = bs0.length + 1 := by rw [hbs, List.length_append]; rfl
    have hlast : bs[bs0.length]? = some (x, p, im, ra) := by rw [hbs, List.getElem?_append_right (Nat.le_refl _), Nat.sub_self]; rfl
    obtain ⟨⟨g1, g2, g3, g4, g5, g6, g7, g8, g9, g10, g11, g12, g13, g14⟩, hra⟩ := b6 _ _ hlast
    dsimp only at g1 g2 g3 g4 g5 g6 g7 g9 g12 g13 g14 hra
    have hpm := SG_mem G 0 k s5 _ g1
    dsimp only at hpm
    have hx := s9 _ g1
    dsimp only at hx
    have hnb : bs0.length < 1500 := by omega
    have h35 : zf R 35 = nI (bs0.length + 1) := by rw [b2, hlen]
    have h104 : zs C 104 = nI (bs0.length + 1) := by unfold zs; rw [h.bl 104 (by decide), hlen]
    have pop : ∀ (Ca Ra : zr_Z), zc Ca 1 = zc C 1 → (∀ id, ¬ id = 87 → Ca.1 id = C.1 id) → (∀ j, ¬ j = 141 → ∀ i, rv Ra j i = rv R j i) → (∀ f ∈ [3, 7, 10, 20, 21, 28, 36], zf Ra f = zf R f) → zf Ra 35 = nI bs0.length → INV (f_26 Ca (nI bs0.length)) Ra T D k G live rc bs0 nl pl it := by
      intro Ca Ra q1 q2 q3 q4 q5
      obtain ⟨c1, c2, c3⟩ := c26 (C := Ca) (n := bs0.length) (by omega)
      exact inv_pop h hbs ⟨by rw [← q1]; unfold zc; rw [c1], fun id hid => by rw [c2 id hid, q2 id (by rintro rfl; exact absurd hid (by decide))], fun id hid h87 => by rw [c3 id hid]; exact q2 id h87⟩ ⟨q3, q4, q5⟩
    have zc26 : ∀ (Ca : zr_Z) j, zc (f_26 Ca (nI bs0.length)) j = zc Ca j := fun Ca j => by
      unfold zc; rw [(c26 (C := Ca) (n := bs0.length) (by omega)).1]
    rcases g11 with hdead | hdead
    · have zd : zt C 108 (nI bs0.length) = 0 := by rw [zt_ldq _ _ (by omega)]; exact hdead
      have zdd : ¬ ¬ zt C 108 (nI bs0.length) = 0 := fun hh => hh zd
      have hm0 : mR (zmf R 35 (nI bs0.length)) T := hmR.zmf (by decide) _
      rcases round_lock hmC hm0 hT (p := k + 1) (by omega) with ⟨R1, r1, r2, r3⟩ | ⟨R1, a, b, t, u, e, r1, r2, r3, r4, r5, r6, r7, r8, r9, r10, r11, r12, r13, r14, r15, r16, r17, r18, r19, r20⟩
      · -- no ( )
        have hm1 := r3.mR hm0
        have hv1 : ∀ j i, rv R1 j i = rv R j i := fun j i => (scq_rv r3 j i).trans rfl
        have hf1 : ∀ f, (f < 50 ∨ 56 < f) → ¬ f = 35 → zf R1 f = zf R f := fun f hf hh => (r3.2.2.2.1 f hf).trans (zf_other _ _ hh)
        have f35 : zf R1 35 = nI bs0.length := (r3.2.2.2.1 35 (by omega)).trans (zf_same _ _ _)
        rw [← nI_1] at r1 r2
        have im7 : ∀ (Cx : zr_Z), (∀ id, ¬ id ∈ [70, 72, 74, 76, 78, 80] → ¬ id = 87 → Cx.1 id = C.1 id) → (if decide (zt Cx 106 (nI bs0.length) = 1) = true then 7 else 6 : Int32) = (if im = 0 then 6 else 7) ∧ zt Cx 104 (nI bs0.length) = nI p := by
          intro Cx hCx
          have z106 : zt Cx 106 (nI bs0.length) = nI im := by rw [zt_ldq _ _ (by omega), ldq_eq, hCx 106 (by decide) (by decide)]; exact g13
          have z104 : zt Cx 104 (nI bs0.length) = nI p := by rw [zt_ldq _ _ (by omega), ldq_eq, hCx 104 (by decide) (by decide)]; exact g12
          refine ⟨?_, z104⟩
          rw [z106]
          have : nI im = 1 ↔ ¬ im = 0 := by rw [show (1 : Int32) = nI 1 from rfl, nI_eq (by omega) (by omega)]; omega
          by_cases q : im = 0
          · rw [if_pos q, if_neg (by rw [decide_eq_false (fun hh => this.mp hh q)]; decide)]
          · rw [if_neg q, if_pos (decide_eq_true (this.mpr q))]
        have im0 : (if nI im = 0 then 6 else 7 : Int32) = (if im = 0 then 6 else 7) := by
          have : nI im = 0 ↔ im = 0 := by rw [← nI_0, nI_eq (by omega) (by omega)]
          by_cases q : im = 0
          · rw [if_pos q, if_pos (this.mpr q)]
          · rw [if_neg q, if_neg (fun hh => q (this.mp hh))]
        have text : ∀ (Ca Ra : zr_Z), Ca.2 = C.2 → (∀ id, ¬ id = 87 → Ca.1 id = C.1 id) → (∀ j, ¬ j = 141 → ∀ i, rv Ra j i = rv R j i) → (∀ f, (f < 50 ∨ 56 < f) → ¬ f = 35 → ¬ f = 8 → zf Ra f = zf R f) → zf Ra 35 = nI bs0.length → f_31 C (nI bs0.length) (nI k) = (-1, Ca) →
            o_140 R (nI k) = (Option.bind (o_127 Ra 0 93) fun u77 => (if sok u77.2 then some (nI k + 1, u77.2) else none)) → PARTOK C R T D k := by
          intro Ca Ra q1 q2 q3 q4 q5 q6 q7
          refine close_text (pop Ca Ra (by unfold zc; rw [q1]) q2 q3 (fun f hf => by
            simp only [List.mem_cons, List.not_mem_nil, or_false] at hf
            exact q4 f (by omega) (by omega) (by omega)) q5) hk hc ?_ ?_ ?_ q7 hmC hmR h2
          · rw [zc26, q4 46 (by omega) (by decide) (by decide)]; unfold zc; rw [q1]; exact f2
          · rw [zc26, q4 47 (by omega) (by decide) (by decide)]; unfold zc; rw [q1]; exact f3
          · rw [c29_in h104 hnb, if_neg zdd, r1]
            dsimp only
            rw [if_pos rfl, q6]
            dsimp only
            rw [if_neg (fun hh => hh rfl), nI_1]
        have link : ∀ (Ra : zr_Z) (wd : List Int32) (num : Int32) (e : Nat), (∀ j, ¬ j = 141 → ∀ i, rv Ra j i = rv R j i) → (∀ f, (f < 50 ∨ 56 < f) → ¬ f = 35 → ¬ f = 8 → zf Ra f = zf R f) → zf Ra 35 = nI bs0.length → k < e → e ≤ T.length → (∃ i, i < 20 ∧ num = nI i) → ¬ mA T (e - 1) = 32 →
            f_31 C (nI bs0.length) (nI k) = (nI e, f_37 (va_up C.1 87 wd, C.2) 0 num 0 0 0 0) → o_140 R (nI k) = rfin (zar (zar Ra 149 (nI x) num) 143 (nI x) (if (zv Ra 162 (nI bs0.length)) = 0 then 6 else 7 : Int32)) (zv Ra 160 (nI bs0.length)) (nI bs0.length) (nI e) → PARTOK C R T D k := by
          intro Ra wd num e q3 q4 q5 q6 q7 q8 q9 q10 q11
          have z162 : zv Ra 162 (nI bs0.length) = nI im := by rw [zv_nI _ _ (by omega), q3 162 (by decide)]; exact g9
          have z160 : zv Ra 160 (nI bs0.length) = nI ra := by rw [zv_nI _ _ (by omega), q3 160 (by decide)]; exact g7
          rw [z162, z160, im0] at q11
          refine close_label (C1 := (va_up C.1 87 wd, C.2)) (R3 := Ra) (num := num) (e := e) (w := wd) h hbs hk q6 q7 hc f2 f3 h2 rfl ⟨q3, fun f hf => by
            simp only [List.mem_cons, List.not_mem_nil, or_false] at hf
            exact q4 f (by omega) (by omega) (by omega), q5⟩ q8 q9 ?_ q11
          have hrow := (im7 (f_37 (va_up C.1 87 wd, C.2) 0 num 0 0 0 0) (fun id i1 i2 => by
            simp only [List.mem_cons, List.not_mem_nil, or_false, not_or] at i1
            unfold f_37
            rw [zadd_oth i1.2.2.2.2.2, zadd_oth i1.2.2.2.2.1, zadd_oth i1.2.2.2.1, zadd_oth i1.2.2.1, zadd_oth i1.2.1, zadd_oth i1.1]
            exact mup_oth _ _ i2))
          rw [c29_in h104 hnb, if_neg zdd, r1]
          dsimp only
          rw [if_pos rfl, q10]
          dsimp only
          rw [if_pos (ne_m1 (by omega)), hrow.1, hrow.2]
        have hz1 : zt C 61 (nI k + 1) = mA T (k + 1) := by rw [nI_1, hmC.at (by omega)]
        rcases label_lock hmC hm1 hT (k := k + 1) (by omega) with ⟨to, R2, l1, l2, l3, l4, l5, l6, l7, l8, l9, l10, l11, l12⟩ | ⟨R2, l1, l2, l3⟩
        · -- a label stands there
          have hm2 := l9.mR hm1
          have hv2 : ∀ j i, rv R2 j i = rv R j i := fun j i => (scq_rv l9 j i).trans (hv1 j i)
          have hf2 : ∀ f, (f < 50 ∨ 56 < f) → ¬ f = 35 → zf R2 f = zf R f := fun f hf hh => (l9.2.2.2.1 f hf).trans (hf1 f hf hh)
          rw [← nI_1] at l8
          obtain ⟨R3, n1, n2⟩ := r123 hT hm2 (a := k + 2) (b := to) (by omega) (by omega) (by omega)
          have n3 := r124 (DEF_R h.1.2.2.2.2 (fun j _ i => hv2 j i) (hf2 7 (by omega) (by decide))) n2 (by have := mnorm_len T (k + 2) to; omega)
          have hc20 := c20 (C := C) (R := R) hmC h.1.2.2.2.2 (a := k + 2) (b := to) (by omega) (by omega) (by omega)
          have hv3 : ∀ j, ¬ j = 141 → ∀ i, rv R3 j i = rv R j i := fun j hj i => (n2.1 j hj i).trans (hv2 j i)
          have hf3 : ∀ f, (f < 50 ∨ 56 < f) → ¬ f = 35 → ¬ f = 8 → zf R3 f = zf R f := fun f hf hh h8 => (n2.2.2.2 f h8).trans (hf2 f hf hh)
          have f35' : zf R3 35 = nI bs0.length := (n2.2.2.2 35 (by decide)).trans ((l9.2.2.2.1 35 (by omega)).trans f35)
          have hm3 := n2.mR hm2
          have hrf := r140_label (R := R) (R1 := R1) (nb := bs0.length) (x := x) (k := nI k) hS hnb h35 (g10.trans hdead) g5 (by omega) r2 (hm1.sk hT) l8 (hm2.sk hT) (R3 := R3) (by rw [l10, l11]; exact n1) (hm3.sk hT) n3
          have hz96 : f_96 C (nI k + 2) = nI to := by rw [nI_2]; exact l6
          have hzto : zt C 61 (nI to) = 93 := by rw [hmC.at (by omega)]; exact l5
          have hcl31 : f_31 C (nI bs0.length) (nI k) = (if ¬ dfind (mnorm T (k + 2) to) 0 D = (-1) then (nI to + 1, f_37 (va_up C.1 87 (mnorm T (k + 2) to), C.2) 0 (dfind (mnorm T (k + 2) to) 0 D) 0 0 0 0) else ((-1), (va_up C.1 87 (mnorm T (k + 2) to), C.2))) := by
            unfold f_31
            rw [hz1, if_neg (fun hh => hh l4), hz96, hzto, if_neg (fun hh => hh rfl), nI_2, if_pos l7, hc20]
          rcases dfind_in (mnorm T (k + 2) to) D 0 with hd | ⟨i, hi1, hi2⟩
          · rw [hd] at hcl31 hrf
            rw [if_neg (fun hh => hh rfl)] at hcl31 hrf
            exact text (va_up C.1 87 (mnorm T (k + 2) to), C.2) R3 rfl (fun id hid => mup_oth _ _ hid) hv3 hf3 f35' hcl31 hrf
          · have hd20 := h.1.2.2.2.2.1
            rw [hi2] at hcl31 hrf
            rw [if_pos (ne_m1 (by omega))] at hcl31 hrf
            rw [l12] at hrf
            rw [nI_1] at hcl31
            exact link R3 _ (nI i) (to + 1) hv3 hf3 f35' (by omega) (by omega) ⟨i, by omega, rfl⟩ (by rw [show to + 1 - 1 = to by omega, l5]; decide) hcl31 hrf
        · -- its own text may be the label
          have hm2 := l2.mR hm1
          have hv2 : ∀ j i, rv R2 j i = rv R j i := fun j i => (scq_rv l2 j i).trans (hv1 j i)
          have hf2 : ∀ f, (f < 50 ∨ 56 < f) → ¬ f = 35 → zf R2 f = zf R f := fun f hf hh => (l2.2.2.2.1 f hf).trans (hf1 f hf hh)
          have f35' : zf R2 35 = nI bs0.length := (l2.2.2.2.1 35 (by omega)).trans f35
          rw [← nI_1] at l1
          have hlt := ltext_lock hmC hm2 hT (a := p + 1 + im) (b := k) (by omega) (by omega) (Or.inr (Or.inr hc))
          have hf30 : f_30 C (nI bs0.length) = nI (p + 1 + im) := by
            unfold f_30; rw [zt_ldq _ _ (by omega), zt_ldq _ _ (by omega), g12, g13, nI_1, nI_add]
          have h159 : rv R2 159 bs0.length = nI (p + 1 + im) := by rw [hv2]; exact g6
          have h161 : rv R2 161 bs0.length = zf R2 36 ↔ zt C 112 (nI bs0.length) = zc C 1 := by
            rw [hv2, g8, hf2 36 (by omega) (by decide), zt_ldq _ _ (by omega), ← b4]
          have hx6 : (if ¬ (zt C 61 (nI k + 1)) = 91 then (nI k + 1) else (if ¬ (zt C 61 (nI k + 2)) = 93 then (nI k + 1) else (nI k + 3) : Int32) : Int32) = (if ¬ mA T (k + 1) = 91 then nI (k + 1) else (if ¬ mA T (k + 2) = 93 then nI (k + 1) else nI (k + 3))) := by
            rw [nI_1, nI_2, nI_3, hmC.at (by omega), hmC.at (by omega)]
          have hcl31 : f_31 C (nI bs0.length) (nI k) = (if ¬ (zt C 112 (nI bs0.length)) = (zc C 1) then ((-1), C) else (if (f_97 C (nI (p + 1 + im)) (nI k)) = true then (if ¬ ((f_20 C (nI (p + 1 + im)) (nI k)).1) = (-1) then ((if ¬ mA T (k + 1) = 91 then nI (k + 1) else (if ¬ mA T (k + 2) = 93 then nI (k + 1) else nI (k + 3))), f_37 ((f_20 C (nI (p + 1 + im)) (nI k)).2) 0 ((f_20 C (nI (p + 1 + im)) (nI k)).1) 0 0 0 0) else ((-1), (f_20 C (nI (p + 1 + im)) (nI k)).2)) else ((-1), C))) := by
            unfold f_31
            rw [hf30]
            dsimp only
            rw [hx6, hz1]
            by_cases q1 : mA T (k + 1) = 91
            · have d1 : ¬ ¬ mA T (k + 1) = 91 := fun hh => hh q1
              rw [if_neg d1]
              by_cases q2 : zt C 61 (f_96 C (nI k + 2)) = 93
              · have d2 : ¬ ¬ zt C 61 (f_96 C (nI k + 2)) = 93 := fun hh => hh q2
                rw [if_neg d2]
                by_cases q3 : f_97 C (nI k + 2) (f_96 C (nI k + 2)) = true
                · exfalso
                  rcases l3 with l3 | l3 | l3
                  · exact l3 q1
                  · rw [nI_2] at q2; exact l3 q2
                  · rw [nI_2] at q3; exact l3 q3
                · rw [if_neg q3]
              · rw [if_pos q2]
            · rw [if_pos q1]
          obtain ⟨bb, hbb⟩ : ∃ bb, bb = f_97 C (nI (p + 1 + im)) (nI k) := ⟨_, rfl⟩
          rw [← hbb] at hlt hcl31
          cases hb : bb with
          | false =>
            rw [hb] at hlt hcl31
            have hrf := r140_own (R := R) (R1 := R1) (nb := bs0.length) (x := x) (k := nI k) hS hnb h35 (g10.trans hdead) g5 (by omega) r2 (hm1.sk hT) l1 (hm2.sk hT) h159 (b := false) (fun _ => hlt) (R3 := R2) (num := 0) (fun hh => nomatch hh)
            rw [if_neg (fun hh => absurd hh.2 (by decide))] at hrf
            refine text C R2 rfl (fun _ _ => rfl) (fun j _ i => hv2 j i) (fun f hf hh _ => hf2 f hf hh) f35' ?_ hrf
            rw [hcl31]; split
            · rfl
            · rw [if_neg (by decide)]
          | true =>
            rw [hb] at hlt hcl31
            have h100 : k - (p + 1 + im) ≤ 100 := by
              have hf97 : f_97 C (nI (p + 1 + im)) (nI k) = true := by rw [← hbb]; exact hb
              unfold f_97 at hf97
              simp only [Bool.and_eq_true, decide_eq_true_eq] at hf97
              have := hf97.2.1
              rw [pk_sub (by omega)] at this
              have q : ¬ 100 < nI (k - (p + 1 + im)) := by simpa using this
              rw [show (100 : Int32) = nI 100 from rfl, nI_ltI (by omega) (by omega)] at q; omega
            obtain ⟨R3, n1, n2⟩ := r123 hT hm2 (a := p + 1 + im) (b := k) (by omega) (by omega) h100
            have n3 := r124 (DEF_R h.1.2.2.2.2 (fun j _ i => hv2 j i) (hf2 7 (by omega) (by decide))) n2 (by have := mnorm_len T (p + 1 + im) k; omega)
            have hc20 := c20 (C := C) (R := R) hmC h.1.2.2.2.2 (a := p + 1 + im) (b := k) (by omega) (by omega) h100
            have hv3 : ∀ j, ¬ j = 141 → ∀ i, rv R3 j i = rv R j i := fun j hj i => (n2.1 j hj i).trans (hv2 j i)
            have hf3 : ∀ f, (f < 50 ∨ 56 < f) → ¬ f = 35 → ¬ f = 8 → zf R3 f = zf R f := fun f hf hh h8 => (n2.2.2.2 f h8).trans (hf2 f hf hh)
            have f35'' : zf R3 35 = nI bs0.length := (n2.2.2.2 35 (by decide)).trans f35'
            have hm3 := n2.mR hm2
            have hrf := r140_own (R := R) (R1 := R1) (nb := bs0.length) (x := x) (k := nI k) hS hnb h35 (g10.trans hdead) g5 (by omega) r2 (hm1.sk hT) l1 (hm2.sk hT) h159 (b := true) (fun _ => hlt) (R3 := R3) (fun _ => ⟨n1, hm3.sk hT, n3⟩)
            rw [if_pos rfl, hc20] at hcl31
            dsimp only at hcl31
            by_cases q0 : zt C 112 (nI bs0.length) = zc C 1
            · have d0 : ¬ ¬ zt C 112 (nI bs0.length) = zc C 1 := fun hh => hh q0
              rw [if_neg d0] at hcl31
              rw [if_pos ⟨h161.mpr q0, rfl⟩] at hrf
              rcases dfind_in (mnorm T (p + 1 + im) k) D 0 with hd | ⟨i, hi1, hi2⟩
              · rw [hd] at hcl31 hrf
                rw [if_neg (fun hh => hh rfl)] at hcl31 hrf
                exact text (va_up C.1 87 (mnorm T (p + 1 + im) k), C.2) R3 rfl (fun id hid => mup_oth _ _ hid) hv3 hf3 f35'' hcl31 hrf
              · have hd20 := h.1.2.2.2.2.1
                rw [hi2] at hcl31 hrf
                rw [if_pos (ne_m1 (by omega))] at hcl31 hrf
                rw [nI_1, nI_2, nI_3, hm3.at hT (by omega), hm3.at hT (by omega)] at hrf
                obtain ⟨e, he1, he2, he3, he4⟩ : ∃ e, k < e ∧ e ≤ T.length ∧ ¬ mA T (e - 1) = 32 ∧ (if ¬ mA T (k + 1) = 91 then nI (k + 1) else (if ¬ mA T (k + 2) = 93 then nI (k + 1) else nI (k + 3))) = nI e := by
                  by_cases c1 : mA T (k + 1) = 91
                  · by_cases c2 : mA T (k + 2) = 93
                    · have := mA_lt c2 (by decide)
                      refine ⟨k + 3, by omega, by omega, by rw [show k + 3 - 1 = k + 2 by omega, c2]; decide, ?_⟩
                      rw [if_neg (fun hh => hh c1), if_neg (fun hh => hh c2)]
                    · refine ⟨k + 1, by omega, by omega, by rw [show k + 1 - 1 = k by omega, hc]; decide, ?_⟩
                      rw [if_neg (fun hh => hh c1), if_pos c2]
                  · refine ⟨k + 1, by omega, by omega, by rw [show k + 1 - 1 = k by omega, hc]; decide, ?_⟩
                    rw [if_pos c1]
                rw [he4] at hcl31 hrf
                exact link R3 _ (nI i) e hv3 hf3 f35'' he1 he2 ⟨i, by omega, rfl⟩ he3 hcl31 hrf
            · rw [if_pos q0] at hcl31
              rw [if_neg (fun hh => q0 (h161.mp hh.1))] at hrf
              exact text C R2 rfl (fun _ _ => rfl) (fun j _ i => hv2 j i) (fun f hf hh _ => hf2 f hf hh) f35' hcl31 hrf
      · rw [← nI_1] at r1 r2
        exact close_round h hbs hk hc f2 f3 h2 r1 r2 r3 r4 r5 r6 r7 r8 r9 r10 r11 r12 r13 r14 r15 r16 r17 r18 r19 hdead
    · have zd : ¬ zt C 108 (nI bs0.length) = 0 := by rw [zt_ldq _ _ (by omega), hdead]; decide
      refine close_text (pop C (zmf R 35 (nI bs0.length)) rfl (fun _ _ => rfl) (fun _ _ _ => rfl) (fun f hf => zf_other _ _ (by rintro rfl; exact absurd hf (by decide))) (zf_same _ _ _)) hk hc ?_ ?_ ?_ (r140_dead hS hnb h35 (by rw [g10, hdead]; decide)) hmC hmR h2
      · rw [zc26, zf_other _ _ (by decide)]; exact f2
      · rw [zc26, zf_other _ _ (by decide)]; exact f3
      · rw [c29_in h104 hnb, if_pos zd, nI_1]
theorem part_all (h : INV C R T D k G live rc bs nl pl it) (hk : k < T.length) (h2 : zc C 2 = 0) (f2 : zc C 2 = zf R 46) (f3 : zc C 3 = zf R 47) : PARTOK C R T D k := by
  by_cases c10 : mA T k = 10
  · exact part_line h hk h2 f2 f3 c10
  by_cases c38 : mA T k = 38
  · exact part_ref h hk h2 f2 f3 c38
  by_cases c42 : mA T k = 42
  · exact part_run h hk h2 f2 f3 (Or.inl c42)
  by_cases c60 : mA T k = 60
  · exact part_angle h hk h2 f2 f3 c60
  by_cases c91 : mA T k = 91
  · exact part_bracket h hk h2 f2 f3 false c91
  by_cases c92 : mA T k = 92
  · exact part_backslash h hk h2 f2 f3 c92
  by_cases c93 : mA T k = 93
  · exact part_close h hk h2 f2 f3 c93
  by_cases c95 : mA T k = 95
  · exact part_run h hk h2 f2 f3 (Or.inr c95)
  by_cases c96 : mA T k = 96
  · exact part_code h hk h2 f2 f3 c96
  by_cases c33 : mA T k = 33 ∧ mA T (k + 1) = 91
  · exact part_bracket h hk h2 f2 f3 true c33
  · refine part_default h hk h2 f2 f3 (fun c hcm => ?_) (fun q1 q2 => c33 ⟨q1, q2⟩)
    simp only [List.mem_cons, List.not_mem_nil, or_false] at hcm
    rcases hcm with rfl | rfl | rfl | rfl | rfl | rfl | rfl | rfl | rfl <;> assumption
end
