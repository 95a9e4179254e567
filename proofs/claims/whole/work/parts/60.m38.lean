/-! the mathematics; written by wip/whole/m2parts.py -/
section
variable {R R1 : zr_Z} {nb x : Nat} {k : Int32}
theorem r140_none (hS : sok R) (h35 : zf R 35 = 0) : o_140 R k = (Option.bind (o_127 (zmf R 35 0) 0 93) fun u5 => (if sok u5.2 then some (k + 1, u5.2) else none)) := by
  unfold o_140; rw [if_pos hS, if_pos h35, h35]; rfl
theorem r140_dead (hS : sok R) (hnb : nb < 1500) (h35 : zf R 35 = nI (nb + 1)) (hd : ¬ rv R 163 nb = 0) : o_140 R k = (Option.bind (o_127 (zmf R 35 (nI nb)) 0 93) fun u5 => (if sok u5.2 then some (k + 1, u5.2) else none)) := by
  have hne : ¬ zf R 35 = 0 := by rw [h35, ← nI_0, nI_eq (by omega) (by omega)]; omega
  have hq : inq 163 (nI nb) := inq_nI (by show nb < 1500; omega) (by omega)
  have hb1 : bI (!decide (zf R 35 = 0)) = 1 := by rw [decide_eq_false hne]; rfl
  unfold o_140
  rw [if_pos hS, if_neg hne, hb1, h35, nI_pred, if_pos hq, zv_nI _ _ (by omega), if_neg hd]
theorem r140_label (hS : sok R) (hnb : nb < 1500) (h35 : zf R 35 = nI (nb + 1)) (hd : rv R 163 nb = 0) (h158 : rv R 158 nb = nI x) (hx : x < 8000) (h119 : o_119 (zmf R 35 (nI nb)) (k + 1) = some (false, R1)) (hS1 : sok R1)
    {R2 : zr_Z} (h116 : o_116 R1 (k + 1) = some (true, R2)) (hS2 : sok R2) {R3 : zr_Z} (h123 : o_123 R2 (zf R2 52) (zf R2 53) = some R3) (hS3 : sok R3) {num : Int32} (h124 : o_124 R3 = some num) :
    o_140 R k = if ¬ num = -1 then rfin (zar (zar R3 149 (nI x) num) 143 (nI x) (if (zv R3 162 (nI nb)) = 0 then 6 else 7 : Int32)) (zv R3 160 (nI nb)) (nI nb) (zf R2 50) else (Option.bind (o_127 R3 0 93) fun u77 => (if sok u77.2 then some (k + 1, u77.2) else none)) := by
  have hne : ¬ zf R 35 = 0 := by rw [h35, ← nI_0, nI_eq (by omega) (by omega)]; omega
  have hq : ∀ j, zr_alen j = 1500 → inq j (nI nb) := fun j hj => inq_nI (by omega) (by omega)
  have hq8 : ∀ j, zr_alen j = 8000 → inq j (nI x) := fun j hj => inq_nI (by omega) (by omega)
  unfold o_140
  rw [if_pos hS, if_neg hne, h35, nI_pred, if_pos (hq 163 rfl), zv_nI R 163 (by omega), if_pos hd, if_pos (hq 158 rfl), h119]
  simp only [Option.bind_some]
  rw [if_pos hS1, if_neg (by decide), h116]
  simp only [Option.bind_some]
  rw [if_pos hS2, if_pos trivial, h123]
  simp only [Option.bind_some]
  rw [if_pos hS3, h124]
  simp only [Option.bind_some]
  rw [if_neg (by decide), zv_nI R 158 (by omega), h158, if_pos (hq8 149 rfl), if_pos (hq 162 rfl), if_pos (hq8 143 rfl), if_pos (hq 160 rfl)]
  rfl
theorem r140_own (hS : sok R) (hnb : nb < 1500) (h35 : zf R 35 = nI (nb + 1)) (hd : rv R 163 nb = 0) (h158 : rv R 158 nb = nI x) (hx : x < 8000) (h119 : o_119 (zmf R 35 (nI nb)) (k + 1) = some (false, R1)) (hS1 : sok R1)
    {R2 : zr_Z} (h116 : o_116 R1 (k + 1) = some (false, R2)) (hS2 : sok R2) {bg : Int32} (h159 : rv R2 159 nb = bg) {b : Bool} (h115 : rv R2 161 nb = zf R2 36 → o_115 R2 bg k = some b) {R3 : zr_Z} {num : Int32} (h123 : b = true → o_123 R2 bg k = some R3 ∧ sok R3 ∧ o_124 R3 = some num) :
    o_140 R k = if rv R2 161 nb = zf R2 36 ∧ b = true then (if ¬ num = -1 then rfin (zar (zar R3 149 (nI x) num) 143 (nI x) (if (zv R3 162 (nI nb)) = 0 then 6 else 7 : Int32)) (zv R3 160 (nI nb)) (nI nb) (if ¬ (ra R3 (k + 1)) = 91 then (k + 1) else (if ¬ (ra R3 (k + 2)) = 93 then (k + 1) else (k + 3) : Int32) : Int32) else (Option.bind (o_127 R3 0 93) fun u77 => (if sok u77.2 then some (k + 1, u77.2) else none)))
      else (Option.bind (o_127 R2 0 93) fun u77 => (if sok u77.2 then some (k + 1, u77.2) else none)) := by
  have hne : ¬ zf R 35 = 0 := by rw [h35, ← nI_0, nI_eq (by omega) (by omega)]; omega
  have hq : ∀ j, zr_alen j = 1500 → inq j (nI nb) := fun j hj => inq_nI (by omega) (by omega)
  have hq8 : ∀ j, zr_alen j = 8000 → inq j (nI x) := fun j hj => inq_nI (by omega) (by omega)
  unfold o_140
  rw [if_pos hS, if_neg hne, h35, nI_pred, if_pos (hq 163 rfl), zv_nI R 163 (by omega), if_pos hd, if_pos (hq 158 rfl), h119]
  simp only [Option.bind_some]
  rw [if_pos hS1, if_neg (by decide), h116]
  simp only [Option.bind_some]
  rw [if_pos hS2, if_neg (by decide), if_pos (hq 161 rfl), zv_nI R2 161 (by omega), zv_nI R2 159 (by omega), h159]
  by_cases h161 : rv R2 161 nb = zf R2 36
  · rw [if_neg (fun hh => hh h161), if_pos (hq 159 rfl), h115 h161]
    simp only [Option.bind_some]
    cases hb : b with
    | false =>
      rw [if_neg (by decide), if_neg (by decide), if_neg (fun hh => absurd hh.2 (by decide))]
    | true =>
      obtain ⟨g1, g2, g3⟩ := h123 hb
      rw [if_pos rfl, if_pos (hq 159 rfl), g1, if_pos ⟨h161, rfl⟩]
      simp only [Option.bind_some]
      rw [if_pos g2, g3]
      simp only [Option.bind_some, olet]
      rw [if_neg (by decide), zv_nI R 158 (by omega), h158, if_pos (hq8 149 rfl), if_pos (hq 162 rfl), if_pos (hq8 143 rfl), if_pos (hq 160 rfl)]
      rfl
  · rw [if_pos h161, if_neg (by decide), if_neg (fun hh => h161 hh.1)]
theorem r140_round (hS : sok R) (hnb : nb < 1500) (h35 : zf R 35 = nI (nb + 1)) (hd : rv R 163 nb = 0) (h158 : rv R 158 nb = nI x) (hx : x < 8000) (h119 : o_119 (zmf R 35 (nI nb)) (k + 1) = some (true, R1)) (hS1 : sok R1)
    {R2 : zr_Z} {n1 : Int32} (h120 : o_120 (zar R1 145 (nI x) (zf R1 10)) (zf R1 52) (zf R1 53) = some (n1, R2)) (hS2 : sok R2) {R3 : zr_Z} {n2 : Int32}
    (h120b : (zf R2 56 = 0 ∧ R3 = zar (zar R2 146 (nI x) n1) 147 (nI x) (zf R2 10) ∧ n2 = 0) ∨ (¬ zf R2 56 = 0 ∧ o_120 (zar (zar R2 146 (nI x) n1) 147 (nI x) (zf R2 10)) (zf R2 54) (zf R2 55) = some (n2, R3) ∧ sok R3 ∧ zv R3 162 (nI nb) = zv R2 162 (nI nb) ∧ zv R3 160 (nI nb) = zv R2 160 (nI nb))) :
    o_140 R k = rfin (zar (zar (zar R3 148 (nI x) n2) 149 (nI x) (-1)) 143 (nI x) (if (zv R2 162 (nI nb)) = 0 then 6 else 7 : Int32)) (zv R2 160 (nI nb)) (nI nb) (zf R1 50) := by
  have hne : ¬ zf R 35 = 0 := by rw [h35, ← nI_0, nI_eq (by omega) (by omega)]; omega
  have hq : ∀ j, zr_alen j = 1500 → inq j (nI nb) := fun j hj => inq_nI (by omega) (by omega)
  have hq8 : ∀ j, zr_alen j = 8000 → inq j (nI x) := fun j hj => inq_nI (by omega) (by omega)
  unfold o_140
  rw [if_pos hS, if_neg hne, h35, nI_pred, if_pos (hq 163 rfl), zv_nI R 163 (by omega), if_pos hd, if_pos (hq 158 rfl), h119]
  simp only [Option.bind_some]
  rw [if_pos hS1, if_pos trivial, zv_nI R 158 (by omega), h158, if_pos (hq8 145 rfl), h120]
  simp only [Option.bind_some]
  rw [if_pos hS2, if_pos (hq8 146 rfl), if_pos (hq8 147 rfl)]
  rcases h120b with ⟨g1, g2, g3⟩ | ⟨g1, g2, g3, g4, g5⟩
  · rw [if_pos g1, if_pos (hq8 148 rfl), if_pos trivial, if_pos (hq8 149 rfl), if_pos (hq 162 rfl), if_pos (hq8 143 rfl), if_pos (hq 160 rfl), g2, g3]
    rfl
  · rw [if_neg g1, g2]
    simp only [Option.bind_some]
    rw [if_pos g3, if_pos (hq8 148 rfl), if_pos trivial, if_pos (hq8 149 rfl), if_pos (hq 162 rfl), if_pos (hq8 143 rfl), if_pos (hq 160 rfl), g4, g5]
    rfl
end
theorem inv_pop {C C' R R' : zr_Z} {T : List Int32} {D : List (List Int32)} {k : Nat} {G : List Ent} {live : List Nat} {rc : Nat} {bs bs0 : List (Nat × Nat × Nat × Nat)} {w : Nat × Nat × Nat × Nat} {nl pl it : Nat}
    (h : INV C R T D k G live rc bs nl pl it) (hbs : bs = bs0 ++ [w]) (hC : zc C' 1 = zc C 1 ∧ (∀ id ∈ [104, 106, 108, 110, 112], C'.1 id = (C.1 id).take bs0.length) ∧ (∀ id, ¬ id ∈ [104, 106, 108, 110, 112] → ¬ id = 87 → C'.1 id = C.1 id))
    (hR : (∀ j, ¬ j = 141 → ∀ i, rv R' j i = rv R j i) ∧ (∀ f ∈ [3, 7, 10, 20, 21, 28, 36], zf R' f = zf R f) ∧ zf R' 35 = nI bs0.length) : INV C' R' T D k G live rc bs0 nl pl it := by
  have hlen : bs.length = bs0.length + 1 := by rw [hbs, List.length_append]; rfl
  have key : INV (va_up (va_up (va_up (va_up (va_up C.1 104 ((C.1 104).take bs0.length)) 106 ((C.1 106).take bs0.length)) 108 ((C.1 108).take bs0.length)) 110 ((C.1 110).take bs0.length)) 112 ((C.1 112).take bs0.length), C.2) (zmf R 35 (nI bs0.length)) T D k G live rc bs0 nl pl it := by
    generalize hE : ((va_up (va_up (va_up (va_up (va_up C.1 104 ((C.1 104).take bs0.length)) 106 ((C.1 106).take bs0.length)) 108 ((C.1 108).take bs0.length)) 110 ((C.1 110).take bs0.length)) 112 ((C.1 112).take bs0.length), C.2) : zr_Z) = E
    have hEr : ∀ id ∈ [104, 106, 108, 110, 112], E.1 id = (C.1 id).take bs0.length := by
      intro id hid
      rw [← hE]
      simp only [List.mem_cons, List.not_mem_nil, or_false] at hid
      rcases hid with rfl | rfl | rfl | rfl | rfl <;> rfl
    have hEo : ∀ id, ¬ id ∈ [104, 106, 108, 110, 112] → E.1 id = C.1 id := by
      intro id hid
      simp only [List.mem_cons, List.not_mem_nil, or_false, not_or] at hid
      rw [← hE]; dsimp only
      rw [mup_oth _ _ hid.2.2.2.2, mup_oth _ _ hid.2.2.2.1, mup_oth _ _ hid.2.2.1, mup_oth _ _ hid.2.1, mup_oth _ _ hid.1]
    have hE2 : E.2 = C.2 := by rw [← hE]
    have hov := h.ov
    have hbl := h.bl
    have hix := h.ix
    obtain ⟨hIT, hIS, hIR, hIB, hIL, hIP, hIW, -⟩ := h
    have hl : ∀ id i, ¬ id ∈ [104, 106, 108, 110, 112] → ldq E id i = ldq C id i := fun id i hid => by rw [ldq_eq, ldq_eq, hEo id hid]
    have hlb : ∀ id ∈ [104, 106, 108, 110, 112], ∀ i, i < bs0.length → ldq E id i = ldq C id i := fun id hid i hi => by rw [ldq_eq, ldq_eq, hEr id hid, getD_take hi]
    have hkd : ∀ q, kd E q = kd C q := fun q => by unfold kd; rw [hEo 66 (by decide)]
    have hvl : ∀ q, vl E q = vl C q := fun q => by unfold vl; rw [hEo 68 (by decide)]
    have hct : ∀ q, ctok E T q = ctok C T q := fun q => by
      rw [ctok_eq, ctok_eq]; unfold ldT ldU
      rw [hkd, hvl, hl 72 _ (by decide), hl 70 _ (by decide), hl 74 _ (by decide), hl 76 _ (by decide), hl 78 _ (by decide), hl 80 _ (by decide)]
    have hzc : zc E 1 = zc C 1 := by unfold zc; rw [hE2]
    have hzf : ∀ f, ¬ f = 35 → zf (zmf R 35 (nI bs0.length)) f = zf R f := fun f hf => zf_other _ _ hf
    have hrt : ∀ y t, rtok (zmf R 35 (nI bs0.length)) y t = rtok R y t := fun y t => rtok_all (fun _ _ _ => rfl)
    have hBL : ∀ id ∈ [104, 106, 108, 110, 112], (E.1 id).length = bs0.length := fun id hid => by
      rw [hEr id hid, List.length_take, hbl id hid]; omega
    refine ⟨?_, ?_, ?_, ?_, ?_, ⟨(hzf 10 (by decide)).trans hIP.1, hIP.2⟩, ⟨?_, ?_, ?_, ?_⟩, hix, hov, hBL⟩
    · obtain ⟨h1, h2, h3, h4, h5⟩ := hIT
      obtain ⟨d1, d2, d3, d4, d5, d6, d7⟩ := h5
      exact ⟨(hEo 61 (by decide)).trans h1, ⟨(hzf 3 (by decide)).trans h2.1, h2.2⟩, h3, h4, d1, d2, (hEo 83 (by decide)).trans d3, (hEo 85 (by decide)).trans d4, (hzf 7 (by decide)).trans d5, d6, d7⟩
    · obtain ⟨s1, s2, s3, s4, s5, s6, s7, s8, s9, s10⟩ := hIS
      exact ⟨by rw [hEo 66 (by decide)]; exact s1, by rw [hEo 68 (by decide)]; exact s2, s3, fun q h1 h2 => by rw [hkd, hvl]; exact s4 q h1 h2, SG_cong G 0 k s5 (fun p _ _ => hct p) (fun en _ => hrt _ _), chn_cong _ _ s6 (fun _ _ => rfl) (fun _ _ => rfl) (hzf 21 (by decide)), s7, (hzf 20 (by decide)).trans s8, s9, s10⟩
    · obtain ⟨h1, h2, h3, h4, h5, h6, h7, h8⟩ := hIR
      refine ⟨fun id hid => by rw [hEo id (by revert hid; revert id; decide)]; exact h1 id hid, h2, h3, (hzf 28 (by decide)).trans h4, h5, h6, h7, fun i r hir => ?_⟩
      obtain ⟨x, a, e, g1, g2, g3, g4, g5, g6, g7, g8⟩ := h8 i r hir
      refine ⟨x, a, e, g1, by rw [hl 91 _ (by decide)]; exact g2, by rw [hl 93 _ (by decide)]; exact g3, by rw [hl 95 _ (by decide)]; exact g4, by rw [hl 97 _ (by decide)]; exact g5, by rw [hl 101 _ (by decide)]; exact g6, by rw [hl 99 _ (by decide)]; exact g7, fun q q1 q2 => by rw [hkd, hvl]; exact g8 q q1 q2⟩
    · obtain ⟨h1, h2, h3, h4, ⟨n, hn, hn'⟩, h6, h7⟩ := hIB
      refine ⟨fun id hid => Nat.le_of_eq (hBL id hid).symm, zf_same _ _ _, ⟨by omega, h3.2⟩, by rw [hzc, hzf 36 (by decide)]; exact h4, ⟨n, hn, hzc.trans hn'⟩, fun b v hbv => ?_, ?_⟩
      · have hb : b < bs0.length := (List.getElem?_eq_some_iff.mp hbv).1
        have hbv' : bs[b]? = some v := by rw [hbs, List.getElem?_append_left hb]; exact hbv
        obtain ⟨⟨g1, g2, g3, g4, g5, g6, g7, g8, g9, g10, g11, g12, g13, g14⟩, hra⟩ := h6 b v hbv'
        exact ⟨⟨g1, g2, g3, g4, g5, g6, g7, by rw [hlb 112 (by decide) b hb]; exact g8, g9, by rw [hlb 108 (by decide) b hb]; exact g10, by rw [hlb 108 (by decide) b hb]; exact g11, by rw [hlb 104 (by decide) b hb]; exact g12, by rw [hlb 106 (by decide) b hb]; exact g13, by rw [hlb 110 (by decide) b hb]; exact g14⟩, hra⟩
      · rw [hbs, List.pairwise_append] at h7; exact h7.1
    · obtain ⟨h1, h2, h3, h4⟩ := hIL
      refine ⟨fun id hid => by rw [hEo id (by revert hid; revert id; decide)]; exact h1 id hid, h2, fun i hi => ?_, fun q hq => ?_⟩
      · have := h3 i hi
        unfold LD1 at this ⊢
        rw [hl 70 _ (by decide), hl 74 _ (by decide), hl 76 _ (by decide), hl 78 _ (by decide), hl 80 _ (by decide)]; exact this
      · rw [hkd] at hq; rw [hvl]; exact h4 q hq
    · rw [sumE_cong (g := fun en => lws (rtok R en.1 en.2.2.2)) G (fun en _ => by rw [hrt])]; exact hIW.1
    · rw [sumE_cong (f := ew (zmf R 35 (nI bs0.length))) (g := ew R) G (fun en _ => ew_all (R := R) (R' := zmf R 35 (nI bs0.length)) (fun _ _ _ => rfl) en)]; exact hIW.2.1
    · exact NB_cong hIW.2.2.1 (fun en _ => hrt en.1 en.2.2.2)
    · exact IZ_cong hIW.2.2.2 (fun _ _ _ _ _ => rfl)
  refine inv_same key ⟨fun id hid => ?_, hC.1⟩ ⟨fun j hj i => hR.1 j hj i, fun f hf => ?_⟩
  · by_cases hm : id ∈ [104, 106, 108, 110, 112]
    · rw [hC.2.1 id hm]
      simp only [List.mem_cons, List.not_mem_nil, or_false] at hm
      rcases hm with rfl | rfl | rfl | rfl | rfl <;> rfl
    · rw [hC.2.2 id hm hid]
      simp only [List.mem_cons, List.not_mem_nil, or_false, not_or] at hm
      dsimp only
      rw [mup_oth _ _ hm.2.2.2.2, mup_oth _ _ hm.2.2.2.1, mup_oth _ _ hm.2.2.1, mup_oth _ _ hm.2.1, mup_oth _ _ hm.1]
  · by_cases e : f = 35
    · rw [e, hR.2.2, zf_same]
    · rw [zf_other _ _ e]
      exact hR.2.1 f (by simp only [List.mem_cons, List.not_mem_nil, or_false] at hf ⊢; omega)
