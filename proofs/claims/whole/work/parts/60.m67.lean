/-! the mathematics; written by wip/whole/m2parts.py -/
def RDY (C R : zr_Z) : Prop := (C.1 58).length = 20 ∧ (∀ i, i < 20 → rv R 138 i = (C.1 58).getD i 0) ∧ ∀ i, i < 20 → 0 ≤ ((C.1 58).getD i 0).toInt ∧ ((C.1 58).getD i 0).toInt ≤ 255
def OUTR (C R : zr_Z) : Prop := (C.1 134).length ≤ 18000 ∧ zf R 49 = nI (C.1 134).length ∧ ∀ i, i < (C.1 134).length → rv R 172 i = (C.1 134).getD i 0
def NDS (C R : zr_Z) : Prop := ∃ N pl, CN C N ∧ ((zc C 5 = 1 ∧ RN R N pl ∧ NOK N ∧ pl ≤ 4500) ∨ (zc C 5 = 0 ∧ zf R 45 = -1 ∧ N = []))
def FLT (C R : zr_Z) : Prop := zc C 4 = zf R 46 ∧ zc C 3 = zf R 47
def REL (C R : zr_Z) : Prop := (∃ T D, IT C R T D) ∧ RDY C R ∧ OUTR C R ∧ NDS C R ∧ FLT C R
theorem RDY_keep {C R C' R' : zr_Z} (h : RDY C R) (hC : C'.1 58 = C.1 58) (hR : ∀ i, rv R' 138 i = rv R 138 i) : RDY C' R' := by
  unfold RDY; rw [hC]; exact ⟨h.1, fun i hi => (hR i).trans (h.2.1 i hi), h.2.2⟩
theorem OUTR_keep {C R C' R' : zr_Z} (h : OUTR C R) (hC : C'.1 134 = C.1 134) (hR : ∀ i, rv R' 172 i = rv R 172 i) (h49 : zf R' 49 = zf R 49) : OUTR C' R' := by
  unfold OUTR; rw [hC, h49]; exact ⟨h.1, h.2.1, fun i hi => (hR i).trans (h.2.2 i hi)⟩
theorem CN_keep {C C' : zr_Z} {N : List Nd} (h : CN C N) (hC : ∀ id, 115 ≤ id → id ≤ 131 → C'.1 id = C.1 id) : CN C' N := by
  obtain ⟨a, b, c, d⟩ := h
  have hq : ∀ id i, 115 ≤ id → id ≤ 131 → ldq C' id i = ldq C id i := fun id i h1 h2 => by rw [ldq_eq, ldq_eq, hC id h1 h2]
  refine ⟨fun id hid => ?_, b, by rw [hC 131 (by omega) (by omega)]; exact c, fun k nd hk => ?_⟩
  · have : 115 ≤ id ∧ id ≤ 131 := by revert hid; revert id; decide
    rw [hC id this.1 this.2]; exact a id hid
  · have := d k nd hk
    unfold ND1 at this ⊢
    rw [hq 115 _ (by omega) (by omega), hq 117 _ (by omega) (by omega), hq 119 _ (by omega) (by omega), hq 129 _ (by omega) (by omega), hq 123 _ (by omega) (by omega), hq 127 _ (by omega) (by omega), hq 121 _ (by omega) (by omega), hq 125 _ (by omega) (by omega), hC 131 (by omega) (by omega)]
    exact this
theorem NDS_keep {C R C' R' : zr_Z} (h : NDS C R) (hC : ∀ id, 115 ≤ id → id ≤ 131 → C'.1 id = C.1 id) (h5 : zc C' 5 = zc C 5) (hR : ∀ j, (j = 142 ∨ (164 ≤ j ∧ j ≤ 171)) → ∀ i, rv R' j i = rv R j i) (h45 : zf R' 45 = zf R 45) (h10 : zf R' 10 = zf R 10) : NDS C' R' := by
  obtain ⟨N, pl, h1, h2⟩ := h
  refine ⟨N, pl, CN_keep h1 hC, ?_⟩
  rw [h5, h45]
  rcases h2 with ⟨a, b, c, d⟩ | g
  · exact Or.inl ⟨a, ⟨h45.trans b.1, h10.trans b.2.1, fun k nd hk => RND_keep (b.2.2 k nd hk) (fun j j1 j2 => hR j (by omega) k) (fun i _ => hR 142 (by omega) i) (Nat.le_refl _)⟩, c, d⟩
  · exact Or.inr g
theorem FLT_keep {C R C' R' : zr_Z} (h : FLT C R) (h4 : zc C' 4 = zc C 4) (h3 : zc C' 3 = zc C 3) (h46 : zf R' 46 = zf R 46) (h47 : zf R' 47 = zf R 47) : FLT C' R' := by
  unfold FLT; rw [h4, h3, h46, h47]; exact h
def RF (R R' : zr_Z) : Prop := R'.1 = R.1 ∧ R'.2.1 = R.2.1 ∧ R'.2.2.2.2 = R.2.2.2.2
theorem RJ.rf {R R' : zr_Z} {js fs : List Nat} (h : RJ R R' js fs) : RF R R' := ⟨h.1, h.2.1, h.2.2.2.2⟩
theorem up_row {C : zr_Z} {k : Nat} {l : List Int32} {id : Nat} (h : ¬ id = k) : ((va_up C.1 k l, C.2) : zr_Z).1 id = C.1 id := mup_oth C.1 l h
theorem up_at {C : zr_Z} {k : Nat} {l : List Int32} : ((va_up C.1 k l, C.2) : zr_Z).1 k = l := mup_same C.1 k l
theorem feed_both {C R : zr_Z} (h : REL C R) (w0 w1 w2 w3 w4 : Int32) : ∃ R', o_153 R w0 w1 w2 w3 w4 = some R' ∧ REL (f_8 C w0 w1 w2 w3 w4) R' ∧ (f_8 C w0 w1 w2 w3 w4).2.2 = C.2.2 ∧ RF R R' := by
  obtain ⟨⟨T, D, h1⟩, h2, h3, h4, h5⟩ := h
  obtain ⟨l, a, b, c⟩ := c8 w0 w1 w2 w3 w4 h2.1
  obtain ⟨R', r1, r2, r3⟩ := r153_loop w0 w1 w2 w3 w4 20 0 oF (zmf R 0 0) (by omega) (by unfold oF; omega)
  rw [nI_0] at r1
  have rj : RJ R R' [138] [0] := by
    refine ((RJ.refl R [138] [0]).zmf (by simp) 0).trans ⟨r2.1, r2.2.1, r2.2.2.1, fun f hf => r2.2.2.2.1 f (by simp), r2.2.2.2.2⟩
  have hz : ∀ f, ¬ f = 0 → zf R' f = zf R f := fun f hf => rj.2.2.2.1 f (by simpa using hf)
  have hv : ∀ j, ¬ j = 138 → ∀ i, rv R' j i = rv R j i := fun j hj i => rj.2.2.1 j (by simpa using hj) i
  refine ⟨R', r1, ?_, by rw [a], rj.rf⟩
  rw [a]
  refine ⟨⟨T, D, ?_⟩, ⟨by rw [up_at]; exact b, fun i hi => ?_, fun i hi => ?_⟩, OUTR_keep h3 (up_row (by decide)) (hv 172 (by decide)) (hz 49 (by decide)), NDS_keep h4 (fun id i1 i2 => up_row (by omega)) rfl (fun j hj => hv j (by omega)) (hz 45 (by decide)) (hz 10 (by decide)), FLT_keep h5 rfl rfl (hz 46 (by decide)) (hz 47 (by decide))⟩
  · obtain ⟨a1, a2, a3, a4, a5⟩ := h1
    obtain ⟨d1, d2, d3, d4, d5, d6, d7⟩ := a5
    refine ⟨(up_row (by decide)).trans a1, ⟨(hz 3 (by decide)).trans a2.1, fun i hi => (hv 137 (by decide) i).trans (a2.2 i hi)⟩, a3, fun i hi => (hv 173 (by decide) i).trans (a4 i hi), d1, d2, (up_row (by decide)).trans d3, (up_row (by decide)).trans d4, (hz 7 (by decide)).trans d5, fun d hd => ?_, fun d k hd hk => ?_⟩
    · rw [hv 140 (by decide)]; exact d6 d hd
    · rw [hv 139 (by decide)]; exact d7 d k hd hk
  · rw [r3 i hi, if_pos (by omega), up_at, c i hi]
  · rw [up_at, c i hi]; unfold by5 byv; exact and255 _
theorem IT_part {C R C' R' : zr_Z} {T : List Int32} {D : List (List Int32)} (h : IT C R T D) (h61 : C'.1 61 = C.1 61) (h83 : C'.1 83 = C.1 83) (h85 : C'.1 85 = C.1 85) (hR : ∀ j, (j = 137 ∨ j = 139 ∨ j = 140 ∨ j = 173) → ∀ i, rv R' j i = rv R j i) (h3 : zf R' 3 = zf R 3) (h7 : zf R' 7 = zf R 7) : IT C' R' T D := by
  obtain ⟨a1, a2, a3, a4, a5⟩ := h
  obtain ⟨d1, d2, d3, d4, d5, d6, d7⟩ := a5
  refine ⟨h61.trans a1, ⟨h3.trans a2.1, fun i hi => (hR 137 (by omega) i).trans (a2.2 i hi)⟩, a3, fun i hi => (hR 173 (by omega) i).trans (a4 i hi), d1, d2, h83.trans d3, h85.trans d4, h7.trans d5, fun d hd => ?_, fun d k hd hk => ?_⟩
  · rw [hR 140 (by omega)]; exact d6 d hd
  · rw [hR 139 (by omega)]; exact d7 d k hd hk
theorem c10_loop {mm : Nat} (hmm : mm ≤ 20) : ∀ d i m C, i + d = mm → d < m → (C.1 58).length = 20 → (C.1 61).length + d ≤ 1500 →
    g_10_29 m C (nI mm) (nI i) = (nI ((C.1 61).length + d), (va_up (va_up C.1 61 (C.1 61 ++ ((C.1 58).drop i).take d)) 58 (List.replicate 20 0), C.2)) := by
  intro d
  induction d with
  | zero =>
    intro i m C hi hm hl hr
    obtain ⟨m, rfl⟩ : ∃ z, m = z + 1 := ⟨m - 1, by omega⟩
    rw [g_10_29, if_pos ((nI_leI (by omega) (by omega)).mpr (by omega)), List.take_zero, List.append_nil, mup_self]
    unfold zfill zs; dsimp only; rw [mup_oth _ _ (by decide)]; rfl
  | succ d ih =>
    intro i m C hi hm hl hr
    obtain ⟨m, rfl⟩ : ∃ z, m = z + 1 := ⟨m - 1, by omega⟩
    have hil : i < (C.1 58).length := by omega
    have ha : zadd C 61 (zt C 58 (nI i)) = (va_up C.1 61 (C.1 61 ++ [(C.1 58)[i]]), C.2) := by
      unfold zadd radd
      rw [if_pos (show (C.1 61).length < zr_most 61 from by show _ < 1500; omega), zt_ldq _ _ (by omega), ldq_eq, List.getD_eq_getElem?_getD, List.getElem?_eq_getElem hil]; rfl
    rw [g_10_29, if_neg (by rw [nI_leI (by omega) (by omega)]; omega), ha, nI_1, ih (i + 1) m _ (by omega) (by omega) (by rw [up_row (by decide)]; exact hl) (by rw [up_at, List.length_append, List.length_singleton]; omega), up_at, up_row (show ¬ 58 = 61 by decide)]
    dsimp only
    rw [mup_up, List.length_append, List.length_singleton, List.drop_eq_getElem_cons hil, List.take_succ_cons, List.append_assoc, List.singleton_append, show (C.1 61).length + 1 + d = (C.1 61).length + (d + 1) by omega]
theorem inq137 {t : Nat} (h : t < 1500) : inq 137 (nI t) := inq_nI (j := 137) h (by omega)
theorem inq138 {t : Nat} (h : t < 20) : inq 138 (nI t) := inq_nI (j := 138) h (by omega)
theorem r155_loop {mm : Nat} (hmm : mm ≤ 20) : ∀ d p m R t, p + d = 20 → d < m → zf R 3 = nI t → t + (mm - p) ≤ 1500 →
    ∃ R', g_155_31 m R (nI mm) (nI p) = some (nI (t + (mm - p)), R') ∧ RJ R R' [137, 138] [3] ∧ zf R' 3 = nI (t + (mm - p)) ∧ (∀ i, i < t → rv R' 137 i = rv R 137 i) ∧ (∀ i, p ≤ i → i < mm → rv R' 137 (t + (i - p)) = rv R 138 i) ∧ (∀ i, i < 20 → rv R' 138 i = if p ≤ i then 0 else rv R 138 i) := by
  intro d
  induction d with
  | zero =>
    intro p m R t hp hm h3 hr
    obtain ⟨m, rfl⟩ : ∃ z, m = z + 1 := ⟨m - 1, by omega⟩
    refine ⟨R, ?_, RJ.refl R _ _, by rw [h3, show mm - p = 0 by omega]; rfl, fun _ _ => rfl, fun i h1 h2 => absurd h2 (by omega), fun i hi => by rw [if_neg (by omega)]⟩
    rw [g_155_31, if_pos (by rw [show (20 : Int32) = nI 20 from rfl, nI_leI (by omega) (by omega)]; omega), h3, show mm - p = 0 by omega]; rfl
  | succ d ih =>
    intro p m R t hp hm h3 hr
    obtain ⟨m, rfl⟩ : ∃ z, m = z + 1 := ⟨m - 1, by omega⟩
    have hq : inq 138 (nI p) := inq138 (by omega)
    rw [g_155_31, if_neg (by rw [show (20 : Int32) = nI 20 from rfl, nI_leI (by omega) (by omega)]; omega)]
    by_cases hc : mm ≤ p
    · obtain ⟨R', g1, g2, g3, g4, g5, g6⟩ := ih (p + 1) m (zar R 138 (nI p) 0) t (by omega) (by omega) h3 (by omega)
      refine ⟨R', ?_, ((RJ.refl R [137, 138] [3]).zar (by simp) _ _).trans g2, by rw [g3]; congr 1; omega, fun i hi => (g4 i hi).trans (zar_ne R _ _ (by decide) i), fun i h1 h2 => absurd h2 (by omega), fun i hi => ?_⟩
      · rw [if_pos ((nI_leI (by omega) (by omega)).mpr hc), if_pos hq, nI_1, g1]; congr 3; omega
      · rw [g6 i hi, rv_zar1 R 138 (by omega)]
        by_cases he : i = p
        · rw [if_neg (by omega), if_pos he, if_pos (by omega)]
        · rw [if_neg he]
          by_cases hl : p + 1 ≤ i
          · rw [if_pos hl, if_pos (by omega)]
          · rw [if_neg hl, if_neg (by omega)]
    · have hS : zf (zar (zmf (zar R 137 (nI t) (zv R 138 (nI p))) 3 (nI t + 1)) 138 (nI p) 0) 3 = nI (t + 1) := by
        rw [zf_zar, zf_same, nI_1]
      obtain ⟨R', g1, g2, g3, g4, g5, g6⟩ := ih (p + 1) m (zar (zmf (zar R 137 (nI t) (zv R 138 (nI p))) 3 (nI t + 1)) 138 (nI p) 0) (t + 1) (by omega) (by omega) hS (by omega)
      have h137 : ∀ i, rv (zar (zmf (zar R 137 (nI t) (zv R 138 (nI p))) 3 (nI t + 1)) 138 (nI p) 0) 137 i = if i = t then rv R 138 p else rv R 137 i := by
        intro i
        rw [show rv (zar (zmf (zar R 137 (nI t) (zv R 138 (nI p))) 3 (nI t + 1)) 138 (nI p) 0) 137 i = rv (zmf (zar R 137 (nI t) (zv R 138 (nI p))) 3 (nI t + 1)) 137 i from zar_ne (zmf (zar R 137 (nI t) (zv R 138 (nI p))) 3 (nI t + 1)) (j := 138) (l := 137) _ _ (by decide) i, rv_zmf, rv_zar1 R 137 (by omega), zv_nI R 138 (by omega)]
      have h138 : ∀ i, rv (zar (zmf (zar R 137 (nI t) (zv R 138 (nI p))) 3 (nI t + 1)) 138 (nI p) 0) 138 i = if i = p then 0 else rv R 138 i := by
        intro i
        rw [rv_zar1 _ 138 (by omega), rv_zmf, show rv (zar R 137 (nI t) (zv R 138 (nI p))) 138 i = rv R 138 i from zar_ne R (j := 137) (l := 138) _ _ (by decide) i]
      refine ⟨R', ?_, ((((RJ.refl R [137, 138] [3]).zar (by simp) _ _).zmf (by simp) _).zar (by simp) _ _).trans g2, by rw [g3]; congr 1; omega, fun i hi => ?_, fun i h1 h2 => ?_, fun i hi => ?_⟩
      · rw [if_neg (by rw [nI_leI (by omega) (by omega)]; omega), if_pos hq, h3, if_pos (inq137 (show t < 1500 by omega)), if_pos hq, nI_1 p, g1]; congr 3; omega
      · rw [g4 i (by omega), h137, if_neg (by omega)]
      · by_cases he : i = p
        · rw [he, Nat.sub_self, Nat.add_zero, g4 t (by omega), h137, if_pos rfl]
        · rw [show t + (i - p) = t + 1 + (i - (p + 1)) by omega, g5 i (by omega) h2, h138, if_neg he]
      · rw [g6 i hi, h138]
        by_cases he : i = p
        · rw [if_neg (by omega), if_pos he, if_pos (by omega)]
        · rw [if_neg he]
          by_cases hl : p + 1 ≤ i
          · rw [if_pos hl, if_pos (by omega)]
          · rw [if_neg hl, if_neg (by omega)]
