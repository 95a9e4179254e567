/-! the mathematics; written by wip/whole/m2parts.py -/
theorem dends_app : ∀ (D : List (List Int32)) (s : Nat) (w : List Int32), dends s (D ++ [w]) = dends s D ++ [nI (s + D.flatten.length + w.length)] := by
  intro D
  induction D with
  | nil => intro s w; rfl
  | cons v D ih =>
    intro s w
    rw [List.cons_append, dends, dends, ih, List.cons_append, List.flatten_cons, List.length_append, show s + v.length + D.flatten.length + w.length = s + (v.length + D.flatten.length) + w.length by omega]
theorem c21_loop : ∀ d i m C, i + d = (C.1 87).length → d < m → (C.1 87).length ≤ 100 → (C.1 83).length + d ≤ 2000 → (C.1 85).length < 20 →
    g_21_16 m C (nI i) = (nI (C.1 85).length, (va_up (va_up C.1 83 (C.1 83 ++ (C.1 87).drop i)) 85 (C.1 85 ++ [nI ((C.1 83).length + d)]), C.2)) := by
  intro d
  induction d with
  | zero =>
    intro i m C hi hm hl h83 h85
    obtain ⟨m, rfl⟩ : ∃ z, m = z + 1 := ⟨m - 1, by omega⟩
    have ha : zadd C 85 (zs C 83) = (va_up C.1 85 (C.1 85 ++ [nI (C.1 83).length]), C.2) := by
      unfold zadd radd
      rw [if_pos (show (C.1 85).length < zr_most 85 from h85)]; rfl
    have hz : zs C 87 = nI (C.1 87).length := rfl
    rw [g_21_16, hz, if_pos ((nI_leI (by omega) (by omega)).mpr (by omega)), ha, List.drop_eq_nil_of_le (by omega), List.append_nil, mup_self]
    unfold zs; rw [up_at, List.length_append, List.length_singleton, nI_pred]; rfl
  | succ d ih =>
    intro i m C hi hm hl h83 h85
    obtain ⟨m, rfl⟩ : ∃ z, m = z + 1 := ⟨m - 1, by omega⟩
    have hil : i < (C.1 87).length := by omega
    have ha : zadd C 83 (zt C 87 (nI i)) = (va_up C.1 83 (C.1 83 ++ [(C.1 87)[i]]), C.2) := by
      unfold zadd radd
      rw [if_pos (show (C.1 83).length < zr_most 83 from by show _ < 2000; omega), zt_ldq _ _ (by omega), ldq_eq, List.getD_eq_getElem?_getD, List.getElem?_eq_getElem hil]; rfl
    have hz : zs C 87 = nI (C.1 87).length := rfl
    rw [g_21_16, hz, if_neg (by rw [nI_leI (by omega) (by omega)]; omega), ha, nI_1, ih (i + 1) m _ (by rw [up_row (by decide)]; omega) (by omega) (by rw [up_row (by decide)]; exact hl) (by rw [up_at, List.length_append, List.length_singleton]; omega) (by rw [up_row (by decide)]; exact h85)]
    rw [up_at, up_row (show ¬ 85 = 83 by decide), up_row (show ¬ 87 = 83 by decide)]
    dsimp only
    rw [mup_up, List.append_assoc, List.singleton_append, ← List.drop_eq_getElem_cons hil, List.length_append, List.length_singleton, show (C.1 83).length + 1 + d = (C.1 83).length + (d + 1) by omega]
theorem r157_loop {l : List Int32} (hl : l.length ≤ 100) {x : Nat} (hx : x < 20) : ∀ d i m S, i + d = l.length → d < m → zf S 8 = nI l.length → (∀ k, k < l.length → rv S 141 k = l.getD k 0) →
    ∃ S', g_157_91 m S (nI x) (nI i) = some (nI x, S') ∧ (∀ j, ¬ j = 139 → ∀ k, rv S' j k = rv S j k) ∧ (∀ k, rv S' 139 k = if 100 * x + i ≤ k ∧ k < 100 * x + l.length then l.getD (k - 100 * x) 0 else rv S 139 k) ∧ (∀ f, ¬ f = 3 → zf S' f = zf S f) ∧ zf S' 3 = 0 := by
  intro d
  induction d with
  | zero =>
    intro i m S hi hm h8 h141
    obtain ⟨m, rfl⟩ : ∃ z, m = z + 1 := ⟨m - 1, by omega⟩
    refine ⟨zmf S 3 0, ?_, fun _ _ _ => rfl, fun k => by rw [if_neg (by omega)]; rfl, fun f hf => zf_other _ _ hf, zf_same _ _ _⟩
    rw [g_157_91, h8, if_pos ((nI_leI (by omega) (by omega)).mpr (by omega))]
  | succ d ih =>
    intro i m S hi hm h8 h141
    obtain ⟨m, rfl⟩ : ∃ z, m = z + 1 := ⟨m - 1, by omega⟩
    have e1 : (100 : Int32) * nI x + nI i = nI (100 * x + i) := by rw [show (100 : Int32) = nI 100 from rfl, pk_mul, nI_add]
    have hv : ∀ j, ¬ j = 139 → ∀ k, rv (zar S 139 (nI (100 * x + i)) (rv S 141 i)) j k = rv S j k := fun j hj k => zar_ne S (j := 139) (l := j) _ _ hj k
    obtain ⟨S', g1, g2, g3, g4, g5⟩ := ih (i + 1) m (zar S 139 (nI (100 * x + i)) (rv S 141 i)) (by omega) (by omega) (by rw [zf_zar]; exact h8) (fun k hk => (hv 141 (by decide) k).trans (h141 k hk))
    refine ⟨S', ?_, fun j hj k => (g2 j hj k).trans (hv j hj k), fun k => ?_, fun f hf => (g4 f hf).trans (zf_zar ..), g5⟩
    · rw [g_157_91, h8, if_neg (by rw [nI_leI (by omega) (by omega)]; omega), if_pos (inq_nI (j := 141) (show i < 100 by omega) (by omega)), e1, if_pos (inq_nI (j := 139) (show 100 * x + i < 2000 by omega) (by omega)), zv_nI S _ (by omega), nI_1, g1]
    · rw [g3 k, rv_zar1 S 139 (by omega)]
      by_cases he : k = 100 * x + i
      · rw [if_neg (by omega), if_pos he, if_pos (by omega), h141 i (by omega)]; congr 1; omega
      · rw [if_neg he]
        by_cases hc : 100 * x + (i + 1) ≤ k ∧ k < 100 * x + l.length
        · rw [if_pos hc, if_pos (by omega)]
        · rw [if_neg hc, if_neg (by omega)]

theorem DEF_more {C R C' R' : zr_Z} {D : List (List Int32)} {w : List Int32} (h : DEF C R D) (hD : D.length < 20) (hw : w.length ≤ 100) (h83 : C'.1 83 = C.1 83 ++ w) (h85 : C'.1 85 = C.1 85 ++ [nI ((C.1 83).length + w.length)]) (h7 : zf R' 7 = nI (D.length + 1))
    (h140 : ∀ k, rv R' 140 k = if k = D.length then nI w.length else rv R 140 k) (h139 : ∀ k, rv R' 139 k = if 100 * D.length + 0 ≤ k ∧ k < 100 * D.length + w.length then w.getD (k - 100 * D.length) 0 else rv R 139 k) : DEF C' R' (D ++ [w]) := by
  obtain ⟨d1, d2, d3, d4, d5, d6, d7⟩ := h
  have hlast : (D ++ [w]).getD D.length [] = w := by rw [List.getD_eq_getElem?_getD, List.getElem?_append_right (Nat.le_refl _), Nat.sub_self]; rfl
  have hold : ∀ d, d < D.length → (D ++ [w]).getD d [] = D.getD d [] := fun d hd => by rw [List.getD_eq_getElem?_getD, List.getElem?_append_left hd, ← List.getD_eq_getElem?_getD]
  have hmem : ∀ d, d < D.length → (D.getD d []).length ≤ 100 := fun d hd => by
    rw [List.getD_eq_getElem?_getD, List.getElem?_eq_getElem hd]; exact d2 _ (List.getElem_mem hd)
  refine ⟨by rw [List.length_append, List.length_singleton]; omega, fun v hv => ?_, ?_, ?_, by rw [h7, List.length_append, List.length_singleton], fun d hd => ?_, fun d k hd hk => ?_⟩
  · rcases List.mem_append.mp hv with g | g
    · exact d2 v g
    · rw [List.mem_singleton] at g; rw [g]; exact hw
  · rw [h83, d3, List.flatten_append]; congr 1; simp
  · rw [h85, d4, dends_app, d3, Nat.zero_add]
  · rw [List.length_append, List.length_singleton] at hd
    rw [h140]
    by_cases he : d = D.length
    · rw [if_pos he, he, hlast]
    · rw [if_neg he, hold d (by omega)]; exact d6 d (by omega)
  · rw [List.length_append, List.length_singleton] at hd
    rw [h139]
    by_cases he : d = D.length
    · rw [he, hlast] at hk ⊢
      rw [if_pos (by omega)]; congr 1; omega
    · rw [hold d (by omega)] at hk ⊢
      have := hmem d (by omega)
      rw [if_neg (by omega)]; exact d7 d k (by omega) hk
theorem dfind_neg (w : List Int32) : ∀ (D : List (List Int32)) (d : Nat), d + D.length < 2 ^ 31 → dfind w d D = -1 ∨ ∃ j, d ≤ j ∧ j < d + D.length ∧ dfind w d D = nI j := by
  intro D
  induction D with
  | nil => intro d _; exact Or.inl rfl
  | cons v D ih =>
    intro d hd
    rw [List.length_cons] at hd
    rw [dfind]
    by_cases hc : v = w
    · rw [if_pos hc]; exact Or.inr ⟨d, Nat.le_refl _, by rw [List.length_cons]; omega, rfl⟩
    · rw [if_neg hc]
      rcases ih (d + 1) (by omega) with g | ⟨j, g1, g2, g3⟩
      · exact Or.inl g
      · exact Or.inr ⟨j, by omega, by rw [List.length_cons]; omega, g3⟩
theorem define_both {C R : zr_Z} (h : REL C R) :
    (∃ a C' R', o_12 C = some (a, C') ∧ o_157 R = some (a, R') ∧ zf R' 0 = 0 ∧ REL C' R' ∧ C'.2.2 = C.2.2) ∨
    (f_19 C = false ∧ ∃ R', o_157 R = some (0, R') ∧ zf R' 0 = 1 ∧ REL C R') ∨
    (f_19 C = true ∧ (f_20 C 0 (zs C 61)).1 = -1 ∧ (f_21 (f_20 C 0 (zs C 61)).2).1 = -1 ∧ ∃ R', o_157 R = some (0, R') ∧ zf R' 0 = 2 ∧ REL (f_21 (f_20 C 0 (zs C 61)).2).2 R' ∧ (f_21 (f_20 C 0 (zs C 61)).2).2.2.2 = C.2.2) := by
  have h' := h
  obtain ⟨⟨T, D, h1⟩, h2, h3, h4, h5⟩ := h
  have hT := h1.2.2.1
  have hl := hT.1
  have hT61 : C.1 61 = T := h1.1
  have hzs : zs C 61 = nI T.length := by unfold zs; rw [hT61]
  have hz3 : zf R 3 = nI T.length := h1.2.1.1
  have hR0 : mR (zmf R 0 0) T := h1.2.1.zmf (by decide) 0
  have hlab : o_115 (zmf R 0 0) 0 (zf R 3) = some (f_19 C) := by
    have := ltext_lock h1.1 hR0 hT (Nat.zero_le T.length) (Nat.le_refl _) (Or.inl rfl)
    rw [nI_0] at this
    unfold f_19; rw [hz3, hzs]; exact this
  by_cases hf : f_19 C = true
  · have h97 : f_97 C 0 (nI T.length) = true := by unfold f_19 at hf; rw [hzs] at hf; exact hf
    have h100 : T.length ≤ 100 := by
      unfold f_97 at h97
      simp only [Bool.and_eq_true, Bool.not_eq_true', decide_eq_false_iff_not] at h97
      have h2 := h97.2.1
      rw [← nI_0, pk_sub (Nat.zero_le _), Nat.sub_zero, show (100 : Int32) = nI 100 from rfl, nI_ltI (by omega) (by omega)] at h2
      omega
    obtain ⟨u3, k1, k2⟩ := r123 hT hR0 (Nat.zero_le T.length) (Nat.le_refl _) (by omega)
    rw [nI_0] at k1
    have hD0 : DEF C (zmf R 0 0) D := by
      obtain ⟨d1, d2, d3, d4, d5, d6, d7⟩ := h1.2.2.2.2
      exact ⟨d1, d2, d3, d4, (zf_other _ _ (by decide)).trans d5, d6, d7⟩
    have hwl := mnorm_len T 0 T.length
    have k3 := r124 hD0 k2 (by omega)
    have c2 := c20 h1.1 hD0 (Nat.zero_le T.length) (by omega) (by omega)
    rw [nI_0] at c2
    generalize hw : mnorm T 0 T.length = w at k2 k3 c2 hwl
    have hz : ∀ f, ¬ f = 0 → ¬ f = 8 → zf u3 f = zf R f := fun f a b => (k2.2.2.2 f b).trans (zf_other _ _ a)
    have hv : ∀ j, ¬ j = 141 → ∀ i, rv u3 j i = rv R j i := fun j a i => k2.1 j a i
    have e157 : o_157 R = (if ¬ dfind w 0 D = (-1) then (if ¬ dfind w 0 D = (-1) then some (dfind w 0 D, zmf u3 3 0) else (if inq 140 (zf u3 7) then g_157_91 oF (zar (zmf u3 7 ((zf u3 7) + 1)) 140 (zf u3 7) (zf u3 8)) (zf u3 7) 0 else none)) else (if ¬ (zf u3 7) = 20 then (if ¬ dfind w 0 D = (-1) then some (dfind w 0 D, zmf u3 3 0) else (if inq 140 (zf u3 7) then g_157_91 oF (zar (zmf u3 7 ((zf u3 7) + 1)) 140 (zf u3 7) (zf u3 8)) (zf u3 7) 0 else none)) else some (0, zmf u3 0 2))) := by
      unfold o_157
      rw [hlab, hf, Option.bind_some, if_pos rfl, hz3, k1, Option.bind_some, k3, Option.bind_some]
    have h7 : zf u3 7 = nI D.length := (hz 7 (by decide) (by decide)).trans h1.2.2.2.2.2.2.2.2.1
    have hD20 := h1.2.2.2.2.1
    have hu0 : zf u3 0 = 0 := (k2.2.2.2 0 (by decide)).trans (zf_same _ _ _)
    have hC87 : ∀ id, ¬ id = 87 → ((va_up C.1 87 w, C.2) : zr_Z).1 id = C.1 id := fun id hid => up_row hid
    by_cases hnf : dfind w 0 D = -1
    · by_cases hfull : D.length = 20
      · right; right
        have e21 : f_21 (va_up C.1 87 w, C.2) = (-1, (va_up C.1 87 w, C.2)) := by
          unfold f_21 zs
          rw [hC87 85 (by decide), h1.2.2.2.2.2.2.2.1, dends_len, hfull, if_neg (by decide)]
        refine ⟨hf, by rw [hzs, c2]; exact hnf, by rw [hzs, c2, e21], zmf u3 0 2, ?_, zf_same _ _ _, ?_, by rw [hzs, c2, e21]⟩
        · rw [e157, if_neg (fun hh => hh hnf), if_neg (by rw [h7, hfull]; exact fun hh => hh rfl)]
        · rw [hzs, c2, e21]
          refine REL_0 ?_ 2
          exact ⟨⟨T, D, IT_part h1 (hC87 61 (by decide)) (hC87 83 (by decide)) (hC87 85 (by decide)) (fun j hj => hv j (by omega)) (hz 3 (by decide) (by decide)) (hz 7 (by decide) (by decide))⟩, RDY_keep h2 (hC87 58 (by decide)) (hv 138 (by decide)), OUTR_keep h3 (hC87 134 (by decide)) (hv 172 (by decide)) (hz 49 (by decide) (by decide)),
            NDS_keep h4 (fun id i1 i2 => hC87 id (by omega)) rfl (fun j hj => hv j (by omega)) (hz 45 (by decide) (by decide)) (hz 10 (by decide) (by decide)), FLT_keep h5 rfl rfl (hz 46 (by decide) (by decide)) (hz 47 (by decide) (by decide))⟩
      · left
        have hlt : D.length < 20 := by omega
        obtain ⟨d1, d2, d3, d4, d5, d6, d7⟩ := h1.2.2.2.2
        have hfl := flat_len D d2
        have h85l : (C.1 85).length = D.length := by rw [d4, dends_len]
        have e21 : f_21 (va_up C.1 87 w, C.2) = (nI D.length, (va_up (va_up (va_up C.1 87 w) 83 (C.1 83 ++ w)) 85 (C.1 85 ++ [nI ((C.1 83).length + w.length)]), C.2)) := by
          have := c21_loop w.length 0 (((zs (va_up C.1 87 w, C.2) 87).toInt - (0 : Int32).toInt).toNat + 1) (va_up C.1 87 w, C.2) (by rw [up_at]; omega) (by unfold zs; rw [up_at, nI_toInt (by omega)]; show w.length < ((w.length : Int) - 0).toNat + 1; omega) (by rw [up_at]; omega) (by rw [hC87 83 (by decide), d3]; omega) (by rw [hC87 85 (by decide), h85l]; omega)
          rw [nI_0, up_at, hC87 83 (by decide), hC87 85 (by decide), List.drop_zero, h85l] at this
          unfold f_21
          rw [if_pos (by unfold zs; rw [hC87 85 (by decide), h85l, show (20 : Int32) = nI 20 from rfl, nI_ltI (by omega) (by omega)]; exact hlt)]
          exact this
        have hS7 : ∀ f, ¬ f = 7 → zf (zar (zmf u3 7 (nI D.length + 1)) 140 (nI D.length) (zf u3 8)) f = zf u3 f := fun f hf => by rw [zf_zar, zf_other _ _ hf]
        have hSv : ∀ j, ¬ j = 140 → ∀ k, rv (zar (zmf u3 7 (nI D.length + 1)) 140 (nI D.length) (zf u3 8)) j k = rv u3 j k := fun j hj k => zar_ne (zmf u3 7 (nI D.length + 1)) (j := 140) (l := j) _ _ hj k
        obtain ⟨S', s1, s2, s3, s4, s5⟩ := r157_loop (l := w) (by omega) hlt w.length 0 oF (zar (zmf u3 7 (nI D.length + 1)) 140 (nI D.length) (zf u3 8)) (by omega) (by unfold oF; omega) ((hS7 8 (by decide)).trans k2.2.2.1) (fun k hk => (hSv 141 (by decide) k).trans (k2.2.1 k hk))
        rw [nI_0] at s1
        have h1500 : ¬ nI D.length = -1 := by
          intro hh
          have : ¬ nI D.length < 0 := nI_pos (by omega)
          rw [hh] at this; exact this (by decide)
        refine ⟨nI D.length, zcut (va_up (va_up (va_up C.1 87 w) 83 (C.1 83 ++ w)) 85 (C.1 85 ++ [nI ((C.1 83).length + w.length)]), C.2) 61 0, S', ?_, ?_, ?_, ?_, rfl⟩
        · unfold o_12 olet
          rw [if_pos hf, hzs, c2]
          dsimp only
          rw [if_neg (fun hh => hh hnf), e21]
          dsimp only
          rw [if_pos h1500]
        · rw [e157, if_neg (fun hh => hh hnf), h7, if_pos (by rw [show (20 : Int32) = nI 20 from rfl, nI_eq (by omega) (by omega)]; exact hfull), if_neg (fun hh => hh hnf), if_pos (inq_nI (j := 140) (show D.length < 20 from hlt) (by omega)), s1]
        · rw [s4 0 (by decide), hS7 0 (by decide)]; exact hu0
        · have hzz : ∀ f, ¬ f = 0 → ¬ f = 8 → ¬ f = 7 → ¬ f = 3 → zf S' f = zf R f := fun f a b c d => (s4 f d).trans ((hS7 f c).trans (hz f a b))
          have hvv : ∀ j, ¬ j = 139 → ¬ j = 140 → ¬ j = 141 → ∀ k, rv S' j k = rv R j k := fun j a b c k => (s2 j a k).trans ((hSv j b k).trans (hv j c k))
          have hc' : ∀ id, ¬ id = 61 → ¬ id = 83 → ¬ id = 85 → ¬ id = 87 → (zcut (va_up (va_up (va_up C.1 87 w) 83 (C.1 83 ++ w)) 85 (C.1 85 ++ [nI ((C.1 83).length + w.length)]), C.2) 61 0).1 id = C.1 id := fun id a b c d => by
            unfold zcut; dsimp only; rw [mup_oth _ _ a, mup_oth _ _ c, mup_oth _ _ b, mup_oth _ _ d]
          refine ⟨⟨[], D ++ [w], ?_⟩, RDY_keep h2 (hc' 58 (by decide) (by decide) (by decide) (by decide)) (hvv 138 (by decide) (by decide) (by decide)), OUTR_keep h3 (hc' 134 (by decide) (by decide) (by decide) (by decide)) (hvv 172 (by decide) (by decide) (by decide)) (hzz 49 (by decide) (by decide) (by decide) (by decide)),
            NDS_keep h4 (fun id i1 i2 => hc' id (by omega) (by omega) (by omega) (by omega)) rfl (fun j hj => hvv j (by omega) (by omega) (by omega)) (hzz 45 (by decide) (by decide) (by decide) (by decide)) (hzz 10 (by decide) (by decide) (by decide) (by decide)), FLT_keep h5 rfl rfl (hzz 46 (by decide) (by decide) (by decide) (by decide)) (hzz 47 (by decide) (by decide) (by decide) (by decide))⟩
          refine ⟨?_, ⟨s5, fun i hi => absurd hi (by simp)⟩, ⟨by decide, fun c hc => absurd hc (by simp)⟩, fun i hi => (hvv 173 (by decide) (by decide) (by decide) i).trans (h1.2.2.2.1 i hi), ?_⟩
          · unfold mC zcut; dsimp only; rw [mup_same, row_cut0]
          · refine DEF_more (C := C) (R := R) ⟨d1, d2, d3, d4, d5, d6, d7⟩ hlt (by omega) ?_ ?_ ?_ (fun k => ?_) (fun k => ?_)
            · unfold zcut; dsimp only; rw [mup_oth _ _ (by decide), mup_oth _ _ (by decide), mup_same]
            · unfold zcut; dsimp only; rw [mup_oth _ _ (by decide), mup_same]
            · rw [s4 7 (by decide), zf_zar, zf_same, nI_1]
            · rw [s2 140 (by decide) k, rv_zar1 _ 140 (by omega), rv_zmf, k2.2.2.1, hv 140 (by decide)]
            · rw [s3 k]
              by_cases hc : 100 * D.length + 0 ≤ k ∧ k < 100 * D.length + w.length
              · rw [if_pos hc, if_pos hc]
              · rw [if_neg hc, if_neg hc, hSv 139 (by decide), hv 139 (by decide)]
    · left
      refine ⟨dfind w 0 D, zcut (va_up C.1 87 w, C.2) 61 0, zmf u3 3 0, ?_, ?_, ?_, ?_, rfl⟩
      · unfold o_12 olet
        rw [if_pos hf, hzs, c2]
        dsimp only
        rw [if_pos hnf, if_pos hnf]
      · rw [e157, if_pos hnf, if_pos hnf]
      · rw [zf_other _ _ (by decide)]; exact hu0
      · have hzz : ∀ f, ¬ f = 0 → ¬ f = 8 → ¬ f = 3 → zf (zmf u3 3 0) f = zf R f := fun f a b d => (zf_other _ _ d).trans (hz f a b)
        have hc' : ∀ id, ¬ id = 61 → ¬ id = 87 → (zcut (va_up C.1 87 w, C.2) 61 0).1 id = C.1 id := fun id a d => by
          unfold zcut; dsimp only; rw [mup_oth _ _ a, mup_oth _ _ d]
        refine ⟨⟨[], D, ?_⟩, RDY_keep h2 (hc' 58 (by decide) (by decide)) (hv 138 (by decide)), OUTR_keep h3 (hc' 134 (by decide) (by decide)) (hv 172 (by decide)) (hzz 49 (by decide) (by decide) (by decide)),
          NDS_keep h4 (fun id i1 i2 => hc' id (by omega) (by omega)) rfl (fun j hj => hv j (by omega)) (hzz 45 (by decide) (by decide) (by decide)) (hzz 10 (by decide) (by decide) (by decide)), FLT_keep h5 rfl rfl (hzz 46 (by decide) (by decide) (by decide)) (hzz 47 (by decide) (by decide) (by decide))⟩
        obtain ⟨d1, d2, d3, d4, d5, d6, d7⟩ := h1.2.2.2.2
        refine ⟨?_, ⟨zf_same _ _ _, fun i hi => absurd hi (by simp)⟩, ⟨by decide, fun c hc => absurd hc (by simp)⟩, fun i hi => (hv 173 (by decide) i).trans (h1.2.2.2.1 i hi), d1, d2, (hc' 83 (by decide) (by decide)).trans d3, (hc' 85 (by decide) (by decide)).trans d4, (hzz 7 (by decide) (by decide) (by decide)).trans d5, fun d hd => ?_, fun d k hd hk => ?_⟩
        · unfold mC zcut; dsimp only; rw [mup_same, row_cut0]
        · show rv u3 140 d = _
          rw [hv 140 (by decide)]; exact d6 d hd
        · show rv u3 139 _ = _
          rw [hv 139 (by decide)]; exact d7 d k hd hk
  · right; left
    have hff : f_19 C = false := by cases hh : f_19 C with
      | false => rfl
      | true => exact absurd hh hf
    refine ⟨hff, zmf (zmf R 0 0) 0 1, ?_, zf_same _ _ _, REL_0 (REL_0 h' 0) 1⟩
    unfold o_157
    rw [hlab, hff, Option.bind_some, if_neg (by decide)]
