/-! the mathematics; written by wip/whole/m2parts.py -/
def mtl (T : List Int32) : Nat → Nat → List Int32
  | _, 0 => []
  | a, n + 1 => mA T a :: mtl T (a + 1) n
theorem mtl_len (T : List Int32) : ∀ n a, (mtl T a n).length = n := by
  intro n
  induction n with
  | zero => intro a; rfl
  | succ n ih => intro a; rw [mtl, List.length_cons, ih]
theorem tsl_eq {T : List Int32} : ∀ n a, a + n ≤ T.length → tsl T a (a + n) = mtl T a n := by
  intro n
  induction n with
  | zero => intro a _; unfold tsl; rw [Nat.add_zero, Nat.sub_self, List.take_zero]; rfl
  | succ n ih =>
    intro a h
    have := ih (a + 1) (by omega)
    unfold tsl at this ⊢
    rw [show a + (n + 1) - a = (a + 1 + n - (a + 1)) + 1 by omega, List.drop_eq_getElem_cons (by omega), List.take_succ_cons, this, mtl]
    congr 1
    unfold mA; rw [List.getD_eq_getElem?_getD, List.getElem?_eq_getElem (by omega)]; rfl
theorem csts_mtl (T : List Int32) : ∀ n a, (∀ i, a ≤ i → i < a + n → cst (mA T i) = 1) → csts (mtl T a n) = n := by
  intro n
  induction n with
  | zero => intro a _; rfl
  | succ n ih =>
    intro a h
    have := ih (a + 1) (fun i h1 h2 => h i (by omega) (by omega))
    unfold csts at *
    rw [mtl, List.map_cons, List.sum_cons, this, h a (Nat.le_refl _) (by omega)]; omega
theorem ctok_lead {C C' : zr_Z} {T : List Int32} {nl k : Nat} (hIL : IL C T k nl) (hk1 : k ≤ 1500) (hC : ∀ id ∈ [70, 72, 74, 76, 78, 80], ∃ c, C'.1 id = C.1 id ++ [c]) {q : Nat} (hq : kd C' q = kd C q ∧ vl C' q = vl C q) : ctok C' T q = ctok C T q := by
  have hd : ∀ id ∈ [70, 72, 74, 76, 78, 80], ∀ i, i < nl → ldq C' id i = ldq C id i := by
    intro id hid i hi
    obtain ⟨c, hc⟩ := hC id hid
    unfold ldq; rw [hc, getD_app_l (by rw [hIL.1 id hid]; exact hi)]
  unfold ctok
  rw [hq.1, hq.2]
  by_cases h67 : kd C q = 6 ∨ kd C q = 7
  · obtain ⟨i, hi, hv⟩ := hIL.2.2.2 q h67
    have hnl := hIL.2.1
    rw [hv, nI_clamp (by omega)]
    unfold ldT ldU
    rw [hd 70 (by decide) i hi, hd 72 (by decide) i hi, hd 74 (by decide) i hi, hd 76 (by decide) i hi, hd 78 (by decide) i hi, hd 80 (by decide) i hi]
  · by_cases h8 : kd C q = 8
    · rw [if_pos h8, if_pos h8]
    · rw [if_neg h8, if_neg h8]
      by_cases h0 : kd C q = 0
      · rw [if_pos h0, if_pos h0]
      · rw [if_neg h0, if_neg h0, if_neg h67, if_neg h67]

theorem IL_lead {C C' : zr_Z} {T : List Int32} {nl k k' : Nat} (hIL : IL C T k nl) (hk : k < k') (hC : ∀ id ∈ [70, 72, 74, 76, 78, 80], ∃ c, C'.1 id = C.1 id ++ [c]) (hnew : LD1 C' T nl) (hm : ∀ q, (kd C' q = 6 ∨ kd C' q = 7) → vl C' q = nI nl ∨ (kd C q = kd C' q ∧ vl C q = vl C' q)) : IL C' T k' (nl + 1) := by
  have hd : ∀ id ∈ [70, 72, 74, 76, 78, 80], ∀ i, i < nl → ldq C' id i = ldq C id i := by
    intro id hid i hi
    obtain ⟨c, hc⟩ := hC id hid
    unfold ldq; rw [hc, getD_app_l (by rw [hIL.1 id hid]; exact hi)]
  refine ⟨fun id hid => ?_, by have := hIL.2.1; omega, fun i hi => ?_, fun q hq => ?_⟩
  · obtain ⟨c, hc⟩ := hC id hid
    rw [hc, List.length_append, hIL.1 id hid]; rfl
  · by_cases e : i = nl
    · rw [e]; exact hnew
    · have := hIL.2.2.1 i (by omega)
      unfold LD1 at this ⊢
      rw [hd 70 (by decide) i (by omega), hd 74 (by decide) i (by omega), hd 76 (by decide) i (by omega), hd 78 (by decide) i (by omega), hd 80 (by decide) i (by omega)]; exact this
  · rcases hm q hq with h | ⟨h1, h2⟩
    · exact ⟨nl, by omega, h⟩
    · rw [← h1] at hq
      obtain ⟨i, hi, hv⟩ := hIL.2.2.2 q hq
      exact ⟨i, by omega, by rw [← h2]; exact hv⟩
theorem mail_cst {T : List Int32} (hT : gT T) (i : Nat) : k_190 (mA T i) = true → cst (mA T i) = 1 := byt (P := fun c => k_190 c = true → cst c = 1) hT i (by decide +kernel)
theorem addr_facts {T : List Int32} {k x : Nat} (h : mAddr T k x) : k + 4 ≤ x ∧ mA T x = 62 := by
  obtain ⟨a, h1, h2, h3, h4, h5, h6, h7⟩ := h
  have := h6.1
  exact ⟨by omega, h7⟩
theorem mail_facts {T : List Int32} (hT : gT T) {k x : Nat} (h : mMail T k x) : k + 4 ≤ x ∧ mA T x = 62 ∧ ∀ i, k + 1 ≤ i → i < x → cst (mA T i) = 1 := by
  obtain ⟨a, h1, h2, h3, h4, h5, h6, h7⟩ := h
  have hax := h4.1
  have hx : a + 1 < x := by
    rcases Nat.lt_or_ge (a + 1) x with g | g
    · exact g
    · have : x = a + 1 := by omega
      have q := h4.2.2
      rw [this, (k197_eq hT _).2 h5] at q; exact absurd q (by decide)
  refine ⟨by omega, h7, fun i g1 g2 => ?_⟩
  by_cases e1 : i < a
  · exact mail_cst hT i (h1.2.1 i g1 e1)
  · by_cases e2 : i = a
    · rw [e2, h3]; decide
    · exact mail_cst hT i (h4.2.1 i (by omega) g2)
section
variable {C R : zr_Z} {T : List Int32} {D : List (List Int32)} {k : Nat} {G : List Ent} {live : List Nat} {rc : Nat} {bs : List (Nat × Nat × Nat × Nat)} {nl pl it : Nat}
theorem r145_keep {R2 : zr_Z} (hT : gT T) (hm2 : mR R2 T) (k x y : Nat) (hx : x ≤ T.length) : ∀ d i m R3 l, i + d = x → d < m → pl + l.length + d ≤ 6000 → kps R2 R3 pl l → ∃ R4, kps R2 R4 pl (l ++ mtl T i d) ∧ g_145_110 m R3 (nI k) (nI x) (nI y) (nI i) = g_145_110 1 R4 (nI k) (nI x) (nI y) (nI x) := by
  have hl := hT.1
  intro d
  induction d with
  | zero =>
    intro i m R3 l hi hm hpl hkp
    obtain ⟨m, rfl⟩ : ∃ z, m = z + 1 := ⟨m - 1, by omega⟩
    obtain rfl : i = x := by omega
    refine ⟨R3, by rw [mtl, List.append_nil]; exact hkp, ?_⟩
    rw [g_145_110, g_145_110, if_pos (Int32.le_refl _), if_pos (Int32.le_refl _)]
  | succ d ih =>
    intro i m R3 l hi hm hpl hkp
    obtain ⟨m, rfl⟩ : ∃ z, m = z + 1 := ⟨m - 1, by omega⟩
    have hm3 := hkp.mR hm2
    obtain ⟨R5, k1, k2⟩ := kps_snoc hkp (by omega) (mA T i)
    obtain ⟨R4, k3, k4⟩ := ih (i + 1) m R5 (l ++ [mA T i]) (by omega) (by omega) (by rw [List.length_append]; simp only [List.length_cons, List.length_nil]; omega) k2
    refine ⟨R4, by rw [mtl]; rw [List.append_assoc] at k3; exact k3, ?_⟩
    rw [← k4, g_145_110, if_pos (hm3.sk hT), if_neg (by rw [nI_leI (by omega) (by omega)]; omega), hm3.at hT (by omega), k1]
    simp only [Option.bind_some]
    rw [if_pos ((k2.mR hm2).sk hT), nI_1]
theorem part_addr (h : INV C R T D k G live rc bs nl pl it) (hk : k < T.length) (h2 : zc C 2 = 0) (f2 : zc C 2 = zf R 46) (f3 : zc C 3 = zf R 47) (hc : mA T k = 60) (x : Nat) (mail : Bool) (hx4 : k + 4 ≤ x) (hx62 : mA T x = 62)
    (hcost : mail = true → ∀ i, k + 1 ≤ i → i < x → cst (mA T i) = 1) (hf60 : f_60 C (nI k) = (nI (x + 1), f_28 (f_36 (f_37 C (if mail = true then 3 else 2) (-1) (nI (k + 1)) (nI x) 0 0) 6 (nI k) (nI x)))) (ho : o_142 R (nI k) = some (nI x, zmf R 51 (if mail = true then 1 else 0))) : PARTOK C R T D k := by
  have hT := h.1.2.2.1
  have hl := hT.1
  have hmC := h.1.1
  have hS := h.sok
  have hxl := mA_lt hx62 (by decide)
  have h' : INV C (zmf R 51 (if mail = true then 1 else 0)) T D k G live rc bs nl pl it := inv_sceq h ((sceq.refl R).zmf (by omega) _)
  obtain ⟨R1, hR1⟩ : ∃ R1, R1 = zmf R 51 (if mail = true then 1 else 0) := ⟨_, rfl⟩
  rw [← hR1] at h' ho
  have hmR := h'.1.2.1
  obtain ⟨s1, s2, s3, s4, s5, s6, s7, s8, s9, s10⟩ := h'.2.1
  obtain ⟨p1, p2, p3⟩ := h'.2.2.2.2.2.1
  have hIL := h.2.2.2.2.1
  have hnlk := hIL.2.1
  obtain ⟨n, hn⟩ : ∃ n, n = x - k - 1 := ⟨_, rfl⟩
  obtain ⟨lt, hlt⟩ : ∃ lt, lt = (if mail = true then mailto else []) ++ mtl T (k + 1) n := ⟨_, rfl⟩
  have hltl : lt.length = (if mail = true then 7 else 0) + n := by
    rw [hlt, List.length_append, mtl_len]; congr 1; cases mail <;> rfl
  have hlt7 : lt.length ≤ 7 + n := by rw [hltl]; split <;> omega
  have h10 : zf R 46 = 0 := by rw [← f2]; exact h2
  obtain ⟨md, hmd⟩ : ∃ md : Int32, md = if mail = true then 3 else 2 := ⟨_, rfl⟩
  rw [← hmd] at hf60
  obtain ⟨w0, w70, w72, w74, w76, w78, w80, woth⟩ := c37 (C := C) (n := nl) (by omega) hIL.1 md (-1) (nI (k + 1)) (nI x) 0 0
  obtain ⟨C1, hC1⟩ : ∃ C1, C1 = f_37 C md (-1) (nI (k + 1)) (nI x) 0 0 := ⟨_, rfl⟩
  rw [← hC1] at w0 w70 w72 w74 w76 w78 w80 woth hf60
  have l66 : (C1.1 66).length = T.length := by rw [woth 66 (by decide)]; exact s1
  have l68 : (C1.1 68).length = T.length := by rw [woth 68 (by decide)]; exact s2
  obtain ⟨a1, a2, a3⟩ := put66 (C := C1) (p := k) (by omega) (by omega) 6
  have hz70 : zs (zput C1 66 (nI k) 6) 70 - 1 = nI nl := by
    unfold zs; rw [zput_oth (by decide), w70, List.length_append, hIL.1 70 (by decide)]; exact nI_pred nl
  obtain ⟨b1, b2, b3⟩ := put68 (C := zput C1 66 (nI k) 6) (p := k) (by rw [a1.2.2.2]; omega) (by rw [a1.2.2.2]; omega) (nI nl)
  have ab := a1.trans b1
  obtain ⟨c1, c2, c3⟩ := put66 (C := zput (zput C1 66 (nI k) 6) 68 (nI k) (nI nl)) (p := x) (by rw [ab.2.2.1]; omega) (by rw [ab.2.2.1]; omega) 9
  have abc := ab.trans c1
  obtain ⟨C2, hC2⟩ : ∃ C2, C2 = f_36 C1 6 (nI k) (nI x) := ⟨_, rfl⟩
  have hC2' : C2 = zput (zput (zput C1 66 (nI k) 6) 68 (nI k) (nI nl)) 66 (nI x) 9 := by rw [hC2]; unfold f_36; rw [hz70]
  rw [← hC2] at hf60
  rw [← hC2'] at c1 c2 c3 abc
  have kd1 : ∀ q, kd C1 q = kd C q := fun q => by unfold kd; rw [woth 66 (by decide)]
  have vl1 : ∀ q, vl C1 q = vl C q := fun q => by unfold vl; rw [woth 68 (by decide)]
  have kd2 : ∀ q, kd C2 q = if q = x then 9 else if q = k then 6 else kd C q := fun q => by rw [c2, b2, a2, kd1]
  have vl2 : ∀ q, vl C2 q = if q = k then nI nl else vl C q := fun q => by rw [c3, b3, a3, vl1]
  have row2 : ∀ id, ¬ id = 66 → ¬ id = 68 → C2.1 id = C1.1 id := abc.1
  have happ : ∀ id ∈ [70, 72, 74, 76, 78, 80], ∃ c, C2.1 id = C.1 id ++ [c] := by
    intro id hid
    rw [row2 id (by rintro rfl; exact absurd hid (by decide)) (by rintro rfl; exact absurd hid (by decide))]
    simp only [List.mem_cons, List.not_mem_nil, or_false] at hid
    rcases hid with rfl | rfl | rfl | rfl | rfl | rfl
    · exact ⟨_, w70⟩
    · exact ⟨_, w72⟩
    · exact ⟨_, w74⟩
    · exact ⟨_, w76⟩
    · exact ⟨_, w78⟩
    · exact ⟨_, w80⟩
  have new : ∀ id c, ¬ id = 66 → ¬ id = 68 → id ∈ [70, 72, 74, 76, 78, 80] → C1.1 id = C.1 id ++ [c] → ldq C2 id nl = c := by
    intro id c g1 g2 g3 g4
    unfold ldq; rw [row2 id g1 g2, g4, getD_app_r (hIL.1 id g3)]
  have n70 := new 70 _ (by decide) (by decide) (by decide) w70
  have n72 := new 72 _ (by decide) (by decide) (by decide) w72
  have n74 := new 74 _ (by decide) (by decide) (by decide) w74
  have n76 := new 76 _ (by decide) (by decide) (by decide) w76
  have n78 := new 78 _ (by decide) (by decide) (by decide) w78
  have n80 := new 80 _ (by decide) (by decide) (by decide) w80
  have hCK : CK C C2 := ⟨fun id hid => by
      rw [row2 id (by rintro rfl; exact hid (by decide)) (by rintro rfl; exact hid (by decide))]
      exact woth id (fun hh => hid (by simp only [List.mem_cons, List.not_mem_nil, or_false] at hh ⊢; omega)), by rw [abc.2.2.1, l66]; exact s1.symm, by rw [abc.2.2.2, l68]; exact s2.symm, by unfold zc; rw [abc.2.1, w0]⟩
  have hmk : ∀ q, ¬ (k ≤ q ∧ q < x + 1) → kd C2 q = kd C q ∧ vl C2 q = vl C q := fun q hq => ⟨by rw [kd2, if_neg (by omega), if_neg (by omega)], by rw [vl2, if_neg (by omega)]⟩
  have hILn : IL C2 T (x + 1) (nl + 1) := by
    refine IL_lead hIL (by omega) happ ?_ (fun q hq => ?_)
    · right
      refine ⟨k + 1, x, ?_, n74, n76, n78, n80, by omega, by omega⟩
      rw [n70, hmd]; cases mail
      · exact Or.inr (Or.inl rfl)
      · exact Or.inr (Or.inr rfl)
    · by_cases e : q = k
      · left; rw [vl2, if_pos e]
      · right
        rw [vl2, if_neg e]
        rw [kd2] at hq ⊢
        by_cases e2 : q = x
        · rw [if_pos e2] at hq; exact absurd hq (by decide)
        · rw [if_neg e2, if_neg e]; exact ⟨rfl, rfl⟩
  have hlk : ctok C2 T k = [(6, -1, lt, [])] := by
    have hkk : kd C2 k = 6 := by rw [kd2, if_neg (by omega), if_pos rfl]
    have hvv : vl C2 k = nI nl := by rw [vl2, if_pos rfl]
    unfold ctok
    rw [hkk, hvv, nI_clamp (by omega), n72, if_neg (by decide), if_neg (by decide), if_pos (by decide)]
    have e1 : ldT C2 T nl = lt := by
      unfold ldT; rw [n70, n74, n76, nI_clamp (by omega), nI_clamp (by omega), hlt, hmd, show x = k + 1 + n by omega, tsl_eq n (k + 1) (by omega)]
      cases mail <;> rfl
    have e2 : ldU C2 T nl = [] := by
      unfold ldU; rw [n78, n80]; rfl
    rw [e1, e2]
  obtain ⟨R2, q1, q2, q3, q4, q5, q6, q7, q8, q9, q10, q11, q12, q13⟩ := r127 (R := R1) (l := G.map (fun en => en.1)) (it := it) s8 (by omega) s6 s7 (fun v hv => by
    obtain ⟨en, hen, rfl⟩ := List.mem_map.mp hv
    exact s9 en hen) 6 0
  have hmR2 : mR R2 T := ⟨(q13 3 (by decide) (by decide)).trans hmR.1, fun i hi => (q3 137 (by omega) i).trans (hmR.2 i hi)⟩
  have hib : it + 1 < 2 ^ 31 := by omega
  have h10' : zf R2 10 = nI pl := (q13 10 (by decide) (by decide)).trans p1
  obtain ⟨R2', hR2'⟩ : ∃ R2', R2' = zar R2 145 (nI (it + 1)) (nI pl) := ⟨_, rfl⟩
  have hm2 : mR R2' T := by rw [hR2']; exact hmR2.zar (by decide) _ _
  have k0 : kps R2' R2' pl [] := kps_nil (by rw [hR2', zf_zar]; exact h10')
  obtain ⟨R4, kp, hkeep⟩ : ∃ R4, kps R2' R4 pl lt ∧ o_145 R (nI k) = g_145_110 1 R4 (nI k) (nI x) (nI (it + 1)) (nI x) := by
    have hfirst : o_145 R (nI k) = (if ¬ (zf R2 51) = 1 then g_145_110 oF R2' (nI k) (nI x) (nI (it + 1)) (nI (k + 1)) else (Option.bind (o_122 R2' 109) fun u6 => (if sok u6 then (Option.bind (o_122 u6 97) fun u7 => (if sok u7 then (Option.bind (o_122 u7 105) fun u8 => (if sok u8 then (Option.bind (o_122 u8 108) fun u9 => (if sok u9 then (Option.bind (o_122 u9 116) fun u10 => (if sok u10 then (Option.bind (o_122 u10 111) fun u11 => (if sok u11 then (Option.bind (o_122 u11 58) fun u12 => (if sok u12 then g_145_110 oF u12 (nI k) (nI x) (nI (it + 1)) (nI (k + 1)) else none)) else none)) else none)) else none)) else none)) else none)) else none))) := by
      unfold o_145
      rw [if_pos hS, ho]
      simp only [Option.bind_some]
      rw [if_pos h'.sok, if_pos (ne_m1 (by omega)), q1]
      simp only [Option.bind_some]
      rw [if_pos (hmR2.sk hT), if_pos (inq_nI (by show it + 1 < 8000; omega) (by omega)), h10', ← hR2', nI_1]
    have h51 : zf R2 51 = if mail = true then 1 else 0 := by rw [q13 51 (by decide) (by decide), hR1, zf_same]
    cases hml : mail with
    | false =>
      rw [hml] at h51 hlt
      have hne : ¬ zf R2 51 = 1 := by rw [h51]; decide
      rw [if_pos hne] at hfirst
      obtain ⟨R4, g1, g2⟩ := r145_keep (pl := pl) hT hm2 k x (it + 1) (by omega) n (k + 1) oF R2' [] (by omega) (by unfold oF; omega) (by show pl + 0 + n ≤ 6000; omega) k0
      exact ⟨R4, by rw [hlt]; exact g1, by rw [hfirst, g2]⟩
    | true =>
      rw [hml] at h51 hlt
      have hne : ¬ ¬ zf R2 51 = 1 := fun hh => hh h51
      rw [if_neg hne] at hfirst
      obtain ⟨U1, u1, v1⟩ := kps_snoc k0 (by show pl + 0 < 20000; omega) 109
      obtain ⟨U2, u2, v2⟩ := kps_snoc v1 (by show pl + 1 < 20000; omega) 97
      obtain ⟨U3, u3, v3⟩ := kps_snoc v2 (by show pl + 2 < 20000; omega) 105
      obtain ⟨U4, u4, v4⟩ := kps_snoc v3 (by show pl + 3 < 20000; omega) 108
      obtain ⟨U5, u5, v5⟩ := kps_snoc v4 (by show pl + 4 < 20000; omega) 116
      obtain ⟨U6, u6, v6⟩ := kps_snoc v5 (by show pl + 5 < 20000; omega) 111
      obtain ⟨U7, u7, v7⟩ := kps_snoc v6 (by show pl + 6 < 20000; omega) 58
      obtain ⟨R4, g1, g2⟩ := r145_keep (pl := pl) hT hm2 k x (it + 1) (by omega) n (k + 1) oF U7 _ (by omega) (by unfold oF; omega) (by show pl + 7 + n ≤ 6000; omega) v7
      refine ⟨R4, by rw [hlt]; exact g1, ?_⟩
      rw [hfirst, u1]; simp only [Option.bind_some]; rw [if_pos ((v1.mR hm2).sk hT), u2]; simp only [Option.bind_some]; rw [if_pos ((v2.mR hm2).sk hT), u3]; simp only [Option.bind_some]; rw [if_pos ((v3.mR hm2).sk hT), u4]; simp only [Option.bind_some]; rw [if_pos ((v4.mR hm2).sk hT), u5]; simp only [Option.bind_some]; rw [if_pos ((v5.mR hm2).sk hT), u6]; simp only [Option.bind_some]; rw [if_pos ((v6.mR hm2).sk hT), u7]; simp only [Option.bind_some]; rw [if_pos ((v7.mR hm2).sk hT), g2]
  have hm4 := kp.mR hm2
  have k145 : rv R4 145 (it + 1) = nI pl := by rw [kp.1 145 (by decide), hR2', rv_at _ _ _ hib, if_pos rfl]
  obtain ⟨R5, hR5⟩ : ∃ R5, R5 = zar R4 146 (nI (it + 1)) (nI lt.length) := ⟨_, rfl⟩
  have hm5 : mR R5 T := by rw [hR5]; exact hm4.zar (by decide) _ _
  have chain5 : chn R5 0 (G.map (fun en => en.1) ++ [it + 1]) := chn_cong _ _ q2 (fun v _ => by rw [hR5, rv_oth _ _ _ (by decide), kp.1 150 (by decide), hR2', rv_oth _ _ _ (by decide)]) (fun v _ => by rw [hR5, rv_oth _ _ _ (by decide), kp.1 151 (by decide), hR2', rv_oth _ _ _ (by decide)]) (by rw [hR5, zf_zar, kp.2.2.2.2 21 (by decide), hR2', zf_zar])
  have h205 : zf R5 20 = nI (it + 1) := by rw [hR5, zf_zar, kp.2.2.2.2 20 (by decide), hR2', zf_zar]; exact q12
  have nd5 : (0 :: (G.map (fun en => en.1) ++ [it + 1])).Nodup := by
    rw [← List.cons_append, List.nodup_append]
    refine ⟨s7, by simp, fun a ha b hb => ?_⟩
    rw [List.mem_singleton] at hb
    rcases List.mem_cons.mp ha with g | g
    · omega
    · obtain ⟨en, hen, rfl⟩ := List.mem_map.mp g
      have := s9 en hen; omega
  have le5 : ∀ v ∈ G.map (fun en => en.1) ++ [it + 1], v ≤ it + 1 := fun v hv => by
    rcases List.mem_append.mp hv with g | g
    · obtain ⟨en, hen, rfl⟩ := List.mem_map.mp g
      have := s9 en hen; omega
    · rw [List.mem_singleton] at g; omega
  obtain ⟨R6, t1, t2, t3, t4, t5, t6, t7⟩ := r128 hT (k + 1) n (by omega) (by omega) n 0 oF R5 _ (it + 1) (by omega) (by unfold oF; omega) hm5 h205 (by omega) chain5 nd5 le5
  rw [Nat.add_zero] at t2
  rw [nI_0] at t1
  have hm6 : mR R6 T := ⟨(t7 3 (by decide) (by decide)).trans hm5.1, fun i hi => (t3 137 (by omega) i).trans (hm5.2 i hi)⟩
  have nd6 : (0 :: (G.map (fun en => en.1) ++ [it + 1] ++ (txE (it + 1 + 1) (k + 1) n).map (fun en => en.1))).Nodup := by
    rw [← List.cons_append, List.nodup_append]
    refine ⟨nd5, txE_nodup n _ _, fun a ha b hb => ?_⟩
    obtain ⟨en, hen, rfl⟩ := List.mem_map.mp hb
    have := (txE_mem n (it + 1 + 1) (k + 1) en hen).2.1
    rcases List.mem_cons.mp ha with g | g
    · omega
    · have := le5 a g; omega
  obtain ⟨R7, z1, z2, z3, z4, z5, z6, z7, z8, z9, z10, z11, z12, z13⟩ := r127 (R := R6) (it := it + 1 + n) t6 (by omega) t2 nd6 (fun v hv => by
    rcases List.mem_append.mp hv with g | g
    · have := le5 v g; omega
    · obtain ⟨en, hen, rfl⟩ := List.mem_map.mp g
      have := (txE_mem n (it + 1 + 1) (k + 1) en hen).2.2; omega) 12 0
  have hm7 : mR R7 T := ⟨(z13 3 (by decide) (by decide)).trans hm6.1, fun i hi => (z3 137 (by omega) i).trans (hm6.2 i hi)⟩
  have old7 : ∀ j, 143 ≤ j → j ≤ 149 → ∀ y, y ≤ it → rv R7 j y = rv R1 j y := by
    intro j j1 j2 y hy
    rw [z4 j j1 j2 y (by omega), t4 j j1 j2 y (by omega), hR5, rv_zar _ _ _ _ hib, if_neg (by omega), kp.1 j (by omega), hR2', rv_zar _ _ _ _ hib, if_neg (by omega)]
    exact q4 j j1 j2 y (by omega)
  have oth7 : ∀ j, (j < 142 ∨ 151 < j) → ∀ i, rv R7 j i = rv R1 j i := by
    intro j hj i
    rw [z3 j (by omega), t3 j (by omega), hR5, rv_oth _ _ _ (by omega), kp.1 j (by omega), hR2', rv_oth _ _ _ (by omega)]
    exact q3 j (by omega) i
  have pool7 : ∀ i, rv R7 142 i = rv R4 142 i := fun i => by rw [z3 142 (by omega), t3 142 (by omega), hR5, rv_oth _ _ _ (by decide)]
  have fld7 : ∀ f, ¬ f = 10 → ¬ f = 20 → ¬ f = 21 → zf R7 f = zf R1 f := fun f g1 g2 g3 => by
    rw [z13 f g2 g3, t7 f g2 g3, hR5, zf_zar, kp.2.2.2.2 f g1, hR2', zf_zar]; exact q13 f g2 g3
  have lnk : ∀ j, 143 ≤ j → j ≤ 149 → rv R7 j (it + 1) = rv R5 j (it + 1) := fun j j1 j2 => by rw [z4 j j1 j2 _ (by omega), t4 j j1 j2 _ (Nat.le_refl _)]
  have l143 : rv R7 143 (it + 1) = 6 := by rw [lnk 143 (by omega) (by omega), hR5, rv_oth _ _ _ (by decide), kp.1 143 (by decide), hR2', rv_oth _ _ _ (by decide)]; exact q5
  have l149 : rv R7 149 (it + 1) = -1 := by rw [lnk 149 (by omega) (by omega), hR5, rv_oth _ _ _ (by decide), kp.1 149 (by decide), hR2', rv_oth _ _ _ (by decide)]; exact q11
  have l145 : rvn R7 145 (it + 1) = pl := by
    unfold rvn; rw [show R7.2.2.1 145 (it + 1) = nI pl from by rw [show R7.2.2.1 145 (it + 1) = rv R7 145 (it + 1) from rfl, lnk 145 (by omega) (by omega), hR5, rv_oth _ _ _ (by decide)]; exact k145, nI_clamp (by omega)]
  have l146 : rvn R7 146 (it + 1) = lt.length := by
    unfold rvn; rw [show R7.2.2.1 146 (it + 1) = nI lt.length from by rw [show R7.2.2.1 146 (it + 1) = rv R7 146 (it + 1) from rfl, lnk 146 (by omega) (by omega), hR5, rv_at _ _ _ hib, if_pos rfl], nI_clamp (by omega)]
  have l147 : rvn R7 147 (it + 1) = 0 := by
    unfold rvn; rw [show R7.2.2.1 147 (it + 1) = 0 from by rw [show R7.2.2.1 147 (it + 1) = rv R7 147 (it + 1) from rfl, lnk 147 (by omega) (by omega), hR5, rv_oth _ _ _ (by decide), kp.1 147 (by decide), hR2', rv_oth _ _ _ (by decide)]; exact q9]; rfl
  have l148 : rvn R7 148 (it + 1) = 0 := by
    unfold rvn; rw [show R7.2.2.1 148 (it + 1) = 0 from by rw [show R7.2.2.1 148 (it + 1) = rv R7 148 (it + 1) from rfl, lnk 148 (by omega) (by omega), hR5, rv_oth _ _ _ (by decide), kp.1 148 (by decide), hR2', rv_oth _ _ _ (by decide)]; exact q10]; rfl
  have rsl7 : rsl R7 pl lt.length = lt := by rw [rsl_all (R := R4) pool7]; exact kp.2.2.1
  have rt6 : rtok R7 (it + 1) none = [(6, -1, lt, [])] := by
    unfold rtok; dsimp only
    rw [l143, l145, l146, l147, l148, l149, rsl7]; rfl
  have rtE : rtok R7 (it + 1 + n + 1) none = [tk0 9] := by
    unfold rtok; dsimp only; rw [z5]; rfl
  have txt7 : ∀ t, t < n → rv R7 143 (it + 1 + 1 + t) = 0 ∧ rv R7 144 (it + 1 + 1 + t) = mA T (k + 1 + t) := by
    intro t ht
    have := t5 t ht
    rw [z4 143 (by omega) (by omega) _ (by omega), z4 144 (by omega) (by omega) _ (by omega)]
    rw [Nat.add_zero] at this; exact ⟨this.1, this.2.1⟩
  obtain ⟨P, hP⟩ : ∃ P : List Ent, P = (it + 1, k, k + 1, none) :: (txE (it + 1 + 1) (k + 1) n ++ [(it + 1 + n + 1, x, x + 1, none)]) := ⟨_, rfl⟩
  have hRK : RK R1 R7 it pl := ⟨oth7, old7, fun i hi => by rw [pool7, kp.2.1 i hi, hR2', rv_oth _ _ _ (by decide)]; exact q3 142 (by omega) i, fun f hf => fld7 f (by rintro rfl; exact absurd hf (by decide)) (by rintro rfl; exact absurd hf (by decide)) (by rintro rfl; exact absurd hf (by decide))⟩
  have hPm : ∀ en ∈ P, en = (it + 1, k, k + 1, none) ∨ en ∈ txE (it + 1 + 1) (k + 1) n ∨ en = (it + 1 + n + 1, x, x + 1, none) := by
    intro en hen; rw [hP] at hen
    rcases List.mem_cons.mp hen with g | g
    · exact Or.inl g
    · rcases List.mem_append.mp g with g | g
      · exact Or.inr (Or.inl g)
      · exact Or.inr (Or.inr (List.mem_singleton.mp g))
  have txk : ∀ en ∈ txE (it + 1 + 1) (k + 1) n, rv R7 143 en.1 = 0 := by
    intro en hen
    have := txE_mem n _ _ en hen
    have g := (txt7 (en.1 - (it + 1 + 1)) (by omega)).1
    rw [show it + 1 + 1 + (en.1 - (it + 1 + 1)) = en.1 by omega] at g; exact g
  have sums : ∀ m x0 p0, (∀ t, t < m → rv R7 143 (x0 + t) = 0 ∧ rv R7 144 (x0 + t) = mA T (p0 + t)) → sumE (fun en => lws (rtok R7 en.1 en.2.2.2)) (txE x0 p0 m) = m ∧ sumE (ew R7) (txE x0 p0 m) = csts (mtl T p0 m) := by
    intro m
    induction m with
    | zero => intro x0 p0 _; exact ⟨rfl, rfl⟩
    | succ m ihm =>
      intro x0 p0 hh
      have g0 := hh 0 (by omega)
      rw [Nat.add_zero, Nat.add_zero] at g0
      have g := ihm (x0 + 1) (p0 + 1) (fun t ht => by
        have := hh (t + 1) (by omega)
        rw [show x0 + 1 + t = x0 + (t + 1) by omega, show p0 + 1 + t = p0 + (t + 1) by omega]; exact this)
      have hr : rtok R7 x0 none = [tkc (mA T p0)] := by unfold rtok; dsimp only; rw [g0.1, g0.2]; rfl
      rw [txE, sumE_cons, sumE_cons, g.1, g.2]
      refine ⟨?_, ?_⟩
      · dsimp only; rw [hr, lws_1]; omega
      · unfold ew; dsimp only
        rw [if_pos ⟨rfl, by rw [g0.1]; decide⟩, hr, mtl]
        unfold csts; rw [List.map_cons, List.sum_cons]; rfl
  have sm := sums n (it + 1 + 1) (k + 1) txt7
  have hcs : csts (mtl T (k + 1) n) ≤ 6 * n := by have := csts_le (mtl T (k + 1) n); rw [mtl_len] at this; exact this
  have hinv := inv_apps (C' := C2) (R' := R7) (P := P) (k' := x + 1) (nl' := nl + 1) (pl' := pl + lt.length) (it' := it + 1 + n + 1) h'.z h'.ov h'.bl (by omega) hCK hRK (by omega) (by omega) hmk (fun q hq => ctok_lead hIL (by omega) happ (hmk q (by omega)))
    (fun en hen => by
      rcases hPm en hen with g | g | g
      · rw [g]; exact ⟨rfl, by show it < it + 1; omega, by show it + 1 ≤ _; omega⟩
      · have := txE_mem n _ _ en g; exact ⟨this.1, by omega, by omega⟩
      · rw [g]; exact ⟨rfl, by show it < it + 1 + n + 1; omega, Nat.le_refl _⟩)
    (by
      rw [hP, List.map_cons, List.map_append, List.nodup_cons, List.nodup_append]
      refine ⟨fun hm => ?_, txE_nodup n _ _, by simp, fun a ha b hb => ?_⟩
      · rcases List.mem_append.mp hm with g | g
        · obtain ⟨en, hen, he⟩ := List.mem_map.mp g
          have := (txE_mem n _ _ en hen).2.1
          dsimp only at he; omega
        · rw [List.map_cons, List.map_nil, List.mem_singleton] at g; dsimp only at g; omega
      · rw [List.map_cons, List.map_nil, List.mem_singleton] at hb
        obtain ⟨en, hen, rfl⟩ := List.mem_map.mp ha
        have := (txE_mem n _ _ en hen).2.2
        dsimp only at hb; omega)
    (by
      rw [hP]
      refine ⟨rfl, by show k ≤ k + 1; omega, ?_, ?_⟩
      · show ctk C2 T k (k + 1 - k) = rtok R7 (it + 1) none
        rw [show k + 1 - k = 1 by omega, ctk_one, hlk, rt6]
      · show SG C2 R7 T (k + 1) (txE (it + 1 + 1) (k + 1) n ++ [(it + 1 + n + 1, x, x + 1, none)]) (x + 1)
        rw [SG_app]
        refine ⟨x, ?_, SG_one (by omega) ?_⟩
        · have := txE_sg (C := C2) (R := R7) (T := T) n (it + 1 + 1) (k + 1) (fun t ht => by
            have g := txt7 t ht
            have u := s4 (k + 1 + t) (by omega) (by omega)
            rw [kd2, if_neg (by omega), if_neg (by omega), vl2, if_neg (by omega)]
            exact ⟨u.1, g.1, by rw [g.2, u.2]⟩)
          rw [show k + 1 + n = x by omega] at this; exact this
        · rw [show x + 1 - x = 1 by omega, ctk_one, rtE]
          have : kd C2 x = 9 := by rw [kd2, if_pos rfl]
          unfold ctok; rw [this]; rfl)
    ⟨by omega, by omega⟩ (by
      rw [hP, List.map_cons, List.map_append]
      have := z2
      rw [List.append_assoc, List.append_assoc] at this; exact this) (z12.trans (by congr 1)) hILn (by rw [z13 10 (by decide) (by decide), t7 10 (by decide) (by decide), hR5, zf_zar]; exact kp.2.2.2.1) ⟨by omega, by omega⟩
    (fun en hen hkd => by
      rcases hPm en hen with g | g | g
      · rw [g]; dsimp only; rw [l145, l146, l147, l148]; omega
      · rw [txk en g] at hkd; exact absurd hkd (by decide)
      · rw [g] at hkd; dsimp only at hkd; rw [z5] at hkd; exact absurd hkd (by decide))
    (fun en hen hkd => by
      rcases hPm en hen with g | g | g
      · rw [g] at hkd; dsimp only at hkd; rw [l143] at hkd; exact absurd hkd (by decide)
      · rw [txk en g] at hkd; exact absurd hkd (by decide)
      · rw [g] at hkd; dsimp only at hkd; rw [z5] at hkd; exact absurd hkd (by decide))
    (by
      rw [hP, sumE_cons, sumE_app, sumE_cons, sumE_nil, sm.1]
      dsimp only
      rw [rt6, rtE]
      have e1 : lws [((6 : Int32), (-1 : Int32), lt, ([] : List Int32))] = lt.length := by unfold lws lw; simp
      have e2 : lws [tk0 9] = 0 := rfl
      rw [e1, e2, hltl]
      cases mail
      · rw [if_neg (by decide)]; omega
      · rw [if_pos rfl]; omega)
    (by
      rw [hP, sumE_cons, sumE_app, sumE_cons, sumE_nil, sm.2]
      have e1 : ew R7 (it + 1, k, k + 1, none) = 23 + csts lt := by
        unfold ew; dsimp only
        rw [if_pos ⟨rfl, by rw [l143]; decide⟩, rt6]; unfold ows ow; simp
      have e2 : ew R7 (it + 1 + n + 1, x, x + 1, none) = 0 := by
        unfold ew; dsimp only
        rw [if_pos ⟨rfl, by rw [z5]; decide⟩, rtE]; rfl
      rw [e1, e2, hlt, csts_app]
      cases hml : mail with
      | false =>
        rw [if_neg (by decide)]
        have : csts ([] : List Int32) = 0 := rfl
        omega
      | true =>
        rw [if_pos rfl]
        have g1 : csts mailto = 7 := by decide
        have g2 := csts_mtl T n (k + 1) (fun i i1 i2 => hcost hml i i1 (by omega))
        omega)
    (IX_none (by rw [show x + 1 - 1 = x by omega, hx62]; decide))
    (fun A B hA => by
      rw [hP] at hA
      cases A with
      | nil => exact Nat.le_refl _
      | cons e A' =>
        rw [List.cons_append] at hA
        injection hA with hA1 hA2
        have tz : ∀ l : List Ent, (∀ en ∈ l, en.2.2.2 = none ∧ rv R7 143 en.1 = 0) → sumE (ecl R7) l = 0 := by
          intro l
          induction l with
          | nil => intro _; rfl
          | cons e l ih =>
            intro hl
            have g := hl e (List.mem_cons_self ..)
            rw [sumE_cons, ih (fun en hen => hl en (List.mem_cons_of_mem _ hen))]
            unfold ecl; rw [g.1, rtok_eq, if_pos g.2]; rfl
        have hsum : sumE (ecl R7) A' + sumE (ecl R7) B = 1 := by
          rw [← sumE_app, ← hA2, sumE_app, tz _ (fun en hen => ⟨(txE_mem n _ _ en hen).1, txk en hen⟩), sumE_cons, sumE_nil]
          unfold ecl; dsimp only; rw [rtE]; rfl
        rw [sumE_cons, sumE_cons, ← hA1]
        have e1 : ecl R7 (it + 1, k, k + 1, none) = 0 := by unfold ecl; dsimp only; rw [rt6]; rfl
        have e2 : eop R7 (it + 1, k, k + 1, none) = 1 := by unfold eop; dsimp only; rw [rt6]; rfl
        omega)
    (fun en hen => by
      rcases hPm en hen with g | g | g
      · rw [g]
        refine ⟨fun j j1 j2 => ?_, fun hh => absurd (Or.inl l143) hh, by show kok (rv R7 143 (it + 1)); rw [l143]; exact ⟨by decide, by decide⟩⟩
        show rv R7 j (it + 1) = nI (rvn R7 j (it + 1))
        have : j = 145 ∨ j = 146 ∨ j = 147 ∨ j = 148 := by omega
        rcases this with c | c | c | c
        · rw [c, l145, lnk 145 (by omega) (by omega), hR5, rv_oth _ _ _ (by decide)]; exact k145
        · rw [c, l146, lnk 146 (by omega) (by omega), hR5, rv_at _ _ _ hib, if_pos rfl]
        · rw [c, l147, lnk 147 (by omega) (by omega), hR5, rv_oth _ _ _ (by decide), kp.1 147 (by decide), hR2', rv_oth _ _ _ (by decide)]; exact q9
        · rw [c, l148, lnk 148 (by omega) (by omega), hR5, rv_oth _ _ _ (by decide), kp.1 148 (by decide), hR2', rv_oth _ _ _ (by decide)]; exact q10
      · have hm := txE_mem n _ _ en g
        have := (t5 (en.1 - (it + 1 + 1)) (by omega)).2.2
        rw [show it + 1 + 1 + (en.1 - (it + 1 + 1)) = en.1 by omega] at this
        exact IZ1_cong this (fun j j1 j2 => z4 j j1 j2 _ (by omega))
      · rw [g]; exact IZ1_new z7 z8 z9 z10 z11 (by rw [z5]; exact ⟨by decide, by decide⟩))
  obtain ⟨B1, B2, B3, B4, B5, B6, B7⟩ := hinv.2.2.2.1
  obtain ⟨d0, d1, d2, d3⟩ := c28 (C := C2) (n := bs.length) (by omega) (hinv.bl 104 (by decide)) (hinv.bl 108 (by decide))
  obtain ⟨R8, y1, y2, y3, y4⟩ := r138 (R := R7) (n := bs.length) (by omega) B2 (fun b hb => by
    obtain ⟨g1, g2, g3, g4, g5, g6, g7, g8, g9, g10, g11, g12, g13, g14⟩ := (B6 b _ (List.getElem?_eq_getElem hb)).1
    rw [g10]; exact g11)
  have hfin := inv_kill (C' := f_28 C2) (R' := R8) hinv ⟨d3, by unfold zc; rw [d0], d1, d2⟩ ⟨y2, fun f _ => y3 f, y4⟩
  refine ⟨f_28 C2, R8, x + 1, _, _, _, _, _, _, _, fun m => ?_, ?_, by omega, hfin, ?_, ?_⟩
  · rw [cs_in hmC hT hk h2, if_neg (by rw [hc]; decide), if_neg (by rw [hc]; decide), if_neg (by rw [hc]; decide), if_neg (by rw [hc]; decide), if_pos hc, hf60, zmax_up (by omega) (by omega)]
  · rw [rs_in h.1.2.1 hT hk, if_neg (by rw [hc]; decide), if_neg (by rw [hc]; decide), if_neg (by rw [hc]; decide), if_pos hc, hkeep, g_145_110, if_pos (hm4.sk hT), if_pos (Int32.le_refl _), if_pos (inq_nI (by show it + 1 < 8000; omega) (by omega)), if_pos (inq_nI (by show it + 1 < 8000; omega) (by omega)), zv_nI _ _ hib, k145, kp.2.2.2.1, pk_sub (by omega), show pl + lt.length - pl = lt.length by omega, ← hR5, nI_1, pk_sub (by omega), nI_sub1 (by omega), ← hn]
    unfold o_128
    rw [if_pos (hm5.sk hT), t1]
    simp only [Option.bind_some]
    rw [if_pos (hm6.sk hT), z1]
    simp only [Option.bind_some]
    rw [if_pos (hm7.sk hT), y1]
    simp only [Option.bind_some]
    rw [if_pos hfin.sok, nI_1]
    simp only [Option.bind_some, if_pos hfin.sok]
  · have e1 : zc (f_28 C2) 2 = zc C 2 := by unfold zc; rw [d0, abc.2.1, w0]
    rw [e1, y3, fld7 46 (by decide) (by decide) (by decide), hR1, zf_other _ _ (by decide)]; exact f2
  · have e1 : zc (f_28 C2) 3 = zc C 3 := by unfold zc; rw [d0, abc.2.1, w0]
    rw [e1, y3, fld7 47 (by decide) (by decide) (by decide), hR1, zf_other _ _ (by decide)]; exact f3
end
