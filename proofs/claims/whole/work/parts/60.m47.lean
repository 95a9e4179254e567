/-! the mathematics; written by wip/whole/m2parts.py -/
def cb48 (Z : zr_Z) (kd ho dp : Int32) : zr_Z :=
  zadd (zadd (zadd (zadd (zadd (zadd (zadd (zadd Z 119 dp) 115 kd) 117 ho) 121 (zs (zadd (zadd (zadd Z 119 dp) 115 kd) 117 ho) 131)) 123 0) 125 (zs (zadd (zadd (zadd (zadd (zadd Z 119 dp) 115 kd) 117 ho) 121 (zs (zadd (zadd (zadd Z 119 dp) 115 kd) 117 ho) 131)) 123 0) 131)) 127 0) 129 (-1)
theorem o48_eq (Z : zr_Z) (kd ho va : Int32) : o_48 Z kd ho va = (if ¬ kd = 0 then (if kd = 6 then (Option.bind (o_50 (cb48 Z kd ho (f_47 Z ho)) (zs Z 115) va) fun u5 => some (zs Z 115, u5)) else (if ¬ kd = 7 then some (zs Z 115, cb48 Z kd ho (f_47 Z ho)) else (Option.bind (o_50 (cb48 Z kd ho (f_47 Z ho)) (zs Z 115) va) fun u7 => some (zs Z 115, u7)))) else some (zs Z 115, f_49 (cb48 Z kd ho (f_47 Z ho)) (zs Z 115) va)) := rfl
theorem cb48_row {Z : zr_Z} {n : Nat} {kd ho dp : Int32} (hl : ∀ id ∈ nrows, (Z.1 id).length = n) (hn : n < 1500) :
    (cb48 Z kd ho dp).1 115 = Z.1 115 ++ [kd] ∧ (cb48 Z kd ho dp).1 117 = Z.1 117 ++ [ho] ∧ (cb48 Z kd ho dp).1 119 = Z.1 119 ++ [dp] ∧ (cb48 Z kd ho dp).1 121 = Z.1 121 ++ [zs Z 131] ∧
    (cb48 Z kd ho dp).1 123 = Z.1 123 ++ [0] ∧ (cb48 Z kd ho dp).1 125 = Z.1 125 ++ [zs Z 131] ∧ (cb48 Z kd ho dp).1 127 = Z.1 127 ++ [0] ∧ (cb48 Z kd ho dp).1 129 = Z.1 129 ++ [-1] ∧ (cb48 Z kd ho dp).1 131 = Z.1 131 ∧ NK Z (cb48 Z kd ho dp) := by
  have e : ∀ W : zr_Z, W.1 131 = Z.1 131 → zs W 131 = zs Z 131 := fun W h => by unfold zs; rw [h]
  have h1 : ∀ id ∈ nrows, (Z.1 id).length < zr_most id := fun id hid => by rw [hl id hid]; revert hid; revert id; intro id hid; simp only [List.mem_cons, List.not_mem_nil, or_false] at hid; rcases hid with rfl | rfl | rfl | rfl | rfl | rfl | rfl | rfl <;> exact hn
  unfold cb48
  rw [e (zadd (zadd (zadd Z 119 dp) 115 kd) 117 ho) (by rw [zadd_oth (by decide), zadd_oth (by decide), zadd_oth (by decide)])]
  rw [e (zadd (zadd (zadd (zadd (zadd Z 119 dp) 115 kd) 117 ho) 121 (zs Z 131)) 123 0) (by rw [zadd_oth (by decide), zadd_oth (by decide), zadd_oth (by decide), zadd_oth (by decide), zadd_oth (by decide)])]
  refine ⟨?_, ?_, ?_, ?_, ?_, ?_, ?_, ?_, ?_, ?_⟩
  · rw [zadd_oth (by decide), zadd_oth (by decide), zadd_oth (by decide), zadd_oth (by decide), zadd_oth (by decide), zadd_oth (by decide), zadd_row (by rw [zadd_oth (by decide)]; exact h1 115 (by decide)), zadd_oth (by decide)]
  · rw [zadd_oth (by decide), zadd_oth (by decide), zadd_oth (by decide), zadd_oth (by decide), zadd_oth (by decide), zadd_row (by rw [zadd_oth (by decide), zadd_oth (by decide)]; exact h1 117 (by decide)), zadd_oth (by decide), zadd_oth (by decide)]
  · rw [zadd_oth (by decide), zadd_oth (by decide), zadd_oth (by decide), zadd_oth (by decide), zadd_oth (by decide), zadd_oth (by decide), zadd_oth (by decide), zadd_row (h1 119 (by decide))]
  · rw [zadd_oth (by decide), zadd_oth (by decide), zadd_oth (by decide), zadd_oth (by decide), zadd_row (by rw [zadd_oth (by decide), zadd_oth (by decide), zadd_oth (by decide)]; exact h1 121 (by decide)), zadd_oth (by decide), zadd_oth (by decide), zadd_oth (by decide)]
  · rw [zadd_oth (by decide), zadd_oth (by decide), zadd_oth (by decide), zadd_row (by rw [zadd_oth (by decide), zadd_oth (by decide), zadd_oth (by decide), zadd_oth (by decide)]; exact h1 123 (by decide)), zadd_oth (by decide), zadd_oth (by decide), zadd_oth (by decide), zadd_oth (by decide)]
  · rw [zadd_oth (by decide), zadd_oth (by decide), zadd_row (by rw [zadd_oth (by decide), zadd_oth (by decide), zadd_oth (by decide), zadd_oth (by decide), zadd_oth (by decide)]; exact h1 125 (by decide)), zadd_oth (by decide), zadd_oth (by decide), zadd_oth (by decide), zadd_oth (by decide), zadd_oth (by decide)]
  · rw [zadd_oth (by decide), zadd_row (by rw [zadd_oth (by decide), zadd_oth (by decide), zadd_oth (by decide), zadd_oth (by decide), zadd_oth (by decide), zadd_oth (by decide)]; exact h1 127 (by decide)), zadd_oth (by decide), zadd_oth (by decide), zadd_oth (by decide), zadd_oth (by decide), zadd_oth (by decide), zadd_oth (by decide)]
  · rw [zadd_row (by rw [zadd_oth (by decide), zadd_oth (by decide), zadd_oth (by decide), zadd_oth (by decide), zadd_oth (by decide), zadd_oth (by decide), zadd_oth (by decide)]; exact h1 129 (by decide)), zadd_oth (by decide), zadd_oth (by decide), zadd_oth (by decide), zadd_oth (by decide), zadd_oth (by decide), zadd_oth (by decide), zadd_oth (by decide)]
  · rw [zadd_oth (by decide), zadd_oth (by decide), zadd_oth (by decide), zadd_oth (by decide), zadd_oth (by decide), zadd_oth (by decide), zadd_oth (by decide), zadd_oth (by decide)]
  · exact NK_add (NK_add (NK_add (NK_add (NK_add (NK_add (NK_add (NK_add (NK.refl Z) (by decide) (by decide)) (by decide) (by decide)) (by decide) (by decide)) (by decide) (by decide)) (by decide) (by decide)) (by decide) (by decide)) (by decide) (by decide)) (by decide) (by decide)
theorem cn_base {C : zr_Z} {N : List Nd} {kd ho : Int32} {dp : Nat} (h : CN C N) (hn : N.length < 1500) :
    CN (cb48 C kd ho (nI dp)) (N ++ [(kd, ho, dp, [], [], -1)]) ∧ CUR (cb48 C kd ho (nI dp)) (N ++ [(kd, ho, dp, [], [], -1)]) N.length ∧ NK C (cb48 C kd ho (nI dp)) ∧ (cb48 C kd ho (nI dp)).1 131 = C.1 131 := by
  obtain ⟨h1, h2, h3, h4⟩ := h
  obtain ⟨q1, q2, q3, q4, q5, q6, q7, q8, q9, q10⟩ := cb48_row (Z := C) (kd := kd) (ho := ho) (dp := nI dp) h1 hn
  have h131 : zs C 131 = nI (C.1 131).length := rfl
  generalize hF : cb48 C kd ho (nI dp) = F at *
  have old : ∀ id v, F.1 id = C.1 id ++ [v] → (C.1 id).length = N.length → (∀ t, t < N.length → ldq F id t = ldq C id t) ∧ ldq F id N.length = v := fun id v e l => ⟨fun t ht => by rw [ldq_eq, ldq_eq, e, getD_app_l (by omega)], by rw [ldq_eq, e]; exact getD_app_r l⟩
  have o115 := old 115 _ q1 (h1 115 (by decide))
  have o117 := old 117 _ q2 (h1 117 (by decide))
  have o119 := old 119 _ q3 (h1 119 (by decide))
  have o121 := old 121 _ q4 (h1 121 (by decide))
  have o123 := old 123 _ q5 (h1 123 (by decide))
  have o125 := old 125 _ q6 (h1 125 (by decide))
  have o127 := old 127 _ q7 (h1 127 (by decide))
  have o129 := old 129 _ q8 (h1 129 (by decide))
  have hlast : (N ++ [((kd, ho, dp, [], [], -1) : Nd)])[N.length]? = some (kd, ho, dp, [], [], -1) := by rw [List.getElem?_append_right (Nat.le_refl _), Nat.sub_self]; rfl
  refine ⟨⟨fun id hid => ?_, by rw [List.length_append]; show N.length + 1 ≤ 1500; omega, by rw [q9]; exact h3, fun k nd hk => ?_⟩, ⟨_, (C.1 131).length, hlast, o121.2, by rw [q9]; rfl⟩, q10, q9⟩
  · rw [List.length_append]
    have := h1 id hid
    simp only [List.mem_cons, List.not_mem_nil, or_false] at hid
    rcases hid with rfl | rfl | rfl | rfl | rfl | rfl | rfl | rfl
    · rw [q1, List.length_append, this]; rfl
    · rw [q2, List.length_append, this]; rfl
    · rw [q3, List.length_append, this]; rfl
    · rw [q4, List.length_append, this]; rfl
    · rw [q5, List.length_append, this]; rfl
    · rw [q6, List.length_append, this]; rfl
    · rw [q7, List.length_append, this]; rfl
    · rw [q8, List.length_append, this]; rfl
  · by_cases e : k < N.length
    · rw [List.getElem?_append_left e] at hk
      obtain ⟨a1, a2, a3, a4, a5, a6, ⟨f, b0, b1, b2⟩, ⟨g, c0, c1, c2⟩⟩ := h4 k nd hk
      exact ⟨(o115.1 k e).trans a1, (o117.1 k e).trans a2, (o119.1 k e).trans a3, (o129.1 k e).trans a4, (o123.1 k e).trans a5, (o127.1 k e).trans a6, ⟨f, b0, (o121.1 k e).trans b1, by rw [q9]; exact b2⟩, ⟨g, c0, (o125.1 k e).trans c1, by rw [q9]; exact c2⟩⟩
    · have hkl : k < (N ++ [((kd, ho, dp, [], [], -1) : Nd)]).length := (List.getElem?_eq_some_iff.mp hk).1
      rw [List.length_append] at hkl
      obtain rfl : k = N.length := by simp only [List.length_cons, List.length_nil] at hkl; omega
      obtain rfl := Option.some.inj (hlast.symm.trans hk)
      refine ⟨o115.2, o117.2, o119.2, o129.2, o123.2, o127.2, ⟨(C.1 131).length, by omega, o121.2, ?_⟩, ⟨(C.1 131).length, by omega, o125.2, ?_⟩⟩
      · rw [q9]; exact ⟨Nat.le_refl _, fun i hi => absurd hi (Nat.not_lt_zero i)⟩
      · rw [q9]; exact ⟨Nat.le_refl _, fun i hi => absurd hi (Nat.not_lt_zero i)⟩
theorem cn_lead {C : zr_Z} {T : List Int32} {N : List Nd} {kk ho : Int32} {dp i : Nat} (hC : mC C T) (hT : gT T) (h : CN C (N ++ [(kk, ho, dp, [], [], -1)])) (hcur : CUR C (N ++ [(kk, ho, dp, [], [], -1)]) N.length) (hi : i < 2 ^ 31) (hld : LD1 C T i) (hroom : (C.1 131).length + (ldT C T i).length + (ldU C T i).length ≤ 3900) :
    ∃ C', o_50 C (nI N.length) (nI i) = some C' ∧ CN C' (N ++ [(kk, ho, dp, ldT C T i, ldU C T i, ldq C 72 i)]) ∧ NK C C' ∧ (C'.1 131) = C.1 131 ++ (ldT C T i ++ ldU C T i) := by
  obtain ⟨h1, h2, h3, h4⟩ := h
  have hl := hT.1
  have hNl : N.length < 1500 := by rw [List.length_append] at h2; simp only [List.length_cons, List.length_nil] at h2; omega
  have hlen : ∀ id ∈ nrows, (C.1 id).length = N.length + 1 := fun id hid => by rw [h1 id hid, List.length_append]; rfl
  generalize hk : N.length = k at *
  obtain ⟨nd', f, g1, g2, g3⟩ := hcur
  have hlast : (N ++ [((kk, ho, dp, [], [], -1) : Nd)])[k]? = some (kk, ho, dp, [], [], -1) := by rw [← hk, List.getElem?_append_right (Nat.le_refl _), Nat.sub_self]; rfl
  obtain rfl := Option.some.inj (g1.symm.trans hlast)
  have hf : f = (C.1 131).length := g3
  subst hf
  obtain ⟨l1, l2, l3, l4, -⟩ := h4 k _ hlast
  obtain ⟨C1, hC1⟩ : ∃ C1, C1 = zput C 129 (nI k) (zt C 72 (nI i)) := ⟨_, rfl⟩
  have c1o : ∀ id, ¬ id = 129 → C1.1 id = C.1 id := fun id hid => by rw [hC1, zput_oth hid]
  have c1l : ∀ id t, ¬ id = 129 → ldq C1 id t = ldq C id t := fun id t hid => by rw [ldq_eq, ldq_eq, c1o id hid]
  have hmC1 : mC C1 T := (c1o 61 (by decide)).trans hC
  have step1 : ∃ C2, cadd C1 C2 (ldT C T i) ∧ (if ¬ (zt C 70 (nI i)) = 1 then o_38 C1 (nI i) (decide ((zt C 70 (nI i)) = 3)) else o_66 C1 (zt C1 74 (nI i)) (zt C1 76 (nI i))) = some C2 := by
    have r131 : (C1.1 131).length = (C.1 131).length := by rw [c1o 131 (by decide)]
    rw [zt_ldq _ _ hi, zt_ldq _ _ hi, zt_ldq _ _ hi, c1l 74 _ (by decide), c1l 76 _ (by decide)]
    rcases hld with ⟨a, b, t, u, d1, d2, d3, d4, d5, d6, d7, d8, d9, d10, d11⟩ | ⟨a, b, d1, d2, d3, d4, d5, d6, d7⟩
    · rw [if_neg (fun hh => hh d1), d2, d3]
      have hab := mrch_le d8
      have he : ldT C T i = munesc T a b := by unfold ldT; rw [if_pos d1, d2, d3, nI_clamp (by omega), nI_clamp (by omega)]
      rw [he] at hroom ⊢
      obtain ⟨C2, e1, e2⟩ := c66 (C := C1) hmC1 hT (a := a) (b := b) (by omega) d8 d9 (by omega)
      exact ⟨C2, e2, e1⟩
    · have hn1 : ¬ ldq C 70 i = 1 := by rcases d1 with g | g | g <;> rw [g] <;> decide
      rw [if_pos hn1]
      have he : ldT C T i = (if (decide (ldq C 70 i = 3)) = true then mailto else []) ++ tsl T a b := by
        unfold ldT; rw [if_neg hn1, d2, d3, nI_clamp (by omega), nI_clamp (by omega)]
        by_cases g : ldq C 70 i = 3
        · rw [if_pos g, if_pos (decide_eq_true g)]
        · rw [if_neg g, if_neg (by rw [decide_eq_true_eq]; exact g)]
      rw [he] at hroom ⊢
      obtain ⟨C2, e1, e2⟩ := c38 (C := C1) (mail := decide (ldq C 70 i = 3)) hmC1 hT (i := i) (a := a) (b := b) hi (by rw [c1l 74 _ (by decide)]; exact d2) (by rw [c1l 76 _ (by decide)]; exact d3) d6 d7 (by omega)
      exact ⟨C2, e2, e1⟩
  obtain ⟨C2, s1, s2⟩ := step1
  have c2r := s1.row
  have c2o : ∀ id, ¬ id = 131 → ¬ id = 129 → C2.1 id = C.1 id := fun id a b => (c2r.2 id a).trans (c1o id b)
  have c2131 : C2.1 131 = C.1 131 ++ ldT C T i := by rw [c2r.1, c1o 131 (by decide)]
  obtain ⟨C3, hC3⟩ : ∃ C3, C3 = zput (zput C2 123 (nI k) ((zs C2 131) - (zt C2 121 (nI k)))) 125 (nI k) (zs (zput C2 123 (nI k) ((zs C2 131) - (zt C2 121 (nI k)))) 131) := ⟨_, rfl⟩
  have v123 : (zs C2 131) - (zt C2 121 (nI k)) = nI (ldT C T i).length := by
    rw [zt_ldq _ _ (by omega), ldq_eq, c2o 121 (by decide) (by decide), show (C.1 121).getD k (-1) = nI (C.1 131).length from g2]
    unfold zs; rw [c2131, List.length_append, pk_sub (by omega)]; congr 1; omega
  have v125 : zs (zput C2 123 (nI k) ((zs C2 131) - (zt C2 121 (nI k)))) 131 = nI ((C.1 131).length + (ldT C T i).length) := by
    unfold zs; rw [zput_oth (by decide), c2131, List.length_append]
  rw [v125, v123] at hC3
  have c3o : ∀ id, ¬ id = 131 → ¬ id = 129 → ¬ id = 125 → ¬ id = 123 → C3.1 id = C.1 id := fun id a b c d => by rw [hC3, zput_oth c, zput_oth d]; exact c2o id a b
  have c3123 : C3.1 123 = (C.1 123).set k (nI (ldT C T i).length) := by rw [hC3, zput_oth (by decide), zput_row (by omega), c2o 123 (by decide) (by decide)]
  have c3125 : C3.1 125 = (C.1 125).set k (nI ((C.1 131).length + (ldT C T i).length)) := by rw [hC3, zput_row (by omega), zput_oth (by decide), c2o 125 (by decide) (by decide)]
  have c3129 : C3.1 129 = (C.1 129).set k (ldq C 72 i) := by rw [hC3, zput_oth (by decide), zput_oth (by decide), c2r.2 129 (by decide), hC1, zput_row (by omega), zt_ldq _ _ hi]
  have c3131 : C3.1 131 = C.1 131 ++ ldT C T i := by rw [hC3, zput_oth (by decide), zput_oth (by decide), c2131]
  have step2 : ∃ C4, cadd C3 C4 (ldU C T i) ∧ o_66 C3 (zt C3 78 (nI i)) (zt C3 80 (nI i)) = some C4 := by
    have hmC3 : mC C3 T := (c3o 61 (by decide) (by decide) (by decide) (by decide)).trans hC
    rw [zt_ldq _ _ hi, zt_ldq _ _ hi, ldq_eq, ldq_eq, c3o 78 (by decide) (by decide) (by decide) (by decide), c3o 80 (by decide) (by decide) (by decide) (by decide), ← ldq_eq, ← ldq_eq]
    rcases hld with ⟨a, b, t, u, d1, d2, d3, d4, d5, d6, d7, d8, d9, d10, d11⟩ | ⟨a, b, d1, d2, d3, d4, d5, d6, d7⟩
    · rw [d4, d5]
      have := mrch_le d10
      have he : ldU C T i = munesc T t u := by unfold ldU; rw [d4, d5, nI_clamp (by omega), nI_clamp (by omega)]
      rw [he] at hroom ⊢
      obtain ⟨C4, e1, e2⟩ := c66 (C := C3) hmC3 hT (a := t) (b := u) (by omega) d10 d11 (by rw [c3131, List.length_append]; omega)
      exact ⟨C4, e2, e1⟩
    · rw [d4, d5]
      have he : ldU C T i = [] := by unfold ldU; rw [d4, d5]; exact munesc_nil T _
      rw [he]
      refine ⟨C3, cadd_nil C3, ?_⟩
      unfold o_66; rw [show oF = 999999 + 1 from rfl, g_66_3, if_pos (Int32.le_refl _)]
  obtain ⟨C4, t1, t2⟩ := step2
  have c4r := t1.row
  obtain ⟨C5, hC5⟩ : ∃ C5, C5 = zput C4 127 (nI k) ((zs C4 131) - (zt C4 125 (nI k))) := ⟨_, rfl⟩
  have v127 : (zs C4 131) - (zt C4 125 (nI k)) = nI (ldU C T i).length := by
    rw [zt_ldq _ _ (by omega), ldq_eq, c4r.2 125 (by decide), c3125, getD_set (by rw [hlen 125 (by decide)]; omega), if_pos rfl]
    unfold zs; rw [c4r.1, c3131, List.length_append, List.length_append, pk_sub (by omega)]; congr 1; omega
  rw [v127] at hC5
  have heq : o_50 C (nI k) (nI i) = some C5 := by
    unfold o_50
    by_cases hm : zt C 70 (nI i) = 1
    · rw [if_neg (fun hh => hh hm)] at s2 ⊢
      rw [← hC1, s2]
      simp only [Option.bind_some, olet]
      rw [v125, v123, ← hC3, t2]
      simp only [Option.bind_some]
      rw [v127, ← hC5]
    · rw [if_pos hm] at s2 ⊢
      rw [← hC1, s2]
      simp only [Option.bind_some, olet]
      rw [v125, v123, ← hC3, t2]
      simp only [Option.bind_some]
      rw [v127, ← hC5]
  have e131 : C5.1 131 = C.1 131 ++ (ldT C T i ++ ldU C T i) := by rw [hC5, zput_oth (by decide), c4r.1, c3131, List.append_assoc]
  have e127 : C5.1 127 = (C.1 127).set k (nI (ldU C T i).length) := by rw [hC5, zput_row (by omega), c4r.2 127 (by decide), c3o 127 (by decide) (by decide) (by decide) (by decide)]
  have eo : ∀ id, ¬ id = 131 → ¬ id = 129 → ¬ id = 127 → ¬ id = 125 → ¬ id = 123 → C5.1 id = C.1 id := fun id a b c d e => by rw [hC5, zput_oth c, c4r.2 id a, c3o id a b d e]
  have e123 : C5.1 123 = (C.1 123).set k (nI (ldT C T i).length) := by rw [hC5, zput_oth (by decide), c4r.2 123 (by decide), c3123]
  have e125 : C5.1 125 = (C.1 125).set k (nI ((C.1 131).length + (ldT C T i).length)) := by rw [hC5, zput_oth (by decide), c4r.2 125 (by decide), c3125]
  have e129 : C5.1 129 = (C.1 129).set k (ldq C 72 i) := by rw [hC5, zput_oth (by decide), c4r.2 129 (by decide), c3129]
  refine ⟨C5, heq, ⟨fun id hid => ?_, ?_, ?_, fun j nd hj => ?_⟩, ?_, e131⟩
  · have hh := hlen id hid
    rw [List.length_append, hk]
    show (C5.1 id).length = k + 1
    rw [← hh]
    simp only [List.mem_cons, List.not_mem_nil, or_false] at hid
    rcases hid with rfl | rfl | rfl | rfl | rfl | rfl | rfl | rfl
    · rw [eo 115 (by decide) (by decide) (by decide) (by decide) (by decide)]
    · rw [eo 117 (by decide) (by decide) (by decide) (by decide) (by decide)]
    · rw [eo 119 (by decide) (by decide) (by decide) (by decide) (by decide)]
    · rw [eo 121 (by decide) (by decide) (by decide) (by decide) (by decide)]
    · rw [e123, List.length_set]
    · rw [e125, List.length_set]
    · rw [e127, List.length_set]
    · rw [e129, List.length_set]
  · rw [List.length_append, hk]; show k + 1 ≤ 1500; omega
  · rw [e131, List.length_append, List.length_append]; omega
  · have gset : ∀ id v, id ∈ nrows → C5.1 id = (C.1 id).set k v → ∀ t, ldq C5 id t = if t = k then v else ldq C id t := fun id v hid e t => by
      rw [ldq_eq, ldq_eq, e, getD_set (by rw [hlen id hid]; omega)]
    have gsam : ∀ id, ¬ id = 131 → ¬ id = 129 → ¬ id = 127 → ¬ id = 125 → ¬ id = 123 → ∀ t, ldq C5 id t = ldq C id t := fun id a b c d e t => by rw [ldq_eq, ldq_eq, eo id a b c d e]
    by_cases e : j < k
    · rw [List.getElem?_append_left (by omega)] at hj
      obtain ⟨a1, a2, a3, a4, a5, a6, ⟨f, b0, b1, b2⟩, ⟨g, c0, c1, c2⟩⟩ := h4 j nd (by rw [List.getElem?_append_left (by omega)]; exact hj)
      have hne : ¬ j = k := by omega
      refine ⟨by rw [gsam 115 (by decide) (by decide) (by decide) (by decide) (by decide)]; exact a1, by rw [gsam 117 (by decide) (by decide) (by decide) (by decide) (by decide)]; exact a2, by rw [gsam 119 (by decide) (by decide) (by decide) (by decide) (by decide)]; exact a3, by rw [gset 129 _ (by decide) e129, if_neg hne]; exact a4, by rw [gset 123 _ (by decide) e123, if_neg hne]; exact a5, by rw [gset 127 _ (by decide) e127, if_neg hne]; exact a6, ⟨f, b0, by rw [gsam 121 (by decide) (by decide) (by decide) (by decide) (by decide)]; exact b1, by rw [e131]; exact rowAt_app b2 _⟩, ⟨g, c0, by rw [gset 125 _ (by decide) e125, if_neg hne]; exact c1, by rw [e131]; exact rowAt_app c2 _⟩⟩
    · have hjl := (List.getElem?_eq_some_iff.mp hj).1
      rw [List.length_append] at hjl
      obtain rfl : j = k := by simp only [List.length_cons, List.length_nil] at hjl; omega
      rw [← hk, List.getElem?_append_right (Nat.le_refl _), Nat.sub_self] at hj
      obtain rfl := Option.some.inj hj
      refine ⟨by rw [gsam 115 (by decide) (by decide) (by decide) (by decide) (by decide)]; exact l1, by rw [gsam 117 (by decide) (by decide) (by decide) (by decide) (by decide)]; exact l2, by rw [gsam 119 (by decide) (by decide) (by decide) (by decide) (by decide)]; exact l3, by rw [gset 129 _ (by decide) e129, if_pos rfl], by rw [gset 123 _ (by decide) e123, if_pos rfl], by rw [gset 127 _ (by decide) e127, if_pos rfl], ⟨(C.1 131).length, by omega, by rw [gsam 121 (by decide) (by decide) (by decide) (by decide) (by decide)]; exact g2, ?_⟩, ⟨(C.1 131).length + (ldT C T i).length, by omega, by rw [gset 125 _ (by decide) e125, if_pos rfl], ?_⟩⟩
      · rw [e131, ← List.append_assoc]; exact rowAt_app (rowAt_new _ _) _
      · rw [e131, ← List.append_assoc, ← List.length_append]; exact rowAt_new _ _
  · have n1 : NK C C1 := by rw [hC1]; exact NK_put (NK.refl C) (by decide) (by decide)
    have n3 : NK C C3 := by rw [hC3]; exact NK_put (NK_put (n1.trans s1.nk) (by decide) (by decide)) (by decide) (by decide)
    rw [hC5]; exact NK_put (n3.trans t1.nk) (by decide) (by decide)
