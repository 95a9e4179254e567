/-! the mathematics; written by wip/whole/m2parts.py -/
section
variable {C R : zr_Z} {T : List Int32} {D : List (List Int32)} {k : Nat} {G : List Ent} {live : List Nat} {rc : Nat} {bs : List (Nat × Nat × Nat × Nat)} {nl pl it : Nat}
theorem part_angle (h : INV C R T D k G live rc bs nl pl it) (hk : k < T.length) (h2 : zc C 2 = 0) (f2 : zc C 2 = zf R 46) (f3 : zc C 3 = zf R 47) (hc : mA T k = 60) : PARTOK C R T D k := by
  have hT := h.1.2.2.1
  have hl := hT.1
  have hmC := h.1.1
  have hmR := h.1.2.1
  have hS := h.sok
  have r := r142 hmR hT hk
  rcases c86 hmC hT hk with ⟨a1, a2⟩ | ⟨x, a1, a2, a3⟩
  · rcases r with ⟨x, b1, -⟩ | ⟨-, r⟩
    · exact absurd b1 (a2 x)
    rcases c87 hmC hT hk with ⟨m1, m2⟩ | ⟨x, m1, m2, m3⟩
    · rcases r with ⟨x, b1, -⟩ | ⟨-, R1, b1, b2⟩
      · exact absurd b1 (m2 x)
      have h' := inv_sceq h b2
      have hf : f_60 C (nI k) = if mRaw T k = true then (nI (k + 1), f_52 C 2 (nI k)) else (nI (k + 1), C) := by
        unfold f_60
        simp only [a1, if_true, m1, c89 hmC hT hk, nI_1]
      have hrs : o_149 R (nI k) = (Option.bind (o_145 R (nI k)) fun u14 => (if sok u14.2 then some (u14.1, u14.2) else none)) := by
        rw [rs_in hmR hT hk, if_neg (by rw [hc]; decide), if_neg (by rw [hc]; decide), if_neg (by rw [hc]; decide), if_pos hc]
      have ho : o_145 R (nI k) = (if mRaw T k = true then (Option.bind (o_148 R1 2 (nI k)) fun u15 => (if sok u15 then (Option.bind (o_127 u15 0 60) fun u16 => (if sok u16.2 then some (nI (k + 1), u16.2) else none)) else none)) else (Option.bind (o_127 R1 0 60) fun u17 => (if sok u17.2 then some (nI (k + 1), u17.2) else none))) := by
        unfold o_145
        rw [if_pos hS, b1]
        simp only [Option.bind_some]
        rw [if_pos h'.sok, if_neg (fun hh => hh trivial), r144 h'.1.2.1 hT hk]
        simp only [Option.bind_some, nI_1]
      have hcs : ∀ n, g_54_6 (n + 1) C (nI k) = g_54_6 n ((f_60 C (nI k)).2) (zmax (nI (k + 1)) ((f_60 C (nI k)).1)) := by
        intro n
        rw [cs_in hmC hT hk h2, if_neg (by rw [hc]; decide), if_neg (by rw [hc]; decide), if_neg (by rw [hc]; decide), if_neg (by rw [hc]; decide), if_pos hc]
      by_cases hraw : mRaw T k = true
      · have h'' : INV (f_52 C 2 (nI k)) (zmf (zmf R1 46 2) 47 (nI k)) T D k G live rc bs nl pl it := inv_same h' ⟨fun _ _ => rfl, by unfold f_52 zc zsc va_up; rfl⟩ ⟨fun _ _ _ => rfl, fun f hf => by
          rw [zf_other _ _ (by rintro rfl; exact absurd hf (by decide)), zf_other _ _ (by rintro rfl; exact absurd hf (by decide))]⟩
        obtain ⟨R', q1, q2, q3⟩ := part_text h'' hk
        rw [hc] at q1
        refine ⟨f_52 C 2 (nI k), R', k + 1, _, _, _, _, _, _, _, fun n => ?_, ?_, by omega, q2, ?_, ?_⟩
        · rw [hcs n, hf, if_pos hraw, zmax_up (Nat.le_refl _) (by omega)]
        · rw [hrs, ho, if_pos hraw]
          unfold o_148
          simp only [Option.bind_some]
          rw [if_pos h''.sok, q1]
          simp only [Option.bind_some, if_pos q2.sok]
        · rw [q3 46 (by decide) (by decide), zf_other _ _ (by decide), zf_same]; unfold f_52 zc zsc va_up; rfl
        · rw [q3 47 (by decide) (by decide), zf_same]; unfold f_52 zc zsc va_up; rfl
      · obtain ⟨R', q1, q2, q3⟩ := part_text h' hk
        rw [hc] at q1
        refine ⟨C, R', k + 1, _, _, _, _, _, _, _, fun n => ?_, ?_, by omega, q2, ?_, ?_⟩
        · rw [hcs n, hf, if_neg hraw, zmax_up (Nat.le_refl _) (by omega)]
        · rw [hrs, ho, if_neg hraw, q1]
          simp only [Option.bind_some, if_pos q2.sok]
        · rw [q3 46 (by decide) (by decide), b2.2.2.2.1 46 (by omega)]; exact f2
        · rw [q3 47 (by decide) (by decide), b2.2.2.2.1 47 (by omega)]; exact f3
    · rcases r with ⟨y, b1, b2, b3⟩ | ⟨b1, -⟩
      · obtain rfl := mMail_uniq m1 b1
        obtain ⟨g1, g2, g3⟩ := mail_facts hT m1
        refine part_addr h hk h2 f2 f3 hc x true g1 g2 (fun _ => g3) ?_ b3
        unfold f_60
        simp only [a1, if_true, m3, if_neg (ne_m1 (by omega : x + 1 < 2 ^ 31)), nI_1, nI_pred]
      · exact absurd m1 (b1 x)
  · rcases r with ⟨y, b1, b2, b3⟩ | ⟨b1, -⟩
    · obtain rfl := mAddr_uniq a1 b1
      obtain ⟨g1, g2⟩ := addr_facts a1
      refine part_addr h hk h2 f2 f3 hc x false g1 g2 (fun hh => nomatch hh) ?_ b3
      unfold f_60
      simp only [a3, if_neg (ne_m1 (by omega : x + 1 < 2 ^ 31)), nI_1, nI_pred, Bool.false_eq_true, if_false]
    · exact absurd a1 (b1 x)
end
