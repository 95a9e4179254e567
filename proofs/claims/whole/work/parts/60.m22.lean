/-! the mathematics; written by wip/whole/m2parts.py -/
def PARTOK (C R : zr_Z) (T : List Int32) (D : List (List Int32)) (k : Nat) : Prop :=
  ∃ C' R' k' G' live' rc' bs' nl' pl' it', (∀ n, g_54_6 (n + 1) C (nI k) = g_54_6 n C' (nI k')) ∧ o_149 R (nI k) = some (nI k', R') ∧ k < k' ∧ INV C' R' T D k' G' live' rc' bs' nl' pl' it' ∧ zc C' 2 = zf R' 46 ∧ zc C' 3 = zf R' 47
theorem INV.sok {C R : zr_Z} {T : List Int32} {D : List (List Int32)} {k : Nat} {G : List Ent} {live : List Nat} {rc : Nat} {bs : List (Nat × Nat × Nat × Nat)} {nl pl it : Nat} (h : INV C R T D k G live rc bs nl pl it) : sok R := h.1.2.1.sk h.1.2.2.1
theorem zmax_up {a b : Nat} (ha : a ≤ b) (hb : b < 2 ^ 31) : zmax (nI a) (nI b) = nI b := by rw [zmax_nI (by omega) hb, Nat.max_eq_right ha]
theorem cs_in {C : zr_Z} {T : List Int32} (hC : mC C T) (hT : gT T) {k : Nat} (hk : k < T.length) (h2 : zc C 2 = 0) (n : Nat) : g_54_6 (n + 1) C (nI k) =
    (if mA T k = 10 then g_54_6 n (f_56 C (nI k)) (nI (k + 1)) else (if mA T k = 33 then g_54_6 n ((f_51 C (nI k)).2) (zmax (nI (k + 1)) ((f_51 C (nI k)).1)) else (if mA T k = 38 then (Option.bind (o_61 C (nI k)) fun u9 => g_54_6 n u9.2 (zmax (nI (k + 1)) u9.1)) else (if mA T k = 42 then g_54_6 n (f_78 C (nI k) (f_93 C (nI k))) (zmax (nI (k + 1)) (f_93 C (nI k))) else (if mA T k = 60 then g_54_6 n ((f_60 C (nI k)).2) (zmax (nI (k + 1)) ((f_60 C (nI k)).1)) else (if mA T k = 91 then g_54_6 n ((f_51 C (nI k)).2) (zmax (nI (k + 1)) ((f_51 C (nI k)).1)) else (if mA T k = 92 then g_54_6 n ((f_57 C (nI k)).2) (zmax (nI (k + 1)) ((f_57 C (nI k)).1)) else (if mA T k = 93 then (Option.bind (o_29 C (nI k)) fun u19 => g_54_6 n u19.2 (zmax (nI (k + 1)) u19.1)) else (if mA T k = 95 then g_54_6 n (f_78 C (nI k) (f_93 C (nI k))) (zmax (nI (k + 1)) (f_93 C (nI k))) else (if mA T k = 96 then (Option.bind (o_58 C (nI k)) fun u23 => g_54_6 n u23.2 (zmax (nI (k + 1)) u23.1)) else g_54_6 n C (nI (k + 1)))))))))))) := by
  have hl := hT.1
  rw [g_54_6, hC.sz, if_neg (by rw [nI_leI (by omega) (by omega)]; omega), if_neg (fun h => h h2), hC.at (by omega), nI_1, zmax_up (Nat.le_refl (k + 1)) (by omega)]
  rfl
theorem rs_in {R : zr_Z} {T : List Int32} (hR : mR R T) (hT : gT T) {k : Nat} (hk : k < T.length) : o_149 R (nI k) = (if mA T k = 10 then (Option.bind (o_147 R (nI k)) fun u2 => (if sok u2.2 then some (u2.1, u2.2) else none)) else (if mA T k = 38 then (Option.bind (o_113 R (nI k)) fun u4 => (if sok u4.2 then (if u4.1 = true then (if (k_182 (zf u4.2 51)) = true then (Option.bind (o_148 u4.2 1 (nI k)) fun u7 => (if sok u7 then (Option.bind (o_127 u7 0 (zf u7 51)) fun u8 => (if sok u8.2 then some (zf u8.2 50, u8.2) else none)) else none)) else (Option.bind (o_127 u4.2 0 (zf u4.2 51)) fun u9 => (if sok u9.2 then some (zf u9.2 50, u9.2) else none))) else (Option.bind (o_127 u4.2 0 (mA T k)) fun u10 => (if sok u10.2 then some (nI (k + 1), u10.2) else none))) else none)) else (if mA T k = 42 then (Option.bind (o_137 R (nI k)) fun u12 => (if sok u12.2 then some (u12.1, u12.2) else none)) else (if mA T k = 60 then (Option.bind (o_145 R (nI k)) fun u14 => (if sok u14.2 then some (u14.1, u14.2) else none)) else (if mA T k = 91 then (Option.bind (o_139 R (nI k) false) fun u16 => (if sok u16.2 then some (u16.1, u16.2) else none)) else (if mA T k = 92 then (if ¬ mA T (k + 1) = 10 then (Option.bind (o_127 R 0 (if mesc T k = true then mA T (k + 1) else mA T k : Int32)) fun u22 => (if sok u22.2 then some ((if (rp u22.2 (nI k)) = true then nI (k + 2) else nI (k + 1) : Int32), u22.2) else none)) else (Option.bind (o_127 R 2 0) fun u26 => (if sok u26.2 then some (nI (k + 2), u26.2) else none))) else (if mA T k = 93 then (Option.bind (o_140 R (nI k)) fun u28 => (if sok u28.2 then some (u28.1, u28.2) else none)) else (if mA T k = 95 then (Option.bind (o_137 R (nI k)) fun u30 => (if sok u30.2 then some (u30.1, u30.2) else none)) else (if mA T k = 96 then (Option.bind (o_146 R (nI k)) fun u32 => (if sok u32.2 then some (u32.1, u32.2) else none)) else (if ¬ mA T k = 33 then (Option.bind (o_127 R 0 (mA T k)) fun u34 => (if sok u34.2 then some (nI (k + 1), u34.2) else none)) else (if ¬ mA T (k + 1) = 91 then (Option.bind (o_127 R 0 (mA T k)) fun u36 => (if sok u36.2 then some (nI (k + 1), u36.2) else none)) else (Option.bind (o_139 R (nI k) true) fun u37 => (if sok u37.2 then some (u37.1, u37.2) else none))))))))))))) := by
  have hl := hT.1
  unfold o_149
  rw [if_pos (hR.sk hT), hR.esc hT (by omega), nI_1, nI_2, hR.at hT (by omega : k < 2 ^ 31), hR.at hT (by omega : k + 1 < 2 ^ 31)]
section
variable {C R : zr_Z} {T : List Int32} {D : List (List Int32)} {k : Nat} {G : List Ent} {live : List Nat} {rc : Nat} {bs : List (Nat × Nat × Nat × Nat)} {nl pl it : Nat}
theorem part_default (h : INV C R T D k G live rc bs nl pl it) (hk : k < T.length) (h2 : zc C 2 = 0) (f2 : zc C 2 = zf R 46) (f3 : zc C 3 = zf R 47)
    (hc : ∀ c, c ∈ [10, 38, 42, 60, 91, 92, 93, 95, 96] → ¬ mA T k = c) (h33 : mA T k = 33 → ¬ mA T (k + 1) = 91) : PARTOK C R T D k := by
  have hT := h.1.2.2.1
  have hl := hT.1
  obtain ⟨R', h1, h3, h4⟩ := part_text h hk
  refine ⟨C, R', k + 1, _, _, _, _, _, _, _, fun n => ?_, ?_, by omega, h3, ?_, ?_⟩
  · rw [cs_in h.1.1 hT hk h2, if_neg (hc 10 (by decide)), if_neg (hc 38 (by decide)), if_neg (hc 42 (by decide)), if_neg (hc 60 (by decide)), if_neg (hc 91 (by decide)), if_neg (hc 92 (by decide)), if_neg (hc 93 (by decide)), if_neg (hc 95 (by decide)), if_neg (hc 96 (by decide))]
    by_cases e : mA T k = 33
    · rw [if_pos e]
      have hf : f_51 C (nI k) = (nI (k + 1), C) := by
        unfold f_51
        rw [h.1.1.at (by omega), nI_1, h.1.1.at (by omega), e, if_pos (by decide), if_neg (h33 e)]
      rw [hf, zmax_up (Nat.le_refl _) (by omega)]
    · rw [if_neg e]
  · rw [rs_in h.1.2.1 hT hk, if_neg (hc 10 (by decide)), if_neg (hc 38 (by decide)), if_neg (hc 42 (by decide)), if_neg (hc 60 (by decide)), if_neg (hc 91 (by decide)), if_neg (hc 92 (by decide)), if_neg (hc 93 (by decide)), if_neg (hc 95 (by decide)), if_neg (hc 96 (by decide)), h1]
    simp only [Option.bind_some, if_pos h3.sok]
    by_cases e : mA T k = 33
    · rw [if_neg (fun h => h e), if_pos (h33 e)]
    · rw [if_pos e]
  · rw [h4 46 (by decide) (by decide)]; exact f2
  · rw [h4 47 (by decide) (by decide)]; exact f3
theorem part_backslash (h : INV C R T D k G live rc bs nl pl it) (hk : k < T.length) (h2 : zc C 2 = 0) (f2 : zc C 2 = zf R 46) (f3 : zc C 3 = zf R 47) (hc : mA T k = 92) : PARTOK C R T D k := by
  have hT := h.1.2.2.1
  have hl := hT.1
  have hmC := h.1.1
  obtain ⟨s1, s2, s3, s4, -⟩ := h.2.1
  have cls : ∀ n, g_54_6 (n + 1) C (nI k) = g_54_6 n ((f_57 C (nI k)).2) (zmax (nI (k + 1)) ((f_57 C (nI k)).1)) := by
    intro n; rw [cs_in hmC hT hk h2, hc]; rfl
  have hzt : zt C 61 (nI k + 1) = mA T (k + 1) := by rw [nI_1, hmC.at (by omega)]
  have rfs : o_149 R (nI k) = (if ¬ mA T (k + 1) = 10 then (Option.bind (o_127 R 0 (if mesc T k = true then mA T (k + 1) else mA T k : Int32)) fun u22 => (if sok u22.2 then some ((if (rp u22.2 (nI k)) = true then nI (k + 2) else nI (k + 1) : Int32), u22.2) else none)) else (Option.bind (o_127 R 2 0) fun u26 => (if sok u26.2 then some (nI (k + 2), u26.2) else none))) := by
    rw [rs_in h.1.2.1 hT hk]
    rw [if_neg (by rw [hc]; decide), if_neg (by rw [hc]; decide), if_neg (by rw [hc]; decide), if_neg (by rw [hc]; decide), if_neg (by rw [hc]; decide), if_pos hc]
  by_cases h10 : mA T (k + 1) = 10
  · have hlt := mA_lt h10 (by decide)
    obtain ⟨e1, e2, e3⟩ := erase (C := C) (a := k) (b := k + 1) (by omega) (by omega) (by omega)
    obtain ⟨p1, p2, p3⟩ := put66 (C := f_35 C (nI k) (nI (k + 1))) (p := k + 1) (by rw [e1.2.2.1]; omega) (by rw [e1.2.2.1]; omega) 2
    have hf : f_57 C (nI k) = (nI (k + 2), zput (f_35 C (nI k) (nI (k + 1))) 66 (nI (k + 1)) 2) := by
      unfold f_57; rw [hzt, if_neg (fun h => h h10), nI_1, nI_2]
    generalize hC' : zput (f_35 C (nI k) (nI (k + 1))) 66 (nI (k + 1)) 2 = C' at *
    have hkeep := e1.trans p1
    have kdk : kd C' k = 8 := by rw [p2, if_neg (by omega), e2, if_pos (by omega)]
    have kdk1 : kd C' (k + 1) = 2 := by rw [p2, if_pos rfl]
    obtain ⟨R', q1, q2, q3, -⟩ := inv_item1 (C' := C') (k' := k + 2) (wh := 2) (le := 0) h.z h.ov h.bl (by omega) (by omega) (by omega) hkeep.ck2 (fun q hq => ⟨by rw [p2, if_neg (by omega), e2, if_neg (by omega)], by rw [p3, e3]⟩) (fun q q1 q2 => by
      by_cases e : q = k
      · rw [e, kdk]; decide
      · rw [show q = k + 1 by omega, kdk1]; decide) (by decide) (by
      rw [show k + 2 - k = 1 + 1 by omega, ctk_add, ctk_one, ctk_one]
      unfold ctok; rw [kdk, kdk1]; rfl) (by show 5 * 0 ≤ _; omega) (Or.inr ⟨by decide, by show 6 ≤ 12 * (k + 2 - k); omega⟩) (Or.inl (by rw [show k + 2 - 1 = k + 1 by omega, h10]; decide))
    refine ⟨C', R', k + 2, _, _, _, _, _, _, _, fun n => ?_, ?_, by omega, q2, ?_, ?_⟩
    · rw [cls n, hf, zmax_up (by omega) (by omega)]
    · rw [rfs, if_neg (fun h => h h10), q1]; simp only [Option.bind_some, if_pos q2.sok]
    · rw [q3 46 (by decide) (by decide), ← f2]; unfold zc; rw [hkeep.2.1]
    · rw [q3 47 (by decide) (by decide), ← f3]; unfold zc; rw [hkeep.2.1]
  · by_cases he : mesc T k = true
    · have hlt := mesc_lt he
      have he' := he
      unfold mesc at he'
      rw [Bool.and_eq_true, decide_eq_true_eq] at he'
      obtain ⟨e1, e2, e3⟩ := erase (C := C) (a := k) (b := k + 1) (by omega) (by omega) (by omega)
      have hf : f_57 C (nI k) = (nI (k + 2), f_35 C (nI k) (nI (k + 1))) := by
        unfold f_57; rw [hzt, if_pos h10, hmC.esc (by omega), if_pos he, nI_1, nI_2]
      generalize hC' : f_35 C (nI k) (nI (k + 1)) = C' at *
      have kdk : kd C' k = 8 := by rw [e2, if_pos (by omega)]
      have hu := s4 (k + 1) (by omega) hlt
      have kdk1 : kd C' (k + 1) = 0 := by rw [e2, if_neg (by omega)]; exact hu.1
      have vlk1 : vl C' (k + 1) = mA T (k + 1) := by rw [e3]; exact hu.2
      obtain ⟨R', q1, q2, q3, -⟩ := inv_item1 (C' := C') (k' := k + 2) (wh := 0) (le := mA T (k + 1)) h.z h.ov h.bl (by omega) (by omega) (by omega) e1.ck2 (fun q hq => ⟨by rw [e2, if_neg (by omega)], e3 q⟩) (fun q q1 q2 => by
        by_cases e : q = k
        · rw [e, kdk]; decide
        · rw [show q = k + 1 by omega, kdk1]; decide) (by decide) (by
        rw [show k + 2 - k = 1 + 1 by omega, ctk_add, ctk_one, ctk_one]
        unfold ctok; rw [kdk, kdk1, vlk1]; rfl) (by show 5 * 1 ≤ _; omega) (Or.inr ⟨by decide, by have := ows_1 (mA T (k + 1)); show ows [tkc (mA T (k + 1))] ≤ _; omega⟩) (Or.inl (by
          rw [show k + 2 - 1 = k + 1 by omega]
          intro h32; rw [h32] at he'; exact absurd he'.2 (by decide)))
      refine ⟨C', R', k + 2, _, _, _, _, _, _, _, fun n => ?_, ?_, by omega, q2, ?_, ?_⟩
      · rw [cls n, hf, zmax_up (by omega) (by omega)]
      · rw [rfs, if_pos h10, if_pos he, q1]; simp only [Option.bind_some, if_pos q2.sok]
        rw [q2.1.2.1.esc hT (by omega), if_pos he]
      · rw [q3 46 (by decide) (by decide), ← f2]; unfold zc; rw [e1.2.1]
      · rw [q3 47 (by decide) (by decide), ← f3]; unfold zc; rw [e1.2.1]
    · obtain ⟨R', q1, q2, q3⟩ := part_text h hk
      have hf : f_57 C (nI k) = (nI (k + 1), C) := by
        unfold f_57; rw [hzt, if_pos h10, hmC.esc (by omega), if_neg he, nI_1]
      refine ⟨C, R', k + 1, _, _, _, _, _, _, _, fun n => ?_, ?_, by omega, q2, ?_, ?_⟩
      · rw [cls n, hf, zmax_up (Nat.le_refl _) (by omega)]
      · rw [rfs, if_pos h10, if_neg he, q1]; simp only [Option.bind_some, if_pos q2.sok]
        rw [q2.1.2.1.esc hT (by omega), if_neg he]
      · rw [q3 46 (by decide) (by decide)]; exact f2
      · rw [q3 47 (by decide) (by decide)]; exact f3
theorem part_ref (h : INV C R T D k G live rc bs nl pl it) (hk : k < T.length) (h2 : zc C 2 = 0) (f2 : zc C 2 = zf R 46) (f3 : zc C 3 = zf R 47) (hc : mA T k = 38) : PARTOK C R T D k := by
  have hT := h.1.2.2.1
  have hl := hT.1
  have hmC := h.1.1
  obtain ⟨s1, s2, s3, s4, -⟩ := h.2.1
  have cls : ∀ n, g_54_6 (n + 1) C (nI k) = (Option.bind (o_61 C (nI k)) fun u9 => g_54_6 n u9.2 (zmax (nI (k + 1)) u9.1)) := by
    intro n; rw [cs_in hmC hT hk h2, hc]; rfl
  have rfs : o_149 R (nI k) = (Option.bind (o_113 R (nI k)) fun u4 => (if sok u4.2 then (if u4.1 = true then (if (k_182 (zf u4.2 51)) = true then (Option.bind (o_148 u4.2 1 (nI k)) fun u7 => (if sok u7 then (Option.bind (o_127 u7 0 (zf u7 51)) fun u8 => (if sok u8.2 then some (zf u8.2 50, u8.2) else none)) else none)) else (Option.bind (o_127 u4.2 0 (zf u4.2 51)) fun u9 => (if sok u9.2 then some (zf u9.2 50, u9.2) else none))) else (Option.bind (o_127 u4.2 0 (mA T k)) fun u10 => (if sok u10.2 then some (nI (k + 1), u10.2) else none))) else none)) := by
    rw [rs_in h.1.2.1 hT hk, if_neg (by rw [hc]; decide), if_pos hc]
  rcases ref_lock hmC h.1.2.1 hT h.1.2.2.2.1 (p := k) (by omega) with ⟨R1, c1, c2, c3⟩ | ⟨e, v, R1, c1, c2, c3, c4, c5, c6, c7, c8, c9, c10⟩
  · have h' := inv_sceq h c3.1
    obtain ⟨R', q1, q2, q3⟩ := part_text h' hk
    refine ⟨C, R', k + 1, _, _, _, _, _, _, _, fun n => ?_, ?_, by omega, q2, ?_, ?_⟩
    · rw [cls n]; unfold o_61; rw [c1]; simp only [Option.bind_some, not_true_eq_false, if_false, nI_1]; rw [zmax_up (Nat.le_refl _) (by omega)]
    · rw [rfs, c2]; simp only [Option.bind_some, if_pos h'.sok, Bool.false_eq_true, if_false]; rw [q1]; simp only [Option.bind_some, if_pos q2.sok]
    · rw [q3 46 (by decide) (by decide), c3.1.2.2.2.1 46 (by omega)]; exact f2
    · rw [q3 47 (by decide) (by decide), c3.1.2.2.2.1 47 (by omega)]; exact f3
  · -- a reference stands there
    have h' := inv_sceq h c8.1
    have key : ∀ (C1 R2 : zr_Z), C1.1 = C.1 → zc C1 1 = zc C 1 → zc C1 0 = v → (∀ f, f < 46 → zf R2 f = zf R1 f) → (∀ j i, rv R2 j i = rv R1 j i) → zf R2 50 = nI e → zf R2 51 = v → zc C1 2 = zf R2 46 → zc C1 3 = zf R2 47 →
        (∀ n, g_54_6 (n + 1) C (nI k) = g_54_6 n (f_35 (zput C1 68 (nI k) v) (nI (k + 1)) (nI e)) (zmax (nI (k + 1)) (nI e))) → (o_149 R (nI k) = (Option.bind (o_127 R2 0 v) fun u9 => (if sok u9.2 then some (zf u9.2 50, u9.2) else none))) → PARTOK C R T D k := by
      intro C1 R2 hC1 hz1 hz0 hf hrv h50 h51 hz2 hz3 hcs hrs
      have h'' : INV C1 R2 T D k G live rc bs nl pl it := inv_same h' ⟨fun id _ => by rw [hC1], hz1⟩ ⟨fun j _ i => hrv j i, fun f hf' => hf f (by simp only [List.mem_cons, List.not_mem_nil, or_false] at hf'; omega)⟩
      have hl66 : (C1.1 66).length = T.length := by rw [hC1]; exact s1
      have hl68 : (C1.1 68).length = T.length := by rw [hC1]; exact s2
      obtain ⟨p1, p2, p3⟩ := put68 (C := C1) (p := k) (by omega) (by omega) v
      obtain ⟨e1, e2, e3⟩ := erase (C := zput C1 68 (nI k) v) (a := k + 1) (b := e) (by omega) (by rw [p1.2.2.1]; omega) (by rw [p1.2.2.1]; omega)
      generalize hC' : f_35 (zput C1 68 (nI k) v) (nI (k + 1)) (nI e) = C' at *
      have hkeep := p1.trans e1
      have hu := h''.2.1.2.2.2.1 k (Nat.le_refl _) hk
      have kdk : kd C' k = 0 := by rw [e2, if_neg (by omega), p2]; exact hu.1
      have vlk : vl C' k = v := by rw [e3, p3, if_pos rfl]
      have kdo : ∀ q, k + 1 ≤ q → q < e → kd C' q = 8 := fun q a b => by rw [e2, if_pos ⟨a, b⟩]
      obtain ⟨R', q1, q2, q3, -⟩ := inv_item1 (C' := C') (k' := e) (wh := 0) (le := v) h''.z h''.ov h''.bl (by omega) (by omega) (by omega) hkeep.ck2 (fun q hq => ⟨by rw [e2, if_neg (by omega), p2], by rw [e3, p3, if_neg (by omega)]⟩) (fun q q1 q2 => by
        by_cases ee : q = k
        · rw [ee, kdk]; decide
        · rw [kdo q (by omega) q2]; decide) (by decide) (by
        rw [show e - k = 1 + (e - (k + 1)) by omega, ctk_add, ctk_one, ctk_gone (e - (k + 1)) (k + 1) (fun q a b => kdo q a (by omega))]
        unfold ctok; rw [kdk, vlk]; rfl) (by show 5 * 1 ≤ _; omega) (Or.inr ⟨by decide, by have := ows_1 v; show ows [tkc v] ≤ _; omega⟩) (Or.inl (by rw [c4]; decide))
      refine ⟨C', R', e, _, _, _, _, _, _, _, fun n => ?_, ?_, by omega, q2, ?_, ?_⟩
      · rw [hcs n, zmax_up (by omega) (by omega)]
      · rw [hrs, q1]; simp only [Option.bind_some, if_pos q2.sok]; rw [q3 50 (by decide) (by decide), h50]
      · rw [q3 46 (by decide) (by decide), ← hz2]; unfold zc; rw [hkeep.2.1]
      · rw [q3 47 (by decide) (by decide), ← hz3]; unfold zc; rw [hkeep.2.1]
    have hk182 : k_182 v = k_200 v := rfl
    by_cases hfb : k_200 v = true
    · refine key (f_52 (zsc C 0 v) 1 (nI k)) (zmf (zmf R1 46 1) 47 (nI k)) rfl ?_ ?_ ?_ (fun _ _ => rfl) ?_ ?_ ?_ ?_ (fun n => ?_) ?_
      · unfold f_52 zc zsc va_up; rfl
      · unfold f_52 zc zsc va_up; rfl
      · intro f hf; rw [zf_other _ _ (by omega), zf_other _ _ (by omega)]
      · rw [zf_other _ _ (by decide), zf_other _ _ (by decide)]; exact c9
      · rw [zf_other _ _ (by decide), zf_other _ _ (by decide)]; exact c10
      · rw [zf_other _ _ (by decide), zf_same]; unfold f_52 zc zsc va_up; rfl
      · rw [zf_same]; unfold f_52 zc zsc va_up; rfl
      · rw [cls n]; unfold o_61; rw [c6]; simp only [Option.bind_some, if_pos (ne_m1 (by omega : e < 2 ^ 31)), zc_zsc, if_pos hfb, olet, nI_1]
        have : zc (f_52 (zsc C 0 v) 1 (nI k)) 0 = v := by unfold f_52 zc zsc va_up; rfl
        rw [this]
      · rw [rfs, c7]; simp only [Option.bind_some, if_pos h'.sok, if_true, c10, hk182, if_pos hfb]
        unfold o_148; simp only [Option.bind_some]
        have : sok (zmf (zmf R1 46 1) 47 (nI k)) := h'.sok
        rw [if_pos this, zf_other _ _ (by decide), zf_other _ _ (by decide), c10]
    · refine key (zsc C 0 v) R1 rfl ?_ ?_ (fun _ _ => rfl) (fun _ _ => rfl) c9 c10 ?_ ?_ (fun n => ?_) ?_
      · unfold zc zsc va_up; rfl
      · exact zc_zsc _ _ _
      · rw [c8.1.2.2.2.1 46 (by omega), ← f2]; unfold zc zsc va_up; rfl
      · rw [c8.1.2.2.2.1 47 (by omega), ← f3]; unfold zc zsc va_up; rfl
      · rw [cls n]; unfold o_61; rw [c6]; simp only [Option.bind_some, if_pos (ne_m1 (by omega : e < 2 ^ 31)), zc_zsc, if_neg hfb, nI_1]
      · rw [rfs, c7]; simp only [Option.bind_some, if_pos h'.sok, if_true, c10, hk182, if_neg hfb]
end
