/-! the mathematics; written by wip/whole/m2parts.py -/
theorem scq_rv {R R' : zr_Z} (h : sceq R R') (j i : Nat) : rv R' j i = rv R j i := by unfold rv; rw [h.2.2.1]
theorem zar_rv_x {R : zr_Z} {j x : Nat} {v : Int32} (hx : x < 2 ^ 31) : rv (zar R j (nI x) v) j x = v := by rw [rv_at _ _ _ hx, if_pos rfl]
theorem lws_le (kk num : Int32) (tl ul : List Int32) (hkk : kk = 6 ∨ kk = 7) : ows [(kk, num, tl, ul)] ≤ 23 + 6 * tl.length + (if ul = [] then 0 else 9 + 6 * ul.length) := by
  have h1 := csts_le tl
  have h2 := csts_le ul
  have e : ows [(kk, num, tl, ul)] = 23 + csts tl + (if ul = [] then 0 else 9 + csts ul) := by
    unfold ows ow; rcases hkk with g | g <;> rw [g] <;> simp
  rw [e]
  by_cases hu : ul = []
  · rw [if_pos hu, if_pos hu]; omega
  · rw [if_neg hu, if_neg hu]; omega
section
variable {C R : zr_Z} {T : List Int32} {D : List (List Int32)} {k : Nat} {G : List Ent} {live : List Nat} {rc : Nat} {bs : List (Nat × Nat × Nat × Nat)} {nl pl it : Nat}
theorem close_text {C1 R1 : zr_Z} {bs0 : List (Nat × Nat × Nat × Nat)} (h : INV C1 R1 T D k G live rc bs0 nl pl it) (hk : k < T.length) (hc : mA T k = 93) (f2 : zc C1 2 = zf R1 46) (f3 : zc C1 3 = zf R1 47)
    (hcl : o_29 C (nI k) = some (nI (k + 1), C1)) (hrf : o_140 R (nI k) = (Option.bind (o_127 R1 0 93) fun u5 => (if sok u5.2 then some (nI k + 1, u5.2) else none))) (hmC : mC C T) (hmR : mR R T) (h2 : zc C 2 = 0) : PARTOK C R T D k := by
  have hT := h.1.2.2.1
  have hl := hT.1
  obtain ⟨R', q1, q2, q3⟩ := part_text h hk
  rw [hc] at q1
  refine ⟨C1, R', k + 1, _, _, _, _, _, _, _, fun n => ?_, ?_, by omega, q2, ?_, ?_⟩
  · rw [cs_in hmC hT hk h2, hc]
    show (Option.bind (o_29 C (nI k)) fun u19 => g_54_6 n u19.2 (zmax (nI (k + 1)) u19.1)) = _
    rw [hcl]; simp only [Option.bind_some]; rw [zmax_up (Nat.le_refl _) (by omega)]
  · rw [rs_in hmR hT hk, hc]
    show (Option.bind (o_140 R (nI k)) fun u28 => (if sok u28.2 then some (u28.1, u28.2) else none)) = _
    rw [hrf, q1]; simp only [Option.bind_some, if_pos q2.sok, nI_1]
  · rw [q3 46 (by decide) (by decide)]; exact f2
  · rw [q3 47 (by decide) (by decide)]; exact f3
theorem close_link {C2 R2 : zr_Z} {e : Nat} {G' : List Ent} {live' : List Nat} {bs0 : List (Nat × Nat × Nat × Nat)} {nl' pl' it' : Nat} (h : INV C2 R2 T D e G' live' rc bs0 nl' pl' it') (hT : gT T) (hk : k < T.length) (hke : k < e) (heL : e ≤ T.length) (hc : mA T k = 93) (f2 : zc C2 2 = zf R2 46) (f3 : zc C2 3 = zf R2 47)
    (hcl : o_29 C (nI k) = some (nI e, C2)) (hrf : o_140 R (nI k) = some (nI e, R2)) (hmC : mC C T) (hmR : mR R T) (h2 : zc C 2 = 0) : PARTOK C R T D k := by
  have hl := hT.1
  refine ⟨C2, R2, e, _, _, _, _, _, _, _, fun n => ?_, ?_, hke, h, f2, f3⟩
  · rw [cs_in hmC hT hk h2, hc]
    show (Option.bind (o_29 C (nI k)) fun u19 => g_54_6 n u19.2 (zmax (nI (k + 1)) u19.1)) = _
    rw [hcl]; simp only [Option.bind_some]; rw [zmax_up (by omega) (by omega)]
  · rw [rs_in hmR hT hk, hc]
    show (Option.bind (o_140 R (nI k)) fun u28 => (if sok u28.2 then some (u28.1, u28.2) else none)) = _
    rw [hrf]; simp only [Option.bind_some, if_pos h.sok]
theorem c29_in {n : Nat} (h104 : zs C 104 = nI (n + 1)) (hn : n < 1500) : o_29 C (nI k) = (if ¬ (zt C 108 (nI n)) = 0 then some (nI k + 1, f_26 C (nI n)) else (if ((f_32 C (nI k + 1)).1) = (-1) then (if ¬ (f_31 ((f_32 C (nI k + 1)).2) (nI n) (nI k)).1 = (-1) then
      cfin ((f_31 ((f_32 C (nI k + 1)).2) (nI n) (nI k)).2) (if decide (zt ((f_31 ((f_32 C (nI k + 1)).2) (nI n) (nI k)).2) 106 (nI n) = 1) = true then 7 else 6 : Int32) (zt ((f_31 ((f_32 C (nI k + 1)).2) (nI n) (nI k)).2) 104 (nI n)) (nI k) ((f_31 ((f_32 C (nI k + 1)).2) (nI n) (nI k)).1) (nI n)
      else some (nI k + 1, f_26 ((f_31 ((f_32 C (nI k + 1)).2) (nI n) (nI k)).2) (nI n))) else
      cfin ((f_32 C (nI k + 1)).2) (if decide (zt ((f_32 C (nI k + 1)).2) 106 (nI n) = 1) = true then 7 else 6 : Int32) (zt ((f_32 C (nI k + 1)).2) 104 (nI n)) (nI k) ((f_32 C (nI k + 1)).1) (nI n))) := by
  have hpos : (0 : Int32) ≤ nI n := by rw [← nI_0, nI_leI (by omega) (by omega)]; omega
  have h35 : ∀ (Z : zr_Z) (a b : Int32) (id : Nat) (i : Int32), ¬ id = 66 → zt (f_35 Z a b) id i = zt Z id i := by
    intro Z a b id i hid
    have : ∀ m Z p, (g_35_2 m Z a b p).1 id = Z.1 id := by
      intro m
      induction m with
      | zero => intro Z p; rfl
      | succ m ih =>
        intro Z p; rw [g_35_2]; split
        · rfl
        · rw [ih, zput_oth hid]
    unfold zt f_35; rw [this]
  unfold o_29
  rw [h104, nI_pred, if_pos hpos]
  by_cases hd : zt C 108 (nI n) = 0
  · have d1 : ¬ ¬ zt C 108 (nI n) = 0 := fun hh => hh hd
    rw [if_neg d1, if_neg d1]
    by_cases hf : (f_32 C (nI k + 1)).1 = -1
    · rw [if_pos hf, if_pos hf]
      simp only [olet]
      by_cases hg : (f_31 ((f_32 C (nI k + 1)).2) (nI n) (nI k)).1 = -1
      · have d2 : ¬ ¬ (f_31 ((f_32 C (nI k + 1)).2) (nI n) (nI k)).1 = -1 := fun hh => hh hg
        rw [if_neg d2, if_neg d2]
      · rw [if_pos hg, if_pos hg, h35 _ _ _ 104 _ (by decide)]; rfl
    · rw [if_neg hf, if_neg hf, if_pos hf]
      simp only [olet]
      rw [h35 _ _ _ 104 _ (by decide)]; rfl
  · rw [if_pos hd, if_pos hd]
end
