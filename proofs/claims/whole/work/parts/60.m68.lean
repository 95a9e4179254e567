/-! the mathematics; written by wip/whole/m2parts.py -/
theorem getD_rep {n i : Nat} (h : i < n) : (List.replicate n (0 : Int32)).getD i 0 = 0 := by
  rw [List.getD_eq_getElem?_getD, List.getElem?_replicate, if_pos h]; rfl
theorem REL_0 {C R : zr_Z} (h : REL C R) (x : Int32) : REL C (zmf R 0 x) := by
  obtain ⟨⟨T, D, h1⟩, h2, h3, h4, h5⟩ := h
  have hz : ∀ f, ¬ f = 0 → zf (zmf R 0 x) f = zf R f := fun f hf => zf_other R x hf
  exact ⟨⟨T, D, IT_part h1 rfl rfl rfl (fun _ _ _ => rfl) (hz 3 (by decide)) (hz 7 (by decide))⟩, RDY_keep h2 rfl (fun _ => rfl), OUTR_keep h3 rfl (fun _ => rfl) (hz 49 (by decide)), NDS_keep h4 (fun _ _ _ => rfl) rfl (fun _ _ _ => rfl) (hz 45 (by decide)) (hz 10 (by decide)), FLT_keep h5 rfl rfl (hz 46 (by decide)) (hz 47 (by decide))⟩
theorem RF_0 (R : zr_Z) (x : Int32) : RF R (zmf R 0 x) := ⟨rfl, rfl, rfl⟩
theorem RF.trans {R S U : zr_Z} (h : RF R S) (g : RF S U) : RF R U := ⟨g.1.trans h.1, g.2.1.trans h.2.1, g.2.2.trans h.2.2⟩
theorem end_both {C R : zr_Z} (h : REL C R) (m : Int32) : ∃ R', o_155 R m = some ((f_10 C m).1, R') ∧ REL (f_10 C m).2 R' ∧ (f_10 C m).2.2.2 = C.2.2 ∧ RF R R' := by
  have h' := h
  obtain ⟨⟨T, D, h1⟩, h2, h3, h4, h5⟩ := h
  have hl := h1.2.2.1.1
  have hT61 : C.1 61 = T := h1.1
  have hzs : zs C 61 = nI T.length := by unfold zs; rw [hT61]
  have hz3 : zf R 3 = nI T.length := h1.2.1.1
  have no : f_10 C m = (-1, C) → o_155 R m = some (-1, zmf R 0 0) → ∃ R', o_155 R m = some ((f_10 C m).1, R') ∧ REL (f_10 C m).2 R' ∧ (f_10 C m).2.2.2 = C.2.2 ∧ RF R R' := by
    intro e1 e2
    rw [e1, e2]; exact ⟨_, rfl, REL_0 h' 0, rfl, RF_0 R 0⟩
  by_cases m1 : m < 0
  · exact no (by unfold f_10; rw [if_pos m1]) (by unfold o_155; rw [if_pos m1])
  by_cases m2 : 20 < m
  · exact no (by unfold f_10; rw [if_neg m1, if_pos m2]) (by unfold o_155; rw [if_neg m1, if_pos m2])
  obtain ⟨mm, hmm, rfl⟩ := nI_of m1
  have hm20 : mm ≤ 20 := by
    rw [show (20 : Int32) = nI 20 from rfl, nI_ltI (by omega) hmm] at m2; omega
  have hsum : (nI T.length + nI mm ≤ 1500) ↔ T.length + mm ≤ 1500 := by
    rw [nI_add, show (1500 : Int32) = nI 1500 from rfl, nI_leI (by omega) (by omega)]
  by_cases m3 : T.length + mm ≤ 1500
  · have e1 : f_10 C (nI mm) = (nI (T.length + mm), (va_up (va_up C.1 61 (T ++ (C.1 58).take mm)) 58 (List.replicate 20 0), C.2)) := by
      have := c10_loop hm20 mm 0 (((nI mm).toInt - (0 : Int32).toInt).toNat + 1) C (by omega) (by rw [nI_toInt (by omega)]; show mm < ((mm : Int) - 0).toNat + 1; omega) h2.1 (by rw [hT61]; exact m3)
      rw [nI_0, hT61, List.drop_zero] at this
      unfold f_10
      rw [if_neg m1, if_neg m2, hzs, if_pos (hsum.mpr m3)]; exact this
    obtain ⟨R', g1, g2, g3, g4, g5, g6⟩ := r155_loop hm20 20 0 oF (zmf R 0 0) T.length (by omega) (by unfold oF; omega) ((zf_other R 0 (by decide)).trans hz3) (by omega)
    rw [nI_0, Nat.sub_zero] at g1
    have e2 : o_155 R (nI mm) = some (nI (T.length + mm), R') := by
      unfold o_155; rw [if_neg m1, if_neg m2, hz3, if_pos (hsum.mpr m3)]; exact g1
    have rj : RJ R R' [137, 138] [0, 3] := by
      refine ((RJ.refl R [137, 138] [0, 3]).zmf (by simp) 0).trans ⟨g2.1, g2.2.1, g2.2.2.1, fun f hf => g2.2.2.2.1 f (by simp at hf ⊢; exact hf.2), g2.2.2.2.2⟩
    have hz : ∀ f, ¬ f = 0 → ¬ f = 3 → zf R' f = zf R f := fun f a b => rj.2.2.2.1 f (by simp [a, b])
    have hv : ∀ j, ¬ j = 137 → ¬ j = 138 → ∀ i, rv R' j i = rv R j i := fun j a b i => rj.2.2.1 j (by simp [a, b]) i
    have hC' : ∀ id, ¬ id = 61 → ¬ id = 58 → (va_up (va_up C.1 61 (T ++ (C.1 58).take mm)) 58 (List.replicate 20 0)) id = C.1 id := fun id a b => by rw [mup_oth _ _ b, mup_oth _ _ a]
    refine ⟨R', by rw [e1, e2], ?_, by rw [e1], rj.rf⟩
    rw [e1]
    refine ⟨⟨T ++ (C.1 58).take mm, D, ?_⟩, ⟨?_, fun i hi => ?_, fun i hi => ?_⟩, OUTR_keep h3 (hC' 134 (by decide) (by decide)) (hv 172 (by decide) (by decide)) (hz 49 (by decide) (by decide)), NDS_keep h4 (fun id i1 i2 => hC' id (by omega) (by omega)) rfl (fun j hj => hv j (by omega) (by omega)) (hz 45 (by decide) (by decide)) (hz 10 (by decide) (by decide)), FLT_keep h5 rfl rfl (hz 46 (by decide) (by decide)) (hz 47 (by decide) (by decide))⟩
    · have htl : ((C.1 58).take mm).length = mm := by rw [List.length_take, h2.1]; omega
      obtain ⟨a1, a2, a3, a4, a5⟩ := h1
      obtain ⟨d1, d2, d3, d4, d5, d6, d7⟩ := a5
      refine ⟨?_, ⟨?_, fun i hi => ?_⟩, ⟨by rw [List.length_append, htl]; exact m3, fun c hc => ?_⟩, fun i hi => (hv 173 (by decide) (by decide) i).trans (a4 i hi), d1, d2, (hC' 83 (by decide) (by decide)).trans d3, (hC' 85 (by decide) (by decide)).trans d4, (hz 7 (by decide) (by decide)).trans d5, fun d hd => ?_, fun d k hd hk => ?_⟩
      · show va_up (va_up C.1 61 (T ++ (C.1 58).take mm)) 58 (List.replicate 20 0) 61 = _
        rw [mup_oth _ _ (by decide), mup_same]
      · rw [g3, List.length_append, htl, Nat.sub_zero]
      · rw [List.length_append, htl] at hi
        show rv R' 137 i = _
        by_cases hit : i < T.length
        · rw [g4 i hit, List.getD_eq_getElem?_getD, List.getElem?_append_left hit, ← List.getD_eq_getElem?_getD]
          exact a2.2 i hit
        · have := g5 (i - T.length) (by omega) (by omega)
          rw [Nat.sub_zero, show T.length + (i - T.length) = i by omega] at this
          rw [this, show rv (zmf R 0 0) 138 (i - T.length) = rv R 138 (i - T.length) from rfl, h2.2.1 _ (by omega), List.getD_eq_getElem?_getD, List.getD_eq_getElem?_getD, List.getElem?_append_right (by omega), List.getElem?_take, if_pos (by omega), List.getElem?_eq_getElem (by rw [h2.1]; omega)]; rfl
      · rcases List.mem_append.mp hc with g | g
        · exact a3.2 c g
        · obtain ⟨i, hi, rfl⟩ := List.mem_iff_getElem.mp g
          rw [htl] at hi
          rw [List.getElem_take]
          have := h2.2.2 i (by omega)
          rw [List.getD_eq_getElem?_getD, List.getElem?_eq_getElem (by rw [h2.1]; omega)] at this
          exact this
      · rw [hv 140 (by decide) (by decide)]; exact d6 d hd
      · rw [hv 139 (by decide) (by decide)]; exact d7 d k hd hk
    · show (va_up (va_up C.1 61 (T ++ (C.1 58).take mm)) 58 (List.replicate 20 0) 58).length = 20
      rw [mup_same, List.length_replicate]
    · show _ = (va_up (va_up C.1 61 (T ++ (C.1 58).take mm)) 58 (List.replicate 20 0) 58).getD i 0
      rw [mup_same, getD_rep hi, g6 i hi, if_pos (by omega)]
    · show 0 ≤ ((va_up (va_up C.1 61 (T ++ (C.1 58).take mm)) 58 (List.replicate 20 0) 58).getD i 0).toInt ∧ ((va_up (va_up C.1 61 (T ++ (C.1 58).take mm)) 58 (List.replicate 20 0) 58).getD i 0).toInt ≤ 255
      rw [mup_same, getD_rep hi]; decide
  · exact no (by unfold f_10; rw [if_neg m1, if_neg m2, hzs, if_neg (fun hh => m3 (hsum.mp hh))]) (by unfold o_155; rw [if_neg m1, if_neg m2, hz3, if_neg (fun hh => m3 (hsum.mp hh))])
theorem wipe_both {C R : zr_Z} (h : REL C R) : ∃ R', o_156 R = some R' ∧ REL (f_11 C) R' ∧ (f_11 C).2.2 = C.2.2 ∧ RF R R' := by
  obtain ⟨⟨T, D, h1⟩, h2, h3, h4, h5⟩ := h
  have hz : ∀ f, ¬ f = 0 → ¬ f = 3 → zf (zmf (zmf R 0 0) 3 0) f = zf R f := fun f a b => by rw [zf_other _ _ b, zf_other _ _ a]
  have hc : ∀ id, ¬ id = 61 → (f_11 C).1 id = C.1 id := fun id hid => mup_oth C.1 _ hid
  refine ⟨zmf (zmf R 0 0) 3 0, rfl, ⟨⟨[], D, ?_⟩, RDY_keep h2 (hc 58 (by decide)) (fun _ => rfl), OUTR_keep h3 (hc 134 (by decide)) (fun _ => rfl) (hz 49 (by decide) (by decide)), NDS_keep h4 (fun id i1 i2 => hc id (by omega)) rfl (fun _ _ _ => rfl) (hz 45 (by decide) (by decide)) (hz 10 (by decide) (by decide)), FLT_keep h5 rfl rfl (hz 46 (by decide) (by decide)) (hz 47 (by decide) (by decide))⟩, rfl, ⟨rfl, rfl, rfl⟩⟩
  obtain ⟨a1, a2, a3, a4, a5⟩ := h1
  obtain ⟨d1, d2, d3, d4, d5, d6, d7⟩ := a5
  refine ⟨?_, ⟨zf_same _ _ _, fun i hi => absurd hi (by simp)⟩, ⟨by decide, fun c hc => absurd hc (by simp)⟩, a4, d1, d2, (hc 83 (by decide)).trans d3, (hc 85 (by decide)).trans d4, (hz 7 (by decide) (by decide)).trans d5, d6, d7⟩
  show va_up C.1 61 (rcut (C.1 61) 0) 61 = []
  rw [mup_same, row_cut0]
theorem drop_both {C R : zr_Z} (h : REL C R) : ∃ R', o_158 R = some R' ∧ REL (f_13 C) R' ∧ (f_13 C).2.2 = C.2.2 ∧ RF R R' := by
  obtain ⟨⟨T, D, h1⟩, h2, h3, h4, h5⟩ := h
  have hz : ∀ f, ¬ f = 0 → ¬ f = 7 → zf (zmf (zmf R 0 0) 7 0) f = zf R f := fun f a b => by rw [zf_other _ _ b, zf_other _ _ a]
  have e : f_13 C = (va_up (va_up C.1 83 []) 85 [], C.2) := by
    unfold f_13 f_18 zcut; dsimp only; rw [row_cut0, row_cut0]
  rw [e]
  have hc : ∀ id, ¬ id = 83 → ¬ id = 85 → (va_up (va_up C.1 83 ([] : List Int32)) 85 []) id = C.1 id := fun id a b => by rw [mup_oth _ _ b, mup_oth _ _ a]
  refine ⟨zmf (zmf R 0 0) 7 0, rfl, ⟨⟨T, [], ?_⟩, RDY_keep h2 (hc 58 (by decide) (by decide)) (fun _ => rfl), OUTR_keep h3 (hc 134 (by decide) (by decide)) (fun _ => rfl) (hz 49 (by decide) (by decide)), NDS_keep h4 (fun id i1 i2 => hc id (by omega) (by omega)) rfl (fun _ _ _ => rfl) (hz 45 (by decide) (by decide)) (hz 10 (by decide) (by decide)), FLT_keep h5 rfl rfl (hz 46 (by decide) (by decide)) (hz 47 (by decide) (by decide))⟩, rfl, ⟨rfl, rfl, rfl⟩⟩
  obtain ⟨a1, a2, a3, a4, a5⟩ := h1
  refine ⟨(hc 61 (by decide) (by decide)).trans a1, ⟨(hz 3 (by decide) (by decide)).trans a2.1, a2.2⟩, a3, a4, by decide, fun w hw => absurd hw (by simp), ?_, ?_, zf_same _ _ _, fun d hd => absurd hd (by simp), fun d k hd => absurd hd (by simp)⟩
  · show va_up (va_up C.1 83 ([] : List Int32)) 85 [] 83 = _
    rw [mup_oth _ _ (by decide), mup_same]; rfl
  · show va_up (va_up C.1 83 ([] : List Int32)) 85 [] 85 = _
    rw [mup_same]; rfl
theorem fault_both {C R : zr_Z} (h : REL C R) (wh : Int32) : ∃ R', o_160 R wh = some (f_15 C wh, R') ∧ REL C R' ∧ RF R R' := by
  refine ⟨zmf R 0 0, ?_, REL_0 h 0, RF_0 R 0⟩
  unfold o_160 f_15
  rw [← h.2.2.2.2.1, ← h.2.2.2.2.2]
  by_cases h0 : wh = 0
  · rw [if_neg (fun hh => hh h0), if_pos h0]
  · rw [if_pos h0, if_neg h0]
    by_cases h1 : wh = 1
    · rw [if_neg (fun hh => hh h1), if_pos h1]
    · rw [if_pos h1, if_neg h1]
theorem about_both {C R : zr_Z} (h : REL C R) (wh : Int32) : ∃ R', o_180 R wh = some (f_6 C wh, R') ∧ REL C R' ∧ RF R R' := by
  refine ⟨zmf R 0 0, ?_, REL_0 h 0, RF_0 R 0⟩
  obtain ⟨⟨T, D, h1⟩, h2, h3, h4, h5⟩ := h
  have e0 : zf R 3 = zs C 61 := by unfold zs; rw [show C.1 61 = T from h1.1]; exact h1.2.1.1
  have e1 : zf R 7 = f_17 C := by
    obtain ⟨d1, d2, d3, d4, d5, d6, d7⟩ := h1.2.2.2.2
    have hd : ∀ (D : List (List Int32)) s, (dends s D).length = D.length := by
      intro D
      induction D with
      | nil => intro s; rfl
      | cons w D ih => intro s; rw [dends, List.length_cons, List.length_cons, ih]
    unfold f_17 zs; rw [d4, hd]; exact d5
  have e2 : zf R 45 = f_44 C := by
    obtain ⟨N, pl, n1, n2⟩ := h4
    rcases n2 with ⟨a, b, -⟩ | ⟨a, b, -⟩
    · rw [f44_rd n1 a]; exact b.1
    · unfold f_44; rw [if_pos a]; exact b
  have e3 : zf R 49 = zs C 134 := h3.2.1
  unfold o_180 f_6
  rw [e0, e1, e2, e3]
  by_cases h0 : wh = 0
  · rw [if_pos h0, if_pos h0]
  rw [if_neg h0, if_neg h0]
  by_cases h1 : wh = 1
  · rw [if_pos h1, if_pos h1]
  rw [if_neg h1, if_neg h1]
  by_cases h2 : wh = 2
  · rw [if_pos h2, if_pos h2]
  rw [if_neg h2, if_neg h2]
  by_cases h3 : wh = 3
  · rw [if_pos h3, if_pos h3]
  rw [if_neg h3, if_neg h3]
theorem output_both {C R : zr_Z} (h : REL C R) (i : Int32) : ∃ R', o_179 R i = some (f_5 C i, R') ∧ REL C R' ∧ RF R R' := by
  refine ⟨zmf R 0 0, ?_, REL_0 h 0, RF_0 R 0⟩
  obtain ⟨h1, h2, h3⟩ := h.2.2.1
  unfold o_179 f_5
  rw [h2]
  have hcond : (if i < 0 then True else (if nI (C.1 134).length ≤ i then True else (inq 172 i ∧ True))) := by
    by_cases hi : i < 0
    · rw [if_pos hi]; trivial
    · rw [if_neg hi]
      by_cases g : nI (C.1 134).length ≤ i
      · rw [if_pos g]; trivial
      · rw [if_neg g]
        obtain ⟨j, hj, rfl⟩ := nI_of hi
        rw [nI_leI (by omega) hj] at g
        exact ⟨inq_nI (j := 172) (show j < 30000 by omega) (by omega), trivial⟩
  rw [if_pos hcond]
  rcases pk_ix i (show (C.1 134).length < 2 ^ 31 by omega) with g | g | ⟨j, hj, rfl⟩
  · rw [if_pos g]
    unfold zt rat; rw [if_pos g]
  · by_cases hi : i < 0
    · rw [if_pos hi]; unfold zt rat; rw [if_pos hi]
    · rw [if_neg hi, if_pos g]
      obtain ⟨j, hj, rfl⟩ := nI_of hi
      rw [nI_leI (by omega) hj] at g
      rw [zt_ldq _ _ hj, ldq_eq, List.getD_eq_getElem?_getD, List.getElem?_eq_none (by omega)]; rfl
  · have n0 : ¬ nI j < 0 := nI_pos (by omega)
    have nl : ¬ nI (C.1 134).length ≤ nI j := by rw [nI_leI (by omega) (by omega)]; omega
    rw [if_neg n0, if_neg nl, zv_nI R _ (by omega), h3 j hj, zt_ldq _ _ (by omega), ldq_eq, List.getD_eq_getElem?_getD, List.getD_eq_getElem?_getD, List.getElem?_eq_getElem hj]; rfl
theorem nds_cases {C R : zr_Z} {N : List Nd} {pl : Nat} (h : (zc C 5 = 1 ∧ RN R N pl ∧ NOK N ∧ pl ≤ 4500) ∨ (zc C 5 = 0 ∧ zf R 45 = -1 ∧ N = [])) : (zc C 5 = 1 ∧ zf R 45 = nI N.length) ∨ (zc C 5 = 0 ∧ zf R 45 = -1 ∧ N = []) := by
  rcases h with ⟨a, b, -⟩ | g
  · exact Or.inl ⟨a, b.1⟩
  · exact Or.inr g
theorem zt_neg {C : zr_Z} {id : Nat} {k : Int32} (h : k < 0) : zt C id k = -1 := by unfold zt rat; rw [if_pos h]
theorem node_both {C R : zr_Z} (h : REL C R) (k wh : Int32) : ∃ R', o_162 R k wh = some (f_1 C k wh, R') ∧ REL C R' ∧ RF R R' := by
  refine ⟨zmf R 0 0, ?_, REL_0 h 0, RF_0 R 0⟩
  obtain ⟨N, pl, n1, n2⟩ := h.2.2.2.1
  have e161 : f_161 (zmf R 0 0) k = f_161 R k := by unfold f_161; rw [zf_other _ _ (by decide)]
  unfold o_162 f_1 f_39
  rw [e161]
  rcases has_node n1 (nds_cases n2) k with ⟨a, b, c⟩ | ⟨j, hj, rfl, h5, a, b⟩
  · have hm : ∀ id ∈ nrows, zt C id k = -1 := fun id hid => by
      rcases c with g | g
      · exact zt_neg g
      · exact g id hid
    rw [b, if_neg (by decide), hm 115 (by simp [nrows]), hm 117 (by simp [nrows]), hm 123 (by simp [nrows]), hm 127 (by simp [nrows]), hm 129 (by simp [nrows]), hm 119 (by simp [nrows])]
    simp only [ite_self]
  · rcases n2 with ⟨-, hr, hN, hp⟩ | g
    · have hx : N[j]? = some N[j] := List.getElem?_eq_getElem hj
      generalize N[j] = x at hx
      obtain ⟨c0, c1, c2, c3, c4, c5, c6, c7, c8⟩ := cn_tell n1 hx
      obtain ⟨t1, t2, t3, t4, t5, t6, t7, t8⟩ := rn_tell hr hx hN.2.2
      rw [b, if_pos rfl, c1, c2, c3, c4, c5, c6, t3, t4, t5, t6, t7, t8]
      by_cases w0 : wh = 0
      · rw [if_pos w0, if_pos w0, if_pos (t2 164 (by omega) (by omega))]
      rw [if_neg w0, if_neg w0]
      by_cases w1 : wh = 1
      · rw [if_pos w1, if_pos w1, if_pos (t2 165 (by omega) (by omega))]
      rw [if_neg w1, if_neg w1]
      by_cases w2 : wh = 2
      · rw [if_pos w2, if_pos w2, if_pos (t2 167 (by omega) (by omega))]
      rw [if_neg w2, if_neg w2]
      by_cases w3 : wh = 3
      · rw [if_pos w3, if_pos w3, if_pos (t2 169 (by omega) (by omega))]
      rw [if_neg w3, if_neg w3]
      by_cases w4 : wh = 4
      · rw [if_pos w4, if_pos w4, if_pos (t2 170 (by omega) (by omega))]
      rw [if_neg w4, if_neg w4]
      by_cases w5 : wh = 5
      · rw [if_pos w5, if_pos w5, if_pos (t2 171 (by omega) (by omega))]
      rw [if_neg w5, if_neg w5]
    · rw [g.2.2] at hj; exact absurd hj (by simp)
theorem letter_both {C R : zr_Z} (h : REL C R) (k : Int32) (ti : Bool) (i : Int32) : ∃ R', o_163 R k ti i = some (f_2 C k ti i, R') ∧ REL C R' ∧ RF R R' := by
  refine ⟨zmf R 0 0, ?_, REL_0 h 0, RF_0 R 0⟩
  obtain ⟨N, pl, n1, n2⟩ := h.2.2.2.1
  have e161 : f_161 (zmf R 0 0) k = f_161 R k := by unfold f_161; rw [zf_other _ _ (by decide)]
  unfold o_163 f_2
  rw [e161]
  rcases has_node n1 (nds_cases n2) k with ⟨a, b, c⟩ | ⟨j, hj, rfl, h5, a, b⟩
  · have hm : ∀ id ∈ nrows, zt C id k = -1 := fun id hid => by
      rcases c with g | g
      · exact zt_neg g
      · exact g id hid
    have e : f_40 C k ti i = -1 := by
      unfold f_40
      rw [hm 127 (by simp [nrows]), hm 123 (by simp [nrows]), ite_self]
      by_cases hi : i < 0
      · rw [if_pos hi]
      · rw [if_neg hi, if_neg (by
          intro hh
          have h1 := Int32.lt_iff_toInt_lt.mp hh
          have : ¬ i.toInt < 0 := fun hh => hi (Int32.lt_iff_toInt_lt.mpr hh)
          have : (-1 : Int32).toInt = -1 := rfl
          omega)]
    rw [b, if_neg (by decide), e]
  · rcases n2 with ⟨-, hr, hN, hp⟩ | g
    · have hx : N[j]? = some N[j] := List.getElem?_eq_getElem hj
      generalize N[j] = x at hx
      obtain ⟨c0, c1, c2, c3, c4, c5, c6, c7, c8⟩ := cn_tell n1 hx
      obtain ⟨t1, t2, t3, t4, t5, t6, t7, t8⟩ := rn_tell hr hx hN.2.2
      obtain ⟨f, f1, f2, f3⟩ := rn_text hr hx hN.2.2 (by omega) ti
      have hl : (if ti = true then zv R 169 (nI j) else zv R 167 (nI j)) = nI (if ti = true then x.2.2.2.2.1 else x.2.2.2.1).length := by
        cases ti with
        | false => rw [if_neg (by decide), if_neg (by decide), t7]
        | true => rw [if_pos rfl, if_pos rfl, t8]
      have hlc : (if ti = true then zt C 127 (nI j) else zt C 123 (nI j)) = nI (if ti = true then x.2.2.2.2.1 else x.2.2.2.1).length := by
        cases ti with
        | false => rw [if_neg (by decide), if_neg (by decide), c5]
        | true => rw [if_pos rfl, if_pos rfl, c6]
      have hb : (if ti = true then x.2.2.2.2.1 else x.2.2.2.1).length ≤ 3900 := by
        cases ti with
        | false => exact c7
        | true => exact c8
      have q1 : (if ti = true then (inq 169 (nI j) ∧ True) else (inq 167 (nI j) ∧ True)) := by
        cases ti with
        | false => exact ⟨t2 167 (by omega) (by omega), trivial⟩
        | true => exact ⟨t2 169 (by omega) (by omega), trivial⟩
      have q2 : (if ti = true then (inq 168 (nI j) ∧ True) else (inq 166 (nI j) ∧ True)) := by
        cases ti with
        | false => exact ⟨t2 166 (by omega) (by omega), trivial⟩
        | true => exact ⟨t2 168 (by omega) (by omega), trivial⟩
      rw [b, if_pos rfl]
      by_cases hi : i < 0
      · rw [if_pos hi]; unfold f_40; rw [if_pos hi]
      rw [if_neg hi, if_pos q1, hl]
      obtain ⟨u, hu, rfl⟩ := nI_of hi
      by_cases hlt : u < (if ti = true then x.2.2.2.2.1 else x.2.2.2.1).length
      · rw [if_pos ((nI_ltI (by omega) (by omega)).mpr hlt), if_pos q2, f1, if_pos (by rw [nI_add]; exact inq_nI (j := 142) (show f + u < 20000 by omega) (by omega)), f3 u hlt, c40 n1 hx ti hlt]
      · rw [if_neg (by rw [nI_ltI (by omega) (by omega)]; exact hlt)]
        unfold f_40
        rw [if_neg hi, hlc, if_neg (by rw [nI_ltI (by omega) (by omega)]; exact hlt)]
    · rw [g.2.2] at hj; exact absurd hj (by simp)
