/-! the mathematics; written by wip/whole/m2parts.py -/
section
variable {C R : zr_Z} {N : List Nd} {pl : Nat}
theorem f44_rd (hC : CN C N) (h5 : zc C 5 = 1) : f_44 C = nI N.length := by
  unfold f_44; rw [h5, if_neg (by decide), cn_zs hC]
theorem write_both (hC : CN C N) (h5 : zc C 5 = 1) (h : RN R N pl) (hN : NOK N) (hp : pl ≤ 4500) : ∃ V, o_4 C = some (nI V.length, cset C V) ∧ o_178 R = some (nI V.length, rset (zmf R 0 0) V) ∧ V.length ≤ 18000 := by
  obtain ⟨⟨A, hA⟩, hw, hl⟩ := hN
  have h' : RN (zmf R 0 0) N pl := ⟨h.1, h.2.1, fun k nd hk => RND_keep (h.2.2 k nd hk) (fun _ _ _ => rfl) (fun _ _ => rfl) (Nat.le_refl _)⟩
  obtain ⟨V, v1, v2, v3⟩ := write_loop hC (by rw [h5]; decide) h' hA (by omega) N.length 0 [] oF oF [] (by omega) (by omega) (by unfold oF; omega) (by unfold oF; omega) List.Pairwise.nil (fun i hi => absurd hi (by simp)) trivial (by decide) (fun _ => by rw [hA.1]; exact List.suffix_refl _) (by rw [List.drop_zero]; show 0 + wN N + 0 ≤ 18000; omega)
  rw [nI_0] at v1 v2
  refine ⟨V, ?_, ?_, v3⟩
  · unfold o_4
    rw [f44_rd hC h5, if_pos (by
      intro hh
      have : ¬ nI N.length < 0 := nI_pos (by omega)
      rw [hh] at this; exact this (by decide))]
    unfold o_104
    rw [cset_cut, show (-1 : Int32) = hdI [] from rfl, v1, Option.bind_some]
    unfold zs; rw [cset_out]
  · have e : bI (decide (zf R 45 = -1)) = 0 := by
      rw [h.1, decide_eq_false (by
        intro hh
        have : ¬ nI N.length < 0 := nI_pos (by omega)
        rw [hh] at this; exact this (by decide))]; rfl
    unfold o_178
    rw [e, if_pos (by decide), ← rset_nil, show (-1 : Int32) = hdI [] from rfl, v2]
theorem write_none (h5 : zc C 5 = 0) (h : zf R 45 = -1) : f_44 C = -1 ∧ o_178 R = some (0, zmf R 0 1) := by
  constructor
  · unfold f_44; rw [if_pos h5]
  · unfold o_178; rw [h]; rfl
theorem plain_both (hC : CN C N) (h5 : zc C 5 = 1) (h : RN R N pl) (hN : NOK N) (hp : pl ≤ 4500) {j : Nat} (hj : j < N.length) : ∃ V, o_3 C (nI j) = some (nI V.length, cset C V) ∧ o_170 R (nI j) = some (nI V.length, rset (zmf R 0 0) V) ∧ V.length ≤ 18000 := by
  obtain ⟨⟨A, hA⟩, hw, hl⟩ := hN
  have h' : RN (zmf R 0 0) N pl := ⟨h.1, h.2.1, fun k nd hk => RND_keep (h.2.2 k nd hk) (fun _ _ _ => rfl) (fun _ _ => rfl) (Nat.le_refl _)⟩
  have hdb : ∀ (i : Nat) (x : Nd), N[i]? = some x → x.2.2.1 ≤ 20 := fun i x hx => by
    have := hA.2 i x hx; omega
  have hx : N[j]? = some N[j] := List.getElem?_eq_getElem hj
  generalize N[j] = x at hx
  have hb := bh_le (d := x.2.2.1) hj
  have hws : wN (slc N j (bh N j x.2.2.1)) ≤ 18000 := by
    have e1 := wN_slc N (show 0 ≤ j by omega)
    have e2 := wN_slc N (show j ≤ bh N j x.2.2.1 by omega)
    rw [List.drop_zero] at e1; omega
  refine ⟨plns false (slc N j (bh N j x.2.2.1)), ?_, ?_, by have := plns_len false (slc N j (bh N j x.2.2.1)); omega⟩
  · unfold o_3
    have e45 : f_45 C (nI j) = true := by
      unfold f_45
      rw [f44_rd hC h5, decide_eq_false (nI_pos (by omega)), decide_eq_false (by rw [nI_leI (by omega) (by omega)]; omega)]; rfl
    rw [if_pos e45]
    unfold o_103 o_109
    rw [cset_cut, c41 (cn_set hC []) hx hdb, c109_loop hC hb.2 (nI j) false (bh N j x.2.2.1 - j) j oF [] (by omega) (by unfold oF; omega) (by show 0 + _ ≤ _; omega), List.nil_append, Option.bind_some, Option.bind_some]
    unfold zs; rw [cset_out]
  · have e161 : f_161 R (nI j) = true := by
      unfold f_161
      rw [h.1, decide_eq_false (nI_pos (by omega)), decide_eq_false (by rw [nI_leI (by omega) (by omega)]; omega)]; rfl
    have e : bI (!(f_161 R (nI j))) = 0 := by rw [e161]; rfl
    unfold o_170
    have h0 : RN (zmf (zmf R 0 0) 49 0) N pl := by rw [← rset_nil]; exact rn_set h' []
    rw [e, if_pos (by decide), r168 h0 hl hx hdb, Option.bind_some, ← rset_nil]
    unfold o_169
    rw [r169_loop h' hl (by omega) hb.2 _ false (bh N j x.2.2.1 - j) j oF [] (by omega) (by unfold oF; omega) (by show 0 + _ ≤ _; omega), List.nil_append, Option.bind_some, rset_n]
theorem has_node (hC : CN C N) (h : (zc C 5 = 1 ∧ zf R 45 = nI N.length) ∨ (zc C 5 = 0 ∧ zf R 45 = -1 ∧ N = [])) (k : Int32) : (f_45 C k = false ∧ f_161 R k = false ∧ (k < 0 ∨ ∀ id ∈ nrows, zt C id k = -1)) ∨ (∃ j, j < N.length ∧ k = nI j ∧ zc C 5 = 1 ∧ f_45 C k = true ∧ f_161 R k = true) := by
  have hn := hC.2.1
  have hout : ∀ (n : Nat), (∀ id ∈ nrows, (C.1 id).length = n) → n ≤ 1500 → nI n ≤ k → ∀ id ∈ nrows, zt C id k = -1 := by
    intro n hl hn1 hk id hid
    unfold zt rat
    have hk0 : ¬ k < 0 := by
      intro hh
      have h1 := Int32.lt_iff_toInt_lt.mp hh
      have h2 := Int32.le_iff_toInt_le.mp hk
      rw [nI_toInt (by omega)] at h2
      have : (0 : Int32).toInt = 0 := rfl
      omega
    obtain ⟨i, hi, rfl⟩ := nI_of hk0
    rw [nI_leI (by omega) hi] at hk
    rw [if_neg hk0, nI_clamp hi, List.getD_eq_getElem?_getD, List.getElem?_eq_none (by rw [hl id hid]; exact hk)]; rfl
  rcases h with ⟨h5, h45⟩ | ⟨h5, h45, hN⟩
  · have e44 := f44_rd hC h5
    rcases pk_ix k (show N.length < 2 ^ 31 by omega) with g | g | ⟨j, hj, rfl⟩
    · left
      refine ⟨by unfold f_45; rw [decide_eq_true g]; rfl, by unfold f_161; rw [decide_eq_true g]; rfl, Or.inl g⟩
    · left
      refine ⟨by unfold f_45; rw [e44, decide_eq_true g, Bool.not_true, Bool.and_false], by unfold f_161; rw [h45, decide_eq_true g, Bool.not_true, Bool.and_false], Or.inr (hout N.length hC.1 hn g)⟩
    · right
      refine ⟨j, hj, rfl, h5, ?_, ?_⟩
      · unfold f_45; rw [e44, decide_eq_false (nI_pos (by omega)), decide_eq_false (by rw [nI_leI (by omega) (by omega)]; omega)]; rfl
      · unfold f_161; rw [h45, decide_eq_false (nI_pos (by omega)), decide_eq_false (by rw [nI_leI (by omega) (by omega)]; omega)]; rfl
  · left
    have e44 : f_44 C = -1 := by unfold f_44; rw [if_pos h5]
    by_cases hk : k < 0
    · exact ⟨by unfold f_45; rw [decide_eq_true hk]; rfl, by unfold f_161; rw [decide_eq_true hk]; rfl, Or.inl hk⟩
    · have h1 : (-1 : Int32) ≤ k := by
        rw [Int32.le_iff_toInt_le]
        have : ¬ k.toInt < 0 := fun hh => hk (Int32.lt_iff_toInt_lt.mpr hh)
        have : (-1 : Int32).toInt = -1 := rfl
        omega
      have h0 : nI 0 ≤ k := by
        rw [Int32.le_iff_toInt_le]
        have : ¬ k.toInt < 0 := fun hh => hk (Int32.lt_iff_toInt_lt.mpr hh)
        have : (nI 0).toInt = 0 := rfl
        omega
      refine ⟨by unfold f_45; rw [e44, decide_eq_true h1, Bool.not_true, Bool.and_false], by unfold f_161; rw [h45, decide_eq_true h1, Bool.not_true, Bool.and_false], Or.inr (hout 0 (fun id hid => by rw [hC.1 id hid, hN]; rfl) (by decide) h0)⟩
theorem plain_none {k : Int32} (h : f_161 R k = false) : o_170 R k = some (0, zmf R 0 1) := by
  unfold o_170; rw [h]; rfl
end
