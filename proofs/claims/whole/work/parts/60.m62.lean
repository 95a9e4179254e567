/-! the mathematics; written by wip/whole/m2parts.py -/
theorem kinds8 {z : Int32} (h7 : 0 ≤ z ∧ z ≤ 7) : z = 0 ∨ z = 1 ∨ z = 2 ∨ z = 3 ∨ z = 4 ∨ z = 5 ∨ z = 6 ∨ z = 7 := by
  obtain ⟨j, hj, rfl⟩ := nI_of (x := z) (by intro hh; have := Int32.lt_iff_toInt_lt.mp hh; have := Int32.le_iff_toInt_le.mp h7.1; omega)
  have h8 : nI j ≤ nI 7 := h7.2
  rw [nI_leI hj (by decide)] at h8
  have : j = 0 ∨ j = 1 ∨ j = 2 ∨ j = 3 ∨ j = 4 ∨ j = 5 ∨ j = 6 ∨ j = 7 := by omega
  rcases this with g | g | g | g | g | g | g | g <;> rw [g] <;> decide
section
variable {R : zr_Z} {N : List Nd} {pl k : Nat} {nd : Nd} {W : List Int32}
theorem r175 (h : RN R N pl) (hk : N[k]? = some nd) (hn : N.length ≤ 1500) (hp : pl ≤ 19000) (hdb : ∀ (i : Nat) (x : Nd), N[i]? = some x → x.2.2.1 ≤ 20) (h7 : 0 ≤ nd.1 ∧ nd.1 ≤ 7) (hW : W.length + wnd nd + (if nd.1 = 7 then wN (slc N (k + 1) (bh N k nd.2.2.1)) else 0) ≤ 18000) :
    o_175 (rset R W) (nI k) = some (rset R (W ++ opn nd (altN N k nd))) := by
  obtain ⟨t1, t2, t3, t4, t5, t6, t7, t8⟩ := rn_tell h hk hn
  have hkl := (List.getElem?_eq_some_iff.mp hk).1
  have hq : ∀ j, 164 ≤ j → j ≤ 171 → inq j (nI k) := t2
  have hzv : ∀ (V : List Int32) (j : Nat), ¬ j = 172 → zv (rset R V) j (nI k) = zv R j (nI k) := fun V j hj => rset_zv R V hj _
  have one : ∀ (V : List Int32) (x : Int32), V.length < 30000 → o_164 (rset R V) x = some (rset R (V ++ [x])) := fun V x hV => r164 R x hV
  have lng : ∀ (V : List Int32) (v : Int64), fin8 8 v = true → V.length + 8 ≤ 30000 → o_171 (rset R V) v = some (rset R (V ++ dec8 8 v)) := fun V v h1 h2 => r171 R v h1 h2
  have txt : ∀ V : List Int32, V.length + csts nd.2.2.2.1 ≤ 20000 → o_167 (rset R V) (zv R 166 (nI k)) (nI nd.2.2.2.1.length) = some (rset R (V ++ escs true nd.2.2.2.1)) := by
    intro V hV
    have := r167 (W := V) h hk hn hp false (by rw [if_neg (by decide)]; exact hV)
    rw [if_neg (by decide), if_neg (by decide)] at this; exact this
  unfold o_175
  rw [if_pos (hq 164 (by omega) (by omega)), hzv W 164 (by decide), t3]
  rcases kinds8 h7 with g | g | g | g | g | g | g | g
  · have hw : wnd nd = csts nd.2.2.2.1 := by unfold wnd; rw [if_pos g]
    have ho : opn nd (altN N k nd) = escs true nd.2.2.2.1 := by unfold opn; rw [if_pos g]
    rw [ho, if_pos g, if_pos (hq 166 (by omega) (by omega)), if_pos (hq 167 (by omega) (by omega)), hzv W 166 (by decide), hzv W 167 (by decide), t7, txt W (by omega), Option.bind_some]
  · have hw : wnd nd = 1 := by unfold wnd; rw [g]; simp +decide only [reduceIte]
    have ho : opn nd (altN N k nd) = wbt 15 := by unfold opn; rw [g]; simp +decide only [reduceIte]
    rw [ho, g, if_neg (by decide), if_pos rfl, one W _ (by omega), Option.bind_some]; rfl
  · have hw : wnd nd = 6 := by unfold wnd; rw [g]; simp +decide only [reduceIte]
    have ho : opn nd (altN N k nd) = wbt 16 := by unfold opn; rw [g]; simp +decide only [reduceIte]
    rw [ho, g, if_neg (by decide), if_neg (by decide), if_pos rfl, lng W _ (by decide) (by omega), Option.bind_some, show dec8 8 11262200275516 = wbt 16 by decide]
  · have hw : wnd nd = 13 + csts nd.2.2.2.1 := by unfold wnd; rw [g]; simp +decide only [reduceIte]
    have ho : opn nd (altN N k nd) = wbt 17 ++ (escs true nd.2.2.2.1 ++ wbt 18) := by unfold opn; rw [g]; simp +decide only [reduceIte]
    have e17 : (wbt 17).length = 6 := rfl
    have := escs_len true nd.2.2.2.1
    rw [ho, g, if_neg (by decide), if_neg (by decide), if_neg (by decide), if_pos rfl, lng W _ (by decide) (by omega), Option.bind_some, show dec8 8 68605197640508 = wbt 17 by decide, if_pos (hq 166 (by omega) (by omega)), if_pos (hq 167 (by omega) (by omega)), hzv _ 166 (by decide), hzv _ 167 (by decide), t7,
      txt _ (by rw [List.length_append]; omega), Option.bind_some, lng _ _ (by decide) (by rw [List.length_append, List.length_append]; omega), Option.bind_some, show dec8 8 17562930595966780 = wbt 18 by decide, List.append_assoc, List.append_assoc]
  · have hw : wnd nd = 9 := by unfold wnd; rw [g]; simp +decide only [reduceIte]
    have ho : opn nd (altN N k nd) = wbt 19 := by unfold opn; rw [g]; simp +decide only [reduceIte]
    rw [ho, g, if_neg (by decide), if_neg (by decide), if_neg (by decide), if_neg (by decide), if_pos rfl, lng W _ (by decide) (by omega), Option.bind_some, show dec8 8 1047356732 = wbt 19 by decide]
  · have hw : wnd nd = 17 := by unfold wnd; rw [g]; simp +decide only [reduceIte]
    have ho : opn nd (altN N k nd) = wbt 20 := by unfold opn; rw [g]; simp +decide only [reduceIte]
    rw [ho, g, if_neg (by decide), if_neg (by decide), if_neg (by decide), if_neg (by decide), if_neg (by decide), if_pos rfl, lng W _ (by decide) (by omega), Option.bind_some, show dec8 8 4496684177893389116 = wbt 20 by decide]
  · have hw : wnd nd = 23 + csts nd.2.2.2.1 + (if nd.2.2.2.2.1 = [] then 0 else 9 + csts nd.2.2.2.2.1) := by unfold wnd; rw [g]; simp +decide only [reduceIte]
    have ho : opn nd (altN N k nd) = wbt 21 ++ (tgt nd ++ (ttl nd ++ wbt 23)) := by unfold opn; rw [g]; simp +decide only [reduceIte]
    have ht := tgt_len nd
    have hl := ttl_len nd
    have hr := ttr_len nd
    have e1 : (dec8 8 4424335225985720636).length = 8 := by decide
    have e2 : dec8 8 4424335225985720636 ++ [34] = wbt 21 := by decide
    have e21 : (wbt 21).length = 9 := rfl
    have l34 : ([34] : List Int32).length = 1 := rfl
    rw [ho, g, if_neg (by decide), if_neg (by decide), if_neg (by decide), if_neg (by decide), if_neg (by decide), if_neg (by decide), if_pos rfl, lng W _ (by decide) (by omega), Option.bind_some, one _ _ (by rw [List.length_append, e1]; omega), Option.bind_some, List.append_assoc, e2,
      r173 h hk hn hp (by rw [List.length_append, e21]; omega), Option.bind_some, r174 h hk hn hp (by rw [List.length_append, List.length_append, List.length_append, e21, l34]; omega), Option.bind_some, one _ _ (by rw [List.length_append, List.length_append, List.length_append, List.length_append, e21, l34]; omega), Option.bind_some]
    congr 2
    rw [List.append_assoc, List.append_assoc, List.append_assoc, List.append_assoc, ← List.append_assoc [34], ttr_eq, List.append_assoc]; rfl
  · have hw : wnd nd = 23 + csts nd.2.2.2.1 + (if nd.2.2.2.2.1 = [] then 0 else 9 + csts nd.2.2.2.2.1) := by unfold wnd; rw [g]; simp +decide only [reduceIte]
    have ho : opn nd (altN N k nd) = wbt 24 ++ (tgt nd ++ (wbt 25 ++ (altN N k nd ++ (ttl nd ++ wbt 26)))) := by unfold opn; rw [g]; simp +decide only [reduceIte]
    rw [if_pos g] at hW
    have ht := tgt_len nd
    have hl := ttl_len nd
    have hr := ttr_len nd
    have ha := plns_len true (slc N (k + 1) (bh N k nd.2.2.1))
    have hb := bh_le (d := nd.2.2.1) hkl
    have l34 : ([34] : List Int32).length = 1 := rfl
    have e1 : (dec8 8 139174177084).length = 5 := by decide
    have e2 : dec8 8 139174177084 ++ dec8 8 147058815603 = wbt 24 := by decide
    have e24 : (wbt 24).length = 10 := rfl
    have e3 : (dec8 8 37647341609248).length = 6 := by decide
    have e4 : [34] ++ dec8 8 37647341609248 = wbt 25 := by decide
    have e5 : [34] ++ dec8 8 15919 = wbt 26 := by decide
    have e169 : ∀ V : List Int32, V.length + wN (slc N (k + 1) (bh N k nd.2.2.1)) ≤ 18000 → o_169 (rset R V) (nI k + 1) (nI (bh N k nd.2.2.1)) true = some (rset R (V ++ altN N k nd)) := by
      intro V hV
      unfold o_169
      rw [nI_1]
      exact r169_loop h hn hp hb.2 _ true (bh N k nd.2.2.1 - (k + 1)) (k + 1) oF V (by omega) (by unfold oF; omega) hV
    have e168 : ∀ V : List Int32, o_168 (rset R V) (nI k) = some (nI (bh N k nd.2.2.1)) := fun V => r168 (rn_set h V) hn hk hdb
    rw [ho, g, if_neg (by decide), if_neg (by decide), if_neg (by decide), if_neg (by decide), if_neg (by decide), if_neg (by decide), if_neg (by decide), lng W _ (by decide) (by omega), Option.bind_some, lng _ _ (by decide) (by rw [List.length_append, e1]; omega), Option.bind_some, List.append_assoc, e2,
      r173 h hk hn hp (by rw [List.length_append, e24]; omega), Option.bind_some, lng _ _ (by decide) (by rw [List.length_append, List.length_append, List.length_append, e24, l34]; omega), Option.bind_some, e168, Option.bind_some,
      e169 _ (by rw [List.length_append, List.length_append, List.length_append, List.length_append, e24, l34, e3]; omega), Option.bind_some, one _ _ (by rw [List.length_append, List.length_append, List.length_append, List.length_append, List.length_append, e24, l34, e3]; unfold altN; omega), Option.bind_some,
      r174 h hk hn hp (by rw [List.length_append, List.length_append, List.length_append, List.length_append, List.length_append, List.length_append, e24, l34, e3]; unfold altN; omega), Option.bind_some, lng _ _ (by decide) (by rw [List.length_append, List.length_append, List.length_append, List.length_append, List.length_append, List.length_append, List.length_append, e24, l34, e3]; unfold altN; omega), Option.bind_some]
    congr 2
    simp only [List.append_assoc]
    rw [← e4, ← e5]
    have := ttr_eq nd
    simp only [List.append_assoc]
    rw [← List.append_assoc [34] (ttr nd), this, List.append_assoc]
theorem r177 (h : RN R N pl) (hk : N[k]? = some nd) (hn : N.length ≤ 1500) (hW : W.length + 16 ≤ 30000) : o_177 (rset R W) (nI k) = some (rset R (W ++ cls nd)) := by
  obtain ⟨t1, t2, t3, t4, t5, t6, t7, t8⟩ := rn_tell h hk hn
  have lng : ∀ (V : List Int32) (v : Int64), fin8 8 v = true → V.length + 8 ≤ 30000 → o_171 (rset R V) v = some (rset R (V ++ dec8 8 v)) := fun V v h1 h2 => r171 R v h1 h2
  unfold o_177 cls
  rw [if_pos (t2 164 (by omega) (by omega)), rset_zv R W (by decide), t3]
  by_cases h4 : nd.1 = 4
  · rw [if_pos h4, if_pos h4, lng W _ (by decide) (by omega), Option.bind_some, show dec8 8 268123320124 = wbt 12 by decide]
  rw [if_neg h4, if_neg h4]
  by_cases h5 : nd.1 = 5
  · rw [if_pos h5, if_pos h5, lng W _ (by decide) (by omega), Option.bind_some, lng _ _ (by decide) (by rw [List.length_append, show (dec8 8 122537370660668).length = 6 by decide]; omega), Option.bind_some, List.append_assoc, show dec8 8 122537370660668 ++ dec8 8 4089710 = wbt 13 by decide]
  rw [if_neg h5, if_neg h5]
  by_cases h6 : nd.1 = 6
  · rw [if_pos h6, if_pos h6, lng W _ (by decide) (by omega), Option.bind_some, show dec8 8 1046556476 = wbt 14 by decide]
  · rw [if_neg h6, if_neg h6, List.append_nil]
end
