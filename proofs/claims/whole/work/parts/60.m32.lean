/-! the mathematics; written by wip/whole/m2parts.py -/
theorem zput_ldq {C : zr_Z} {id i : Nat} {x : Int32} (hi : i < (C.1 id).length) (hl : (C.1 id).length ≤ 1500) (t : Nat) : ldq (zput C id (nI i) x) id t = if t = i then x else ldq C id t := by
  unfold ldq; rw [zput_row (by omega), getD_set hi]
theorem zput_ldq_o {C : zr_Z} {id id' : Nat} {i x : Int32} (h : ¬ id' = id) (t : Nat) : ldq (zput C id i x) id' t = ldq C id' t := by
  unfold ldq; rw [zput_oth h]
theorem c74 {C : zr_Z} {N L i j ao eo ac ec n : Nat} (hN : N ≤ 1500) (hlen : ∀ id ∈ [95, 97, 99], (C.1 id).length = N) (h66 : (C.1 66).length = L) (hL : L ≤ 1500) (hij : i < j) (hj : j < N)
    (h97i : ldq C 97 i = nI eo) (h95i : ldq C 95 i = nI ao) (h95j : ldq C 95 j = nI ac) (h97j : ldq C 97 j = nI ec) (hao : ao < eo) (hac : ac < ec) (hord : eo ≤ ac) (hec : ec ≤ L) (hn : n = if eo - ao ≤ 1 ∨ ec - ac ≤ 1 then 1 else 2) :
    (f_74 C (nI i) (nI j)).2 = C.2 ∧ (∀ id, ¬ id ∈ [66, 95, 97, 99] → (f_74 C (nI i) (nI j)).1 id = C.1 id) ∧ (∀ id ∈ [66, 95, 97, 99], ((f_74 C (nI i) (nI j)).1 id).length = (C.1 id).length) ∧
    (∀ q, kd (f_74 C (nI i) (nI j)) q = if q = ac then 9 else if q = eo - n then (if n = 2 then 5 else 4) else if ac ≤ q ∧ q < ac + n then 8 else if eo - n ≤ q ∧ q < eo then 8 else kd C q) ∧ (∀ q, vl (f_74 C (nI i) (nI j)) q = vl C q) ∧
    (∀ t, ldq (f_74 C (nI i) (nI j)) 97 t = if t = i then nI (eo - n) else ldq C 97 t) ∧ (∀ t, ldq (f_74 C (nI i) (nI j)) 95 t = if t = j then nI (ac + n) else ldq C 95 t) ∧ (∀ t, t < N → ldq (f_74 C (nI i) (nI j)) 99 t = if i < t ∧ t < j then 0 else ldq C 99 t) := by
  have hn12 : n = 1 ∨ n = 2 := by rw [hn]; split <;> simp
  have hne : n ≤ eo - ao ∧ n ≤ ec - ac := by rw [hn]; split <;> omega
  have z97i : zt C 97 (nI i) = nI eo := by rw [zt_ldq C 97 (by omega)]; exact h97i
  have z95i : zt C 95 (nI i) = nI ao := by rw [zt_ldq C 95 (by omega)]; exact h95i
  have z97j : zt C 97 (nI j) = nI ec := by rw [zt_ldq C 97 (by omega)]; exact h97j
  have z95j : zt C 95 (nI j) = nI ac := by rw [zt_ldq C 95 (by omega)]; exact h95j
  have hfi : f_81 C (nI i) = nI (eo - ao) := by unfold f_81; rw [z97i, z95i, pk_sub (by omega)]
  have hfj : f_81 C (nI j) = nI (ec - ac) := by unfold f_81; rw [z97j, z95j, pk_sub (by omega)]
  have le1 : ∀ w, w ≤ 1500 → (nI w ≤ 1 ↔ w ≤ 1) := fun w hw => by rw [show (1 : Int32) = nI 1 from rfl, nI_leI (by omega) (by omega)]
  have htk : (if (f_81 C (nI i)) ≤ 1 then 1 else (if (f_81 C (nI j)) ≤ 1 then 1 else 2 : Int32) : Int32) = nI n := by
    rw [hfi, hfj, hn]
    by_cases g1 : eo - ao ≤ 1
    · rw [if_pos ((le1 _ (by omega)).mpr g1), if_pos (Or.inl g1)]; rfl
    · rw [if_neg (fun h => g1 ((le1 _ (by omega)).mp h))]
      by_cases g2 : ec - ac ≤ 1
      · rw [if_pos ((le1 _ (by omega)).mpr g2), if_pos (Or.inr g2)]; rfl
      · rw [if_neg (fun h => g2 ((le1 _ (by omega)).mp h)), if_neg (by omega)]; rfl
  have hK : (if ¬ nI n = 2 then 4 else 5 : Int32) = if n = 2 then 5 else 4 := by
    rcases hn12 with h | h <;> rw [h] <;> rfl
  unfold f_74
  rw [htk, hK, z97i, z95j, pk_sub (by omega), nI_add, nI_add, show eo - n + n = eo by omega, nI_1, nI_toInt (by omega), nI_toInt (by omega)]
  obtain ⟨a1, a2, a3⟩ := erase (C := C) (a := eo - n) (b := eo) (by omega) (by omega) (by omega)
  obtain ⟨b1, b2, b3⟩ := erase (C := f_35 C (nI (eo - n)) (nI eo)) (a := ac) (b := ac + n) (by omega) (by rw [a1.2.2.1]; omega) (by rw [a1.2.2.1]; omega)
  have ab := a1.trans b1
  generalize hE : f_35 (f_35 C (nI (eo - n)) (nI eo)) (nI ac) (nI (ac + n)) = E at *
  obtain ⟨c1, c2, c3⟩ := put66 (C := E) (p := eo - n) (by rw [ab.2.2.1]; omega) (by rw [ab.2.2.1]; omega) (if n = 2 then 5 else 4)
  have abc := ab.trans c1
  obtain ⟨d1, d2, d3⟩ := put66 (C := zput E 66 (nI (eo - n)) (if n = 2 then 5 else 4)) (p := ac) (by rw [abc.2.2.1]; omega) (by rw [abc.2.2.1]; omega) 9
  have abcd := abc.trans d1
  generalize hF : zput (zput E 66 (nI (eo - n)) (if n = 2 then 5 else 4)) 66 (nI ac) 9 = F at *
  have fk : ∀ q, kd F q = if q = ac then 9 else if q = eo - n then (if n = 2 then 5 else 4) else if ac ≤ q ∧ q < ac + n then 8 else if eo - n ≤ q ∧ q < eo then 8 else kd C q := fun q => by rw [d2, c2, b2, a2]
  have fv : ∀ q, vl F q = vl C q := fun q => by rw [d3, c3, b3, a3]
  have l97 : (F.1 97).length = N := by rw [abcd.1 97 (by decide) (by decide)]; exact hlen 97 (by decide)
  have l95 : (F.1 95).length = N := by rw [abcd.1 95 (by decide) (by decide)]; exact hlen 95 (by decide)
  have l99 : (F.1 99).length = N := by rw [abcd.1 99 (by decide) (by decide)]; exact hlen 99 (by decide)
  generalize hH : zput (zput F 97 (nI i) (nI (eo - n))) 95 (nI j) (nI (ac + n)) = H
  have hH2 : H.2 = C.2 := by rw [← hH]; exact abcd.2.1
  have hHo : ∀ id, ¬ id = 95 → ¬ id = 97 → H.1 id = F.1 id := fun id g1 g2 => by rw [← hH, zput_oth g1, zput_oth g2]
  have h97 : ∀ t, ldq H 97 t = if t = i then nI (eo - n) else ldq C 97 t := fun t => by
    rw [← hH, zput_ldq_o (by decide), zput_ldq (by omega) (by omega), ab.trans c1 |>.trans d1 |>.ldq (by decide) (by decide)]
  have h95 : ∀ t, ldq H 95 t = if t = j then nI (ac + n) else ldq C 95 t := fun t => by
    rw [← hH, zput_ldq (by rw [zput_oth (by decide)]; omega) (by rw [zput_oth (by decide)]; omega), zput_ldq_o (by decide), abcd.ldq (by decide) (by decide)]
  have len97 : (H.1 97).length = N := by rw [← hH, zput_oth (by decide), zput_row (by omega), List.length_set]; exact l97
  have len95 : (H.1 95).length = N := by rw [← hH, zput_row (by omega), List.length_set, zput_oth (by decide)]; exact l95
  have loop : ∀ d p m Z, p + d = j → d < m → i < p → Z.2 = C.2 → (∀ id, ¬ id = 99 → Z.1 id = H.1 id) → (Z.1 99).length = N → (∀ t, t < N → ldq Z 99 t = if i < t ∧ t < p then 0 else ldq C 99 t) →
      (g_74_135 m Z (nI i) (nI j) (nI p)).2 = C.2 ∧ (∀ id, ¬ id = 99 → (g_74_135 m Z (nI i) (nI j) (nI p)).1 id = H.1 id) ∧ ((g_74_135 m Z (nI i) (nI j) (nI p)).1 99).length = N ∧ (∀ t, t < N → ldq (g_74_135 m Z (nI i) (nI j) (nI p)) 99 t = if i < t ∧ t < j then 0 else ldq C 99 t) := by
    intro d
    induction d with
    | zero =>
      intro p m Z hp hm hip g1 g2 g3 g4
      obtain ⟨m, rfl⟩ : ∃ z, m = z + 1 := ⟨m - 1, by omega⟩
      obtain rfl : p = j := by omega
      rw [g_74_135, if_pos (Int32.le_refl _)]
      exact ⟨g1, g2, g3, g4⟩
    | succ d ih =>
      intro p m Z hp hm hip g1 g2 g3 g4
      obtain ⟨m, rfl⟩ : ∃ z, m = z + 1 := ⟨m - 1, by omega⟩
      rw [g_74_135, if_neg (by rw [nI_leI (by omega) (by omega)]; omega), nI_1]
      refine ih (p + 1) m _ (by omega) (by omega) (by omega) g1 (fun id hid => by rw [zput_oth hid]; exact g2 id hid) (by rw [zput_row (by omega), List.length_set]; exact g3) (fun t ht => ?_)
      rw [zput_ldq (by omega) (by omega), g4 t ht]
      by_cases e : t = p
      · have c1 : i < t ∧ t < p + 1 := by omega
        rw [if_pos e, if_pos c1]
      · rw [if_neg e]
        by_cases e2 : i < t ∧ t < p
        · have c1 : i < t ∧ t < p + 1 := by omega
          rw [if_pos e2, if_pos c1]
        · have c1 : ¬ (i < t ∧ t < p + 1) := by omega
          rw [if_neg e2, if_neg c1]
  obtain ⟨q1, q2, q3, q4⟩ := loop (j - (i + 1)) (i + 1) (((j : Int) - ((i + 1 : Nat) : Int)).toNat + 1) H (by omega) (by omega) (by omega) hH2 (fun _ _ => rfl) (by rw [hHo 99 (by decide) (by decide)]; exact l99) (fun t ht => by
    have c1 : ¬ (i < t ∧ t < i + 1) := by omega
    rw [if_neg c1]; unfold ldq; rw [hHo 99 (by decide) (by decide), abcd.1 99 (by decide) (by decide)])
  refine ⟨q1, fun id hid => ?_, fun id hid => ?_, fun q => ?_, fun q => ?_, fun t => ?_, fun t => ?_, q4⟩
  · simp only [List.mem_cons, List.not_mem_nil, or_false, not_or] at hid
    rw [q2 id hid.2.2.2, hHo id hid.2.1 hid.2.2.1]
    by_cases e : id = 68
    · -- the values stay
      subst e
      have : ∀ q, (F.1 68).getD q (-1) = (C.1 68).getD q (-1) := fv
      have hl : (F.1 68).length = (C.1 68).length := abcd.2.2.2
      refine List.ext_getElem hl (fun q g1 g2 => ?_)
      have := this q
      rw [List.getD_eq_getElem?_getD, List.getElem?_eq_getElem g1, List.getD_eq_getElem?_getD, List.getElem?_eq_getElem g2] at this
      exact this
    · exact abcd.1 id hid.1 e
  · simp only [List.mem_cons, List.not_mem_nil, or_false] at hid
    rcases hid with rfl | rfl | rfl | rfl
    · rw [q2 66 (by decide), hHo 66 (by decide) (by decide), abcd.2.2.1]
    · rw [q2 95 (by decide), len95, hlen 95 (by decide)]
    · rw [q2 97 (by decide), len97, hlen 97 (by decide)]
    · rw [q3, hlen 99 (by decide)]
  · have : kd (g_74_135 (((j : Int) - ((i + 1 : Nat) : Int)).toNat + 1) H (nI i) (nI j) (nI (i + 1))) q = kd F q := by unfold kd; rw [q2 66 (by decide), hHo 66 (by decide) (by decide)]
    rw [this]; exact fk q
  · have : vl (g_74_135 (((j : Int) - ((i + 1 : Nat) : Int)).toNat + 1) H (nI i) (nI j) (nI (i + 1))) q = vl F q := by unfold vl; rw [q2 68 (by decide), hHo 68 (by decide) (by decide)]
    rw [this]; exact fv q
  · have : ldq (g_74_135 (((j : Int) - ((i + 1 : Nat) : Int)).toNat + 1) H (nI i) (nI j) (nI (i + 1))) 97 t = ldq H 97 t := by unfold ldq; rw [q2 97 (by decide)]
    rw [this]; exact h97 t
  · have : ldq (g_74_135 (((j : Int) - ((i + 1 : Nat) : Int)).toNat + 1) H (nI i) (nI j) (nI (i + 1))) 95 t = ldq H 95 t := by unfold ldq; rw [q2 95 (by decide)]
    rw [this]; exact h95 t
