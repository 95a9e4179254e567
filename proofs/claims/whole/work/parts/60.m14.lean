/-! the mathematics; written by wip/whole/m2parts.py -/
theorem zadd_row {C : zr_Z} {id : Nat} {c : Int32} (h : (C.1 id).length < zr_most id) : (zadd C id c).1 id = C.1 id ++ [c] := by
  unfold zadd radd; dsimp only; rw [mup_same, if_pos h]
theorem zadd_oth {C : zr_Z} {id j : Nat} {c : Int32} (h : ¬ j = id) : (zadd C id c).1 j = C.1 j := by
  unfold zadd; dsimp only; rw [mup_oth _ _ h]
theorem zadd_2 {C : zr_Z} {id : Nat} {c : Int32} : (zadd C id c).2 = C.2 := rfl
theorem zput_oth {C : zr_Z} {id j : Nat} {i c : Int32} (h : ¬ j = id) : (zput C id i c).1 j = C.1 j := by
  unfold zput; dsimp only; rw [mup_oth _ _ h]
theorem zput_row {C : zr_Z} {id i : Nat} {c : Int32} (h : i < 2 ^ 31) : (zput C id (nI i) c).1 id = (C.1 id).set i c := by
  unfold zput; dsimp only; rw [mup_same, rput_nI h]
theorem zcut_oth {C : zr_Z} {id j : Nat} {n : Int32} (h : ¬ j = id) : (zcut C id n).1 j = C.1 j := by
  unfold zcut; dsimp only; rw [mup_oth _ _ h]
theorem zcut_row {C : zr_Z} {id n : Nat} (h : n < 2 ^ 31) : (zcut C id (nI n)).1 id = (C.1 id).take n := by
  unfold zcut rcut; dsimp only; rw [mup_same, if_neg (nI_pos h), nI_clamp h]
theorem c37 {C : zr_Z} {n : Nat} (hn : n < 1500) (h : ∀ id ∈ [70, 72, 74, 76, 78, 80], (C.1 id).length = n) (m k a b t u : Int32) :
    (f_37 C m k a b t u).2 = C.2 ∧ (f_37 C m k a b t u).1 70 = C.1 70 ++ [m] ∧ (f_37 C m k a b t u).1 72 = C.1 72 ++ [k] ∧ (f_37 C m k a b t u).1 74 = C.1 74 ++ [a] ∧ (f_37 C m k a b t u).1 76 = C.1 76 ++ [b] ∧
    (f_37 C m k a b t u).1 78 = C.1 78 ++ [t] ∧ (f_37 C m k a b t u).1 80 = C.1 80 ++ [u] ∧ ∀ id, ¬ id ∈ [70, 72, 74, 76, 78, 80] → (f_37 C m k a b t u).1 id = C.1 id := by
  have h70 : (C.1 70).length < 1500 := by rw [h 70 (by decide)]; exact hn
  have h72 : (C.1 72).length < 1500 := by rw [h 72 (by decide)]; exact hn
  have h74 : (C.1 74).length < 1500 := by rw [h 74 (by decide)]; exact hn
  have h76 : (C.1 76).length < 1500 := by rw [h 76 (by decide)]; exact hn
  have h78 : (C.1 78).length < 1500 := by rw [h 78 (by decide)]; exact hn
  have h80 : (C.1 80).length < 1500 := by rw [h 80 (by decide)]; exact hn
  unfold f_37
  refine ⟨rfl, ?_, ?_, ?_, ?_, ?_, ?_, ?_⟩
  · rw [zadd_oth (by decide), zadd_oth (by decide), zadd_oth (by decide), zadd_oth (by decide), zadd_oth (by decide), zadd_row h70]
  · rw [zadd_oth (by decide), zadd_oth (by decide), zadd_oth (by decide), zadd_oth (by decide), zadd_row, zadd_oth (by decide)]
    rw [zadd_oth (by decide)]; exact h72
  · rw [zadd_oth (by decide), zadd_oth (by decide), zadd_oth (by decide), zadd_row, zadd_oth (by decide), zadd_oth (by decide)]
    rw [zadd_oth (by decide), zadd_oth (by decide)]; exact h74
  · rw [zadd_oth (by decide), zadd_oth (by decide), zadd_row, zadd_oth (by decide), zadd_oth (by decide), zadd_oth (by decide)]
    rw [zadd_oth (by decide), zadd_oth (by decide), zadd_oth (by decide)]; exact h76
  · rw [zadd_oth (by decide), zadd_row, zadd_oth (by decide), zadd_oth (by decide), zadd_oth (by decide), zadd_oth (by decide)]
    rw [zadd_oth (by decide), zadd_oth (by decide), zadd_oth (by decide), zadd_oth (by decide)]; exact h78
  · rw [zadd_row, zadd_oth (by decide), zadd_oth (by decide), zadd_oth (by decide), zadd_oth (by decide), zadd_oth (by decide)]
    rw [zadd_oth (by decide), zadd_oth (by decide), zadd_oth (by decide), zadd_oth (by decide), zadd_oth (by decide)]; exact h80
  · intro id hid
    simp only [List.mem_cons, List.not_mem_nil, or_false, not_or] at hid
    rw [zadd_oth hid.2.2.2.2.2, zadd_oth hid.2.2.2.2.1, zadd_oth hid.2.2.2.1, zadd_oth hid.2.2.1, zadd_oth hid.2.1, zadd_oth hid.1]
theorem c77 {C : zr_Z} {n : Nat} (hn : n < 2 ^ 31) : (f_77 C (nI n)).2 = C.2 ∧ (∀ id ∈ [91, 93, 95, 97, 99, 101], (f_77 C (nI n)).1 id = (C.1 id).take n) ∧ ∀ id, ¬ id ∈ [91, 93, 95, 97, 99, 101] → (f_77 C (nI n)).1 id = C.1 id := by
  unfold f_77
  refine ⟨rfl, ?_, ?_⟩
  · intro id hid
    simp only [List.mem_cons, List.not_mem_nil, or_false] at hid
    rcases hid with rfl | rfl | rfl | rfl | rfl | rfl
    · rw [zcut_oth (by decide), zcut_oth (by decide), zcut_oth (by decide), zcut_oth (by decide), zcut_oth (by decide), zcut_row hn]
    · rw [zcut_oth (by decide), zcut_oth (by decide), zcut_oth (by decide), zcut_oth (by decide), zcut_row hn, zcut_oth (by decide)]
    · rw [zcut_oth (by decide), zcut_oth (by decide), zcut_oth (by decide), zcut_row hn, zcut_oth (by decide), zcut_oth (by decide)]
    · rw [zcut_oth (by decide), zcut_oth (by decide), zcut_row hn, zcut_oth (by decide), zcut_oth (by decide), zcut_oth (by decide)]
    · rw [zcut_oth (by decide), zcut_row hn, zcut_oth (by decide), zcut_oth (by decide), zcut_oth (by decide), zcut_oth (by decide)]
    · rw [zcut_row hn, zcut_oth (by decide), zcut_oth (by decide), zcut_oth (by decide), zcut_oth (by decide), zcut_oth (by decide)]
  · intro id hid
    simp only [List.mem_cons, List.not_mem_nil, or_false, not_or] at hid
    rw [zcut_oth hid.2.2.2.2.2, zcut_oth hid.2.2.2.2.1, zcut_oth hid.2.2.2.1, zcut_oth hid.2.2.1, zcut_oth hid.2.1, zcut_oth hid.1]
theorem c26 {C : zr_Z} {n : Nat} (hn : n < 2 ^ 31) : (f_26 C (nI n)).2 = C.2 ∧ (∀ id ∈ [104, 106, 108, 110, 112], (f_26 C (nI n)).1 id = (C.1 id).take n) ∧ ∀ id, ¬ id ∈ [104, 106, 108, 110, 112] → (f_26 C (nI n)).1 id = C.1 id := by
  unfold f_26
  refine ⟨rfl, ?_, ?_⟩
  · intro id hid
    simp only [List.mem_cons, List.not_mem_nil, or_false] at hid
    rcases hid with rfl | rfl | rfl | rfl | rfl
    · rw [zcut_oth (by decide), zcut_oth (by decide), zcut_oth (by decide), zcut_oth (by decide), zcut_row hn]
    · rw [zcut_oth (by decide), zcut_oth (by decide), zcut_oth (by decide), zcut_row hn, zcut_oth (by decide)]
    · rw [zcut_oth (by decide), zcut_oth (by decide), zcut_row hn, zcut_oth (by decide), zcut_oth (by decide)]
    · rw [zcut_oth (by decide), zcut_row hn, zcut_oth (by decide), zcut_oth (by decide), zcut_oth (by decide)]
    · rw [zcut_row hn, zcut_oth (by decide), zcut_oth (by decide), zcut_oth (by decide), zcut_oth (by decide)]
  · intro id hid
    simp only [List.mem_cons, List.not_mem_nil, or_false, not_or] at hid
    rw [zcut_oth hid.2.2.2.2, zcut_oth hid.2.2.2.1, zcut_oth hid.2.2.1, zcut_oth hid.2.1, zcut_oth hid.1]
theorem c28 {C : zr_Z} {n : Nat} (hn : n ≤ 1500) (h104 : (C.1 104).length = n) (h108 : (C.1 108).length = n) :
    (f_28 C).2 = C.2 ∧ ((f_28 C).1 108).length = n ∧ (∀ b, b < n → ((f_28 C).1 108).getD b (-1) = if (C.1 106).getD b (-1) = 0 then 1 else (C.1 108).getD b (-1)) ∧ ∀ id, ¬ id = 108 → (f_28 C).1 id = C.1 id := by
  have loop : ∀ d i m D, i + d = n → d < m → D.2 = C.2 → (D.1 108).length = n → (∀ id, ¬ id = 108 → D.1 id = C.1 id) → (∀ b, b < n → (D.1 108).getD b (-1) = if b < i ∧ (C.1 106).getD b (-1) = 0 then 1 else (C.1 108).getD b (-1)) →
      (g_28_2 m D (nI i)).2 = C.2 ∧ ((g_28_2 m D (nI i)).1 108).length = n ∧ (∀ b, b < n → ((g_28_2 m D (nI i)).1 108).getD b (-1) = if (C.1 106).getD b (-1) = 0 then 1 else (C.1 108).getD b (-1)) ∧ ∀ id, ¬ id = 108 → (g_28_2 m D (nI i)).1 id = C.1 id := by
    intro d
    induction d with
    | zero =>
      intro i m D hi hm hD2 hlen hoth hval
      obtain ⟨m, rfl⟩ : ∃ k, m = k + 1 := ⟨m - 1, by omega⟩
      have hz : zs D 104 = nI n := by unfold zs; rw [hoth 104 (by decide), h104]
      rw [g_28_2, hz, if_pos ((nI_leI (by omega) (by omega)).mpr (by omega))]
      refine ⟨hD2, hlen, fun b hb => ?_, hoth⟩
      rw [hval b hb]
      by_cases e : (C.1 106).getD b (-1) = 0
      · rw [if_pos ⟨by omega, e⟩, if_pos e]
      · rw [if_neg (fun h => e h.2), if_neg e]
    | succ d ih =>
      intro i m D hi hm hD2 hlen hoth hval
      obtain ⟨m, rfl⟩ : ∃ k, m = k + 1 := ⟨m - 1, by omega⟩
      have hz : zs D 104 = nI n := by unfold zs; rw [hoth 104 (by decide), h104]
      have h106 : zt D 106 (nI i) = (C.1 106).getD i (-1) := by unfold zt; rw [hoth 106 (by decide), rat_mA (by omega)]; rfl
      rw [g_28_2, hz, if_neg (by rw [nI_leI (by omega) (by omega)]; omega), h106, nI_1]
      by_cases e : (C.1 106).getD i (-1) = 0
      · rw [if_neg (fun h => h e)]
        refine ih (i + 1) m (zput D 108 (nI i) 1) (by omega) (by omega) hD2 ?_ (fun id hid => by rw [zput_oth hid]; exact hoth id hid) (fun b hb => ?_)
        · rw [zput_row (by omega), List.length_set]; exact hlen
        · rw [zput_row (by omega), getD_set (by omega), hval b hb]
          by_cases eb : b = i
          · rw [if_pos eb, if_pos ⟨by omega, by rw [eb]; exact e⟩]
          · rw [if_neg eb]
            by_cases g : b < i ∧ (C.1 106).getD b (-1) = 0
            · rw [if_pos g, if_pos ⟨by omega, g.2⟩]
            · rw [if_neg g, if_neg (fun h => g ⟨by omega, h.2⟩)]
      · rw [if_pos e]
        refine ih (i + 1) m D (by omega) (by omega) hD2 hlen hoth (fun b hb => ?_)
        rw [hval b hb]
        by_cases g : b < i ∧ (C.1 106).getD b (-1) = 0
        · rw [if_pos g, if_pos ⟨by omega, g.2⟩]
        · rw [if_neg g, if_neg]
          intro h
          by_cases eb : b = i
          · rw [eb] at h; exact e h.2
          · exact g ⟨by omega, h.2⟩
  have := loop n 0 ((18000 - (0 : Int32).toInt).toNat + 1) C (by omega) (by have : (0 : Int32).toInt = 0 := rfl; omega) rfl h108 (fun _ _ => rfl) (fun b hb => by rw [if_neg (by omega)])
  unfold f_28
  rw [nI_0] at this
  exact this
