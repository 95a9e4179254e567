/-! the mathematics; written by wip/whole/m2parts.py -/
theorem sp_lock {C R : zr_Z} {T : List Int32} (hC : mC C T) (hR : mR R T) (hT : gT T) (p k : Int32) :
    ∀ d i n m, i + d = T.length → d < n → d < m → ∃ e, i ≤ e ∧ e ≤ T.length ∧ ¬ mA T e = 32 ∧ (∀ j, i ≤ j → j < e → mA T j = 32) ∧ g_95 n C p (nI i) = nI e ∧ g_114_33 m R k (nI i) = some (nI e) ∧
      g_114_2 m R k (nI i) = if mA T e = 10 then g_114_33 oF R k (nI (e + 1)) else some (nI e) := by
  have hl := hT.1
  have hS := hR.sk hT
  intro d
  induction d with
  | zero =>
    intro i n m hi hn hm
    obtain ⟨n, rfl⟩ : ∃ n', n = n' + 1 := ⟨n - 1, by omega⟩
    obtain ⟨m, rfl⟩ : ∃ n', m = n' + 1 := ⟨m - 1, by omega⟩
    have ha : mA T i = -1 := mA_out (by omega)
    have h32 : ¬ mA T i = 32 := by rw [ha]; decide
    refine ⟨i, Nat.le_refl _, by omega, h32, fun j _ _ => by omega, ?_, ?_, ?_⟩
    · simp (disch := omega) only [g_95, hC.sz, nI_leI]; rw [if_pos (by omega)]
    · simp (disch := omega) only [g_114_33, if_pos hS, hR.at hT, h32, not_false_eq_true, if_true]
    · simp (disch := omega) only [g_114_2, if_pos hS, hR.at hT, h32, not_false_eq_true, if_true, nI_1]
  | succ d ih =>
    intro i n m hi hn hm
    obtain ⟨n, rfl⟩ : ∃ n', n = n' + 1 := ⟨n - 1, by omega⟩
    obtain ⟨m, rfl⟩ : ∃ n', m = n' + 1 := ⟨m - 1, by omega⟩
    by_cases h32 : mA T i = 32
    · obtain ⟨e, h1, h2, h3, h4, h5, h6, h7⟩ := ih (i + 1) n m (by omega) (by omega) (by omega)
      refine ⟨e, by omega, h2, h3, fun j hj hje => ?_, ?_, ?_, ?_⟩
      · by_cases hji : j = i
        · rw [hji]; exact h32
        · exact h4 j (by omega) hje
      · simp (disch := omega) only [g_95, hC.sz, nI_leI, hC.at, h32, not_true_eq_false, if_false, nI_1]; rw [if_neg (by omega)]; exact h5
      · simp (disch := omega) only [g_114_33, if_pos hS, hR.at hT, h32, not_true_eq_false, if_false, nI_1]; exact h6
      · simp (disch := omega) only [g_114_2, if_pos hS, hR.at hT, h32, not_true_eq_false, if_false, nI_1]; exact h7
    · refine ⟨i, Nat.le_refl _, by omega, h32, fun j _ _ => by omega, ?_, ?_, ?_⟩
      · simp (disch := omega) only [g_95, hC.sz, nI_leI, hC.at, h32, not_false_eq_true, if_true, ite_self]
      · simp (disch := omega) only [g_114_33, if_pos hS, hR.at hT, h32, not_false_eq_true, if_true]
      · simp (disch := omega) only [g_114_2, if_pos hS, hR.at hT, h32, not_false_eq_true, if_true, nI_1]
theorem gap_lock {C R : zr_Z} {T : List Int32} (hC : mC C T) (hR : mR R T) (hT : gT T) {i : Nat} (hi : i ≤ T.length) :
    ∃ e, i ≤ e ∧ e ≤ T.length ∧ f_94 C (nI i) = nI e ∧ o_114 R (nI i) = some (nI e) := by
  have hl := hT.1
  have hS := hR.sk hT
  have hf : ∀ j, j ≤ T.length → f_95 C (nI j) = g_95 (T.length - j + 1) C (nI j) (nI j) := by
    intro j hj
    unfold f_95; rw [hC.sz, nI_toInt (by omega), nI_toInt (by omega)]; congr 1; omega
  obtain ⟨e, h1, h2, h3, -, h5, -, h7⟩ := sp_lock hC hR hT (nI i) (nI i) (T.length - i) i (T.length - i + 1) oF (by omega) (by omega) (by unfold oF; omega)
  have h95 : f_95 C (nI i) = nI e := by rw [hf i hi, h5]
  by_cases h10 : mA T e = 10
  · have hlt := mA_lt h10 (by decide)
    obtain ⟨e', g1, g2, -, -, g5, g6, -⟩ := sp_lock hC hR hT (nI (e + 1)) (nI i) (T.length - (e + 1)) (e + 1) (T.length - (e + 1) + 1) oF (by omega) (by omega) (by unfold oF; omega)
    refine ⟨e', by omega, g2, ?_, ?_⟩
    · unfold f_94; simp (disch := omega) only [h95, hC.at, h10, not_true_eq_false, if_false, nI_1]; rw [hf _ (by omega), g5]
    · unfold o_114; rw [if_pos hS, h7, if_pos h10, g6]
  · refine ⟨e, h1, h2, ?_, ?_⟩
    · unfold f_94; simp (disch := omega) only [h95, hC.at, h10, not_false_eq_true, if_true]
    · unfold o_114; rw [if_pos hS, h7, if_neg h10]
theorem f99_eq {C : zr_Z} {T : List Int32} (hC : mC C T) (hT : gT T) {i : Nat} (hi : i < T.length) : f_99 C (nI i) = g_99 (T.length - (i + 1) + 1) C (nI i) (nI (i + 1)) := by
  have hl := hT.1
  unfold f_99; rw [hC.sz, nI_1, nI_toInt (by omega), nI_toInt (by omega)]; congr 1; omega
theorem ang_lock {C R : zr_Z} {T : List Int32} (hC : mC C T) (hR : mR R T) (hT : gT T) (p : Int32) (k : Nat) (hk : k ≤ T.length) :
    ∀ d i n m, i ≤ T.length → T.length - i ≤ d → d < n → d < m → ∃ e, i ≤ e ∧ e ≤ T.length ∧ mrch T e i ∧
      g_99 n C p (nI i) = (if mA T e = 62 then nI (e + 1) else -1) ∧
      g_117_15 m R (nI k) (nI i) = some (decide (mA T e = 62), zmf (zmf (zmf R 52 (nI (k + 1))) 53 (nI e)) 50 (nI (e + 1))) := by
  have hl := hT.1
  have hS := hR.sk hT
  intro d
  induction d with
  | zero =>
    intro i n m hi hd hn hm
    obtain ⟨n, rfl⟩ : ∃ n', n = n' + 1 := ⟨n - 1, by omega⟩
    obtain ⟨m, rfl⟩ : ∃ n', m = n' + 1 := ⟨m - 1, by omega⟩
    have ha : mA T i = -1 := mA_out (by omega)
    refine ⟨i, Nat.le_refl _, by omega, mrch_refl T i, ?_, ?_⟩
    · simp (disch := omega) only [g_99, hC.sz, nI_leI]; rw [if_pos (by omega), if_neg (by rw [ha]; decide)]
    · simp (disch := omega) only [g_117_15, if_pos hS, hR.at hT, ha, if_true, nI_1]
  | succ d ih =>
    intro i n m hi hd hn hm
    obtain ⟨n, rfl⟩ : ∃ n', n = n' + 1 := ⟨n - 1, by omega⟩
    obtain ⟨m, rfl⟩ : ∃ n', m = n' + 1 := ⟨m - 1, by omega⟩
    by_cases hin : T.length ≤ i
    · have ha : mA T i = -1 := mA_out (by omega)
      refine ⟨i, Nat.le_refl _, by omega, mrch_refl T i, ?_, ?_⟩
      · simp (disch := omega) only [g_99, hC.sz, nI_leI]; rw [if_pos (by omega), if_neg (by rw [ha]; decide)]
      · simp (disch := omega) only [g_117_15, if_pos hS, hR.at hT, ha, if_true, nI_1]
    · have hm1 : ¬ mA T i = -1 := by rw [mA_ne hT]; exact hin
      by_cases h62 : mA T i = 62
      · refine ⟨i, Nat.le_refl _, hi, mrch_refl T i, ?_, ?_⟩
        · simp (disch := omega) only [g_99, hC.sz, nI_leI, hC.at, h62, not_true_eq_false, if_false, if_true, nI_1]; rw [if_neg hin]
        · simp (disch := omega) only [g_117_15, if_pos hS, hR.at hT, h62, nI_1]; rfl
      · by_cases hst : mA T i = 10 ∨ mA T i = 60
        · refine ⟨i, Nat.le_refl _, hi, mrch_refl T i, ?_, ?_⟩
          · rcases hst with h | h <;> simp (disch := omega) only [g_99, hC.sz, nI_leI, hC.at, h, nI_1] <;> rw [if_neg hin] <;> rfl
          · rcases hst with h | h <;> simp (disch := omega) only [g_117_15, if_pos hS, hR.at hT, h, nI_1] <;> rfl
        · have h10 : ¬ mA T i = 10 := fun h => hst (Or.inl h)
          have h60 : ¬ mA T i = 60 := fun h => hst (Or.inr h)
          have hs := mst_pos T i
          have hs2 := mst_le (T := T) (i := i) (by omega)
          obtain ⟨e, h1, h2, hr, h3, h4⟩ := ih (i + mst T i) n m (by omega) (by omega) (by omega) (by omega)
          refine ⟨e, by omega, h2, mrch_step (by omega) hr, ?_, ?_⟩
          · simp (disch := omega) only [g_99, hC.sz, nI_leI, hC.at, hC.esc, nI_st, h62, h10, h60, not_false_eq_true, if_false, if_true]; rw [if_neg hin]; exact h3
          · simp (disch := omega) only [g_117_15, if_pos hS, hR.at hT, hR.esc hT, nI_st, h62, h10, h60, hm1, if_false, olet]; exact h4
theorem f84_eq {C : zr_Z} {T : List Int32} (hC : mC C T) (hT : gT T) {i : Nat} (hi : i ≤ T.length) : f_84 C (nI i) = g_84_4 (T.length - i + 1) C (nI i) 0 (nI i) := by
  have hl := hT.1
  unfold f_84; rw [hC.sz, nI_toInt (by omega), nI_toInt (by omega)]; congr 1; omega
theorem bare_lock {C R : zr_Z} {T : List Int32} (hC : mC C T) (hR : mR R T) (hT : gT T) (p k : Nat) (hp : p ≤ T.length) (hk : k ≤ T.length) :
    ∀ d i n m o, i ≤ T.length → o ≤ i → T.length - i ≤ d → d < n → d + 1 < m → ∃ e o', i ≤ e ∧ e ≤ T.length ∧ o' ≤ e ∧ mrch T e i ∧
      (mA T e = -1 ∨ (mA T e).toInt ≤ 32 ∨ mA T e = 127 ∨ mA T e = 41) ∧
      g_84_4 n C (nI p) (nI o) (nI i) = (if e ≤ p then -1 else if ¬ o' = 0 then -1 else nI e) ∧
      g_117_113 m R (nI k) (nI i) (nI o) true = some ((!decide (e ≤ k)) && (decide (o' = 0) && (decide (mA T e = -1) || (k_143 (mA T e) || decide (mA T e = 41)))), zmf (zmf (zmf R 52 (nI k)) 53 (nI e)) 50 (nI e)) := by
  have hl := hT.1
  have hS := hR.sk hT
  have hz : ∀ o, o ≤ 1500 → (nI o = 0 ↔ o = 0) := fun o ho => by rw [← nI_0, nI_eq (by omega) (by omega)]
  have hz2 : ∀ o, o ≤ 1500 → (nI o ≤ 0 ↔ o = 0) := fun o ho => by rw [← nI_0, nI_leI (by omega) (by omega)]; omega
  have stop : ∀ i n m o, i ≤ T.length → o ≤ i → (mA T i ≤ 32 ∨ mA T i = 127 ∨ (mA T i = 41 ∧ o = 0)) → ∃ e o', i ≤ e ∧ e ≤ T.length ∧ o' ≤ e ∧ mrch T e i ∧
      (mA T e = -1 ∨ (mA T e).toInt ≤ 32 ∨ mA T e = 127 ∨ mA T e = 41) ∧
      g_84_4 (n + 1) C (nI p) (nI o) (nI i) = (if e ≤ p then -1 else if ¬ o' = 0 then -1 else nI e) ∧
      g_117_113 (m + 2) R (nI k) (nI i) (nI o) true = some ((!decide (e ≤ k)) && (decide (o' = 0) && (decide (mA T e = -1) || (k_143 (mA T e) || decide (mA T e = 41)))), zmf (zmf (zmf R 52 (nI k)) 53 (nI e)) 50 (nI e)) := by
    intro i n m o hi ho hst
    refine ⟨i, o, Nat.le_refl _, hi, ho, mrch_refl T i, ?_, ?_, ?_⟩
    · rcases hst with h | h | h
      · right; left; exact Int32.le_iff_toInt_le.mp h
      · exact Or.inr (Or.inr (Or.inl h))
      · exact Or.inr (Or.inr (Or.inr h.1))
    · simp (disch := omega) only [g_84_4, hC.sz, nI_leI, hC.at, hz]
      by_cases hin : T.length ≤ i
      · rw [if_pos hin]
      · rw [if_neg hin]
        rcases hst with h | h | ⟨h, h'⟩
        · rw [if_pos h]
        · rw [h]; rfl
        · subst h'; rw [h]; rfl
    · have hb : ((!(decide (mA T i ≤ 32))) && ((!(decide (mA T i = 127))) && ((!(decide (mA T i = 41))) || (!(decide (nI o ≤ 0)))))) = false := by
        rcases hst with h | h | ⟨h, h'⟩
        · rw [decide_eq_true h]; rfl
        · rw [h]; rfl
        · rw [h, decide_eq_true ((hz2 o (by omega)).mpr h')]; rfl
      simp (disch := omega) only [g_117_113, if_pos hS, hR.at hT, if_true, olet, hb, nI_leI, hz, Bool.false_eq_true, if_false]
  have hout : ∀ i, T.length ≤ i → mA T i ≤ 32 := fun i h => by rw [mA_out h]; decide
  intro d
  induction d with
  | zero =>
    intro i n m o hi ho hd hn hm
    obtain ⟨n, rfl⟩ : ∃ n', n = n' + 1 := ⟨n - 1, by omega⟩
    obtain ⟨m, rfl⟩ : ∃ n', m = n' + 2 := ⟨m - 2, by omega⟩
    exact stop i n m o hi ho (Or.inl (hout i (by omega)))
  | succ d ih =>
    intro i n m o hi ho hd hn hm
    obtain ⟨n, rfl⟩ : ∃ n', n = n' + 1 := ⟨n - 1, by omega⟩
    obtain ⟨m, rfl⟩ : ∃ n', m = n' + 2 := ⟨m - 2, by omega⟩
    by_cases hin : T.length ≤ i
    · exact stop i n m o hi ho (Or.inl (hout i hin))
    · by_cases hst : mA T i ≤ 32 ∨ mA T i = 127 ∨ (mA T i = 41 ∧ o = 0)
      · exact stop i n m o hi ho hst
      · have h32 : ¬ mA T i ≤ 32 := fun h => hst (Or.inl h)
        have h127 : ¬ mA T i = 127 := fun h => hst (Or.inr (Or.inl h))
        have h41 : mA T i = 41 → ¬ o = 0 := fun h h' => hst (Or.inr (Or.inr ⟨h, h'⟩))
        have hs := mst_pos T i
        have hs2 := mst_le (T := T) (i := i) (by omega)
        have hb : ((!(decide (mA T i ≤ 32))) && ((!(decide (mA T i = 127))) && ((!(decide (mA T i = 41))) || (!(decide (nI o ≤ 0)))))) = true := by
          rw [decide_eq_false h32, decide_eq_false h127]
          by_cases h : mA T i = 41
          · rw [decide_eq_true h, decide_eq_false (fun h' => h41 h ((hz2 o (by omega)).mp h'))]; rfl
          · rw [decide_eq_false h]; rfl
        by_cases h40 : mA T i = 40
        · obtain ⟨e, o', h1, h2, h3, hr, h4, h5, h6⟩ := ih (i + mst T i) n (m + 1) (o + 1) (by omega) (by omega) (by omega) (by omega) (by omega)
          have hn41 : ¬ mA T i = 41 := by rw [h40]; decide
          refine ⟨e, o', by omega, h2, h3, mrch_step (by omega) hr, h4, ?_, ?_⟩
          · simp (disch := omega) only [g_84_4, hC.sz, nI_leI, hC.at, hC.esc, nI_st, h32, h127, h40, hn41, not_true_eq_false, not_false_eq_true, if_false, if_true, nI_1]; rw [if_neg hin]; exact h5
          · rw [g_117_113]; simp (disch := omega) only [if_pos hS, hR.at hT, hR.esc hT, if_true, olet, hb, nI_st, h40, hn41, not_true_eq_false, not_false_eq_true, if_false, if_true, nI_1]; exact h6
        · by_cases h : mA T i = 41
          · have h0 := h41 h
            obtain ⟨o, rfl⟩ : ∃ z, o = z + 1 := ⟨o - 1, by omega⟩
            have hz' : ¬ nI (o + 1) = 0 := by rw [hz _ (by omega)]; omega
            obtain ⟨e, o', h1, h2, h3, hr, h4, h5, h6⟩ := ih (i + mst T i) n (m + 1) o (by omega) (by omega) (by omega) (by omega) (by omega)
            refine ⟨e, o', by omega, h2, h3, mrch_step (by omega) hr, h4, ?_, ?_⟩
            · simp (disch := omega) only [g_84_4, hC.sz, nI_leI, hC.at, hC.esc, nI_st, h32, h127, h40, h, hz', not_true_eq_false, not_false_eq_true, if_false, if_true, pk_m1]; rw [if_neg hin]; exact h5
            · rw [g_117_113]; simp (disch := omega) only [if_pos hS, hR.at hT, hR.esc hT, if_true, olet, hb, nI_st]; rw [h]; exact (pk_m1 o ▸ h6 : g_117_113 (m + 1) R (nI k) (nI (i + mst T i)) (nI (o + 1) + -1) true = _)
          · obtain ⟨e, o', h1, h2, h3, hr, h4, h5, h6⟩ := ih (i + mst T i) n (m + 1) o (by omega) (by omega) (by omega) (by omega) (by omega)
            refine ⟨e, o', by omega, h2, h3, mrch_step (by omega) hr, h4, ?_, ?_⟩
            · simp (disch := omega) only [g_84_4, hC.sz, nI_leI, hC.at, hC.esc, nI_st, h32, h127, h40, h, not_false_eq_true, if_false, if_true]; rw [if_neg hin]; exact h5
            · rw [g_117_113]; simp (disch := omega) only [if_pos hS, hR.at hT, hR.esc hT, if_true, olet, hb, nI_st]; rw [if_pos h40, if_pos h, Int32.add_zero]; exact h6
theorem tit_lock {C R : zr_Z} {T : List Int32} (hC : mC C T) (hR : mR R T) (hT : gT T) (p : Nat) (hp : p < T.length) (c : Int32) (hc : mA T p = c) (hc1 : c = 34 ∨ c = 39 ∨ c = 40) :
    ∀ d i n m, i ≤ T.length → T.length - i ≤ d → d < n → d < m → ∃ e, i ≤ e ∧ e ≤ T.length ∧ mrch T e i ∧
      g_85_47 n C (nI p) (nI i) = (if mA T e = (if ¬ c = 40 then c else 41) then nI (e + 1) else -1) ∧
      g_118_44 m R (nI p) c (if ¬ c = 40 then c else 41) (nI i) = some (decide (mA T e = (if ¬ c = 40 then c else 41)), zmf (zmf (zmf R 54 (nI (p + 1))) 55 (nI e)) 50 (nI (e + 1))) := by
  have hl := hT.1
  have hS := hR.sk hT
  have hlast : ¬ (if ¬ c = 40 then c else 41 : Int32) = -1 := by rcases hc1 with rfl | rfl | rfl <;> decide
  have h40 : c = 40 ∨ c = (if ¬ c = 40 then c else 41) := by
    by_cases h : c = 40
    · exact Or.inl h
    · right; rw [if_pos h]
  generalize hx : (if ¬ c = 40 then c else 41 : Int32) = x at *
  have hcx : (if ¬ mA T p = 40 then mA T p else 41 : Int32) = x := by rw [hc, hx]
  have stop : ∀ i n m, i ≤ T.length → (T.length ≤ i ∨ mA T i = x ∨ mA T i = c) → ∃ e, i ≤ e ∧ e ≤ T.length ∧ mrch T e i ∧
      g_85_47 (n + 1) C (nI p) (nI i) = (if mA T e = x then nI (e + 1) else -1) ∧
      g_118_44 (m + 1) R (nI p) c x (nI i) = some (decide (mA T e = x), zmf (zmf (zmf R 54 (nI (p + 1))) 55 (nI e)) 50 (nI (e + 1))) := by
    intro i n m hi hst
    refine ⟨i, Nat.le_refl _, hi, mrch_refl T i, ?_, ?_⟩
    · simp (disch := omega) only [g_85_47, hC.sz, nI_leI, hC.at, hcx, nI_1]
      by_cases hin : T.length ≤ i
      · rw [if_pos hin, if_neg (by rw [mA_out hin]; exact fun h => hlast h.symm)]
      · rw [if_neg hin]
        rcases hst with h | h | h
        · exact absurd h hin
        · rw [if_neg (fun h' => h' h), if_pos h]
        · by_cases h' : mA T i = x
          · rw [if_neg (fun h'' => h'' h'), if_pos h']
          · rw [if_pos h', if_neg h']
            have : c = 40 := by
              rcases h40 with h40 | h40
              · exact h40
              · exact absurd (h.trans h40) h'
            rw [h, hc, this]; rfl
    · simp (disch := omega) only [g_118_44, if_pos hS, hR.at hT, nI_1]
      by_cases h1 : mA T i = -1
      · rw [if_pos h1]
      · rw [if_neg h1]
        by_cases h2 : mA T i = x
        · rw [if_pos h2]
        · rw [if_neg h2]
          rcases hst with h | h | h
          · exact absurd (mA_out h) h1
          · exact absurd h h2
          · rw [if_pos h]
  intro d
  induction d with
  | zero =>
    intro i n m hi hd hn hm
    obtain ⟨n, rfl⟩ : ∃ n', n = n' + 1 := ⟨n - 1, by omega⟩
    obtain ⟨m, rfl⟩ : ∃ n', m = n' + 1 := ⟨m - 1, by omega⟩
    exact stop i n m hi (Or.inl (by omega))
  | succ d ih =>
    intro i n m hi hd hn hm
    obtain ⟨n, rfl⟩ : ∃ n', n = n' + 1 := ⟨n - 1, by omega⟩
    obtain ⟨m, rfl⟩ : ∃ n', m = n' + 1 := ⟨m - 1, by omega⟩
    by_cases hst : T.length ≤ i ∨ mA T i = x ∨ mA T i = c
    · exact stop i n m hi hst
    · have hin : ¬ T.length ≤ i := fun h => hst (Or.inl h)
      have h1 : ¬ mA T i = x := fun h => hst (Or.inr (Or.inl h))
      have h2 : ¬ mA T i = c := fun h => hst (Or.inr (Or.inr h))
      have hm1 : ¬ mA T i = -1 := by rw [mA_ne hT]; exact hin
      have hs := mst_pos T i
      have hs2 := mst_le (T := T) (i := i) (by omega)
      obtain ⟨e, g1, g2, hr, g3, g4⟩ := ih (i + mst T i) n m (by omega) (by omega) (by omega) (by omega)
      refine ⟨e, by omega, g2, mrch_step (by omega) hr, ?_, ?_⟩
      · simp (disch := omega) only [g_85_47, hC.sz, nI_leI, hC.at, hc, hx, hC.esc, nI_st, h1, not_false_eq_true, if_true]
        rw [if_neg hin]
        by_cases h4 : mA T i = 40
        · rw [if_neg (fun h => h h4), if_pos (fun h => h2 (h4.trans h.symm))]; exact g3
        · rw [if_pos h4]; exact g3
      · simp (disch := omega) only [g_118_44, if_pos hS, hR.at hT, hR.esc hT, nI_st, h1, h2, hm1, if_false, olet]; exact g4
theorem f85_eq {C : zr_Z} {T : List Int32} (hC : mC C T) (hT : gT T) {i : Nat} (hi : i < T.length) : f_85 C (nI i) = if mA T i = 34 ∨ mA T i = 39 ∨ mA T i = 40 then g_85_47 (T.length - (i + 1) + 1) C (nI i) (nI (i + 1)) else -1 := by
  have hl := hT.1
  have hn : ((T.length : Int) - ((i + 1 : Nat) : Int)).toNat + 1 = T.length - (i + 1) + 1 := by omega
  unfold f_85; rw [hC.sz, nI_1, nI_toInt (by omega), nI_toInt (by omega), hC.at (by omega), hn]
  by_cases h1 : mA T i = 34
  · rw [if_pos h1, if_pos (Or.inl h1)]
  · by_cases h2 : mA T i = 39
    · rw [if_neg h1, if_pos h2, if_pos (Or.inr (Or.inl h2))]
    · by_cases h3 : mA T i = 40
      · rw [if_neg h1, if_neg h2, if_pos h3, if_pos (Or.inr (Or.inr h3))]
      · rw [if_neg h1, if_neg h2, if_neg h3, if_neg]; rintro (h | h | h) <;> contradiction
theorem o118_eq {R : zr_Z} {T : List Int32} (hR : mR R T) (hT : gT T) {i : Nat} (hi : i < T.length) : o_118 R (nI i) = if mA T i = 34 ∨ mA T i = 39 ∨ mA T i = 40 then g_118_44 oF R (nI i) (mA T i) (if ¬ mA T i = 40 then mA T i else 41) (nI (i + 1)) else some (false, R) := by
  have hl := hT.1
  unfold o_118; simp (disch := omega) only [if_pos (hR.sk hT), hR.at hT, olet, nI_1]
  by_cases h1 : mA T i = 34
  · rw [if_pos h1, if_pos (Or.inl h1)]
  · by_cases h2 : mA T i = 39
    · rw [if_neg h1, if_pos h2, if_pos (Or.inr (Or.inl h2))]
    · by_cases h3 : mA T i = 40
      · rw [if_neg h1, if_neg h2, if_pos h3, if_pos (Or.inr (Or.inr h3))]
      · rw [if_neg h1, if_neg h2, if_neg h3, if_neg]; rintro (h | h | h) <;> contradiction
theorem title_lock {C R : zr_Z} {T : List Int32} (hC : mC C T) (hR : mR R T) (hT : gT T) {p : Nat} (hp : p ≤ T.length) :
    (f_85 C (nI p) = -1 ∧ ∃ R', o_118 R (nI p) = some (false, R') ∧ (R' = R ∨ ∃ x y z, R' = zmf (zmf (zmf R 54 x) 55 y) 50 z)) ∨
    (∃ e, p + 1 ≤ e ∧ e < T.length ∧ mrch T e (p + 1) ∧ rfc (mA T e) = false ∧ f_85 C (nI p) = nI (e + 1) ∧ o_118 R (nI p) = some (true, zmf (zmf (zmf R 54 (nI (p + 1))) 55 (nI e)) 50 (nI (e + 1)))) := by
  have hl := hT.1
  by_cases hpl : p < T.length
  · rw [f85_eq hC hT hpl, o118_eq hR hT hpl]
    by_cases hc : mA T p = 34 ∨ mA T p = 39 ∨ mA T p = 40
    · rw [if_pos hc, if_pos hc]
      obtain ⟨e, h1, h2, hr, h3, h4⟩ := tit_lock hC hR hT p hpl (mA T p) rfl hc (T.length - (p + 1)) (p + 1) (T.length - (p + 1) + 1) oF (by omega) (by omega) (by omega) (by unfold oF; omega)
      rw [h3, h4]
      by_cases hx : mA T e = (if ¬ mA T p = 40 then mA T p else 41)
      · right
        have hne : ¬ mA T e = -1 := by rw [hx]; rcases hc with h | h | h <;> rw [h] <;> decide
        have h32 : rfc (mA T e) = false := by rw [hx]; rcases hc with h | h | h <;> rw [h] <;> decide
        rw [mA_ne hT] at hne
        exact ⟨e, h1, by omega, hr, h32, if_pos hx, by rw [decide_eq_true hx]⟩
      · left; exact ⟨if_neg hx, _, by rw [decide_eq_false hx], Or.inr ⟨_, _, _, rfl⟩⟩
    · rw [if_neg hc, if_neg hc]; left; exact ⟨rfl, _, rfl, Or.inl rfl⟩
  · left
    have ha : mA T p = -1 := mA_out (by omega)
    refine ⟨?_, R, ?_, Or.inl rfl⟩
    · unfold f_85; rw [hC.at (by omega), ha]; rfl
    · unfold o_118; simp (disch := omega) only [if_pos (hR.sk hT), hR.at hT, ha]; rfl

theorem sp_stay {C R : zr_Z} {T : List Int32} (hC : mC C T) (hR : mR R T) (hT : gT T) {i : Nat} (hi : i ≤ T.length) (h : ¬ mA T i = 32) (h' : ¬ mA T i = 10) :
    f_94 C (nI i) = nI i ∧ o_114 R (nI i) = some (nI i) := by
  have hl := hT.1
  have hS := hR.sk hT
  have hf : f_95 C (nI i) = nI i := by
    unfold f_95; simp (disch := omega) only [g_95, hC.sz, nI_leI, hC.at, h, not_false_eq_true, if_true, ite_self]
  refine ⟨?_, ?_⟩
  · unfold f_94; simp (disch := omega) only [hf, hC.at, h', not_false_eq_true, if_true]
  · obtain ⟨m, hm⟩ := oF_1
    unfold o_114; rw [hm]; simp (disch := omega) only [if_pos hS, g_114_2, hR.at hT, h, h', not_false_eq_true, if_true, if_false]
theorem target_lock {C R : zr_Z} {T : List Int32} (hC : mC C T) (hR : mR R T) (hT : gT T) {x : Nat} (hx : x ≤ T.length) :
    ∃ b R', o_117 R (nI x) = some (b, R') ∧ ((b = false ∧ (∃ u v w, R' = zmf (zmf (zmf R 52 u) 53 v) 50 w) ∧
        ((if (decide (mA T x = 60)) = true then f_99 C (nI x) else f_84 C (nI x)) = -1 ∨
          (¬ mA T x = 60 ∧ ¬ mA T x = 32 ∧ ¬ mA T x = 10 ∧ ¬ mA T x = 41 ∧ ∃ e, x < e ∧ e ≤ T.length ∧ f_84 C (nI x) = nI e ∧ ¬ mA T e = 32 ∧ ¬ mA T e = 10 ∧ ¬ mA T e = 41))) ∨
      (b = true ∧ mA T x = 60 ∧ ∃ e, x < e ∧ e < T.length ∧ mA T e = 62 ∧ mrch T e (x + 1) ∧ f_99 C (nI x) = nI (e + 1) ∧ R' = zmf (zmf (zmf R 52 (nI (x + 1))) 53 (nI e)) 50 (nI (e + 1))) ∨
      (b = true ∧ ¬ mA T x = 60 ∧ ∃ e, x < e ∧ e ≤ T.length ∧ rfc (mA T e) = false ∧ mrch T e x ∧ f_84 C (nI x) = nI e ∧ R' = zmf (zmf (zmf R 52 (nI x)) 53 (nI e)) 50 (nI e))) := by
  have hl := hT.1
  have hS := hR.sk hT
  have ho : o_117 R (nI x) = if ¬ mA T x = 60 then g_117_113 oF R (nI x) (nI x) 0 true else g_117_15 oF R (nI x) (nI (x + 1)) := by
    unfold o_117; simp (disch := omega) only [if_pos hS, hR.at hT, nI_1]
  by_cases h60 : mA T x = 60
  · have hlt := mA_lt h60 (by decide)
    obtain ⟨e, h1, h2, hr, h3, h4⟩ := ang_lock hC hR hT (nI x) x hx (T.length - (x + 1)) (x + 1) (T.length - (x + 1) + 1) oF (by omega) (by omega) (by omega) (by unfold oF; omega)
    rw [← f99_eq hC hT hlt] at h3
    refine ⟨_, _, by rw [ho, if_neg (fun h => h h60), h4], ?_⟩
    by_cases h62 : mA T e = 62
    · right; left
      have := mA_lt h62 (by decide)
      exact ⟨decide_eq_true h62, h60, e, by omega, this, h62, hr, by rw [h3, if_pos h62], rfl⟩
    · left
      exact ⟨decide_eq_false h62, ⟨_, _, _, rfl⟩, Or.inl (by rw [if_pos (decide_eq_true h60), h3, if_neg h62])⟩
  · obtain ⟨e, o', h1, h2, h3, hr, h4, h5, h6⟩ := bare_lock hC hR hT x x hx hx (T.length - x) x (T.length - x + 1) oF 0 (by omega) (by omega) (by omega) (by omega) (by unfold oF; omega)
    rw [nI_0] at h5 h6
    rw [← f84_eq hC hT hx] at h5
    refine ⟨_, _, by rw [ho, if_pos h60, h6], ?_⟩
    have hd60 : ¬ decide (mA T x = 60) = true := by rw [decide_eq_false h60]; decide
    by_cases hex : e ≤ x
    · left; exact ⟨by rw [decide_eq_true hex]; rfl, ⟨_, _, _, rfl⟩, Or.inl (by rw [if_neg hd60, h5, if_pos hex])⟩
    · by_cases ho' : o' = 0
      · rw [if_neg hex, if_neg (fun h => h ho')] at h5
        by_cases hg : mA T e = -1 ∨ k_143 (mA T e) = true ∨ mA T e = 41
        · right; right
          refine ⟨?_, h60, e, by omega, h2, ?_, hr, h5, rfl⟩
          · rw [decide_eq_false hex, decide_eq_true ho']
            rcases hg with h | h | h
            · rw [decide_eq_true h]; rfl
            · rw [h]; cases decide (mA T e = -1) <;> rfl
            · rw [decide_eq_true h]; cases decide (mA T e = -1) <;> cases k_143 (mA T e) <;> rfl
          · rcases hg with h | h | h
            · rw [h]; decide
            · unfold k_143 at h
              simp only [Bool.or_eq_true, decide_eq_true_eq] at h
              rcases h with h | h | h | h <;> rw [h] <;> decide
            · rw [h]; decide
        · left
          have g1 : ¬ mA T e = -1 := fun h => hg (Or.inl h)
          have g2 : ¬ k_143 (mA T e) = true := fun h => hg (Or.inr (Or.inl h))
          have g3 : ¬ mA T e = 41 := fun h => hg (Or.inr (Or.inr h))
          refine ⟨?_, ⟨_, _, _, rfl⟩, Or.inr ⟨h60, ?_⟩⟩
          · rw [decide_eq_false g1, decide_eq_false g3, Bool.eq_false_iff.mpr g2]; cases decide (e ≤ x) <;> cases decide (o' = 0) <;> rfl
          have hst : ¬ (mA T x ≤ 32 ∨ mA T x = 127 ∨ mA T x = 41) := by
            intro hh
            have : f_84 C (nI x) = -1 := by
              unfold f_84; simp (disch := omega) only [g_84_4, hC.sz, nI_leI, hC.at]
              rw [if_pos (Nat.le_refl x)]
              by_cases hin : T.length ≤ x
              · rw [if_pos hin]
              · rw [if_neg hin]
                rcases hh with h | h | h
                · rw [if_pos h]
                · rw [h]; rfl
                · rw [h]; rfl
            rw [this] at h5; exact ne_m1 (by omega) h5.symm
          refine ⟨fun h => hst (Or.inl (by rw [h]; decide)), fun h => hst (Or.inl (by rw [h]; decide)), fun h => hst (Or.inr (Or.inr h)), e, by omega, h2, h5, fun h => g2 (by rw [h]; rfl), fun h => g2 (by rw [h]; rfl), g3⟩
      · left; refine ⟨by rw [decide_eq_false ho']; cases decide (e ≤ x) <;> rfl, ⟨_, _, _, rfl⟩, Or.inl (by rw [if_neg hd60, h5, if_neg hex, if_pos ho'])⟩
