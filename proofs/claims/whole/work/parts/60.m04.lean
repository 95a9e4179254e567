/-! the mathematics; written by wip/whole/m2parts.py -/
theorem k143 (c : Int32) : k_143 c = k_194 c := rfl
def lst (T : List Int32) (i : Nat) : Nat := if mA T i = 92 then 2 else 1
theorem nI_ls (T : List Int32) (i : Nat) : nI i + (if ¬ mA T i = 92 then 1 else 2 : Int32) = nI (i + lst T i) := by
  unfold lst; by_cases h : mA T i = 92
  · rw [if_neg (fun h' => h' h), if_pos h, nI_2]
  · rw [if_pos h, if_neg h, nI_1]
theorem lst_pos (T : List Int32) (i : Nat) : 1 ≤ lst T i := by unfold lst; split <;> omega
theorem lst_le (T : List Int32) (i : Nat) : lst T i ≤ 2 := by unfold lst; split <;> omega
theorem stop_ge {C : zr_Z} {T : List Int32} (hC : mC C T) (hT : gT T) (a : Nat) (ha : a ≤ 1500) : ∀ d i n, i ≤ T.length + 1 → T.length - i ≤ d → d < n → ∃ e, i ≤ e ∧ e ≤ T.length + 1 ∧ g_96 n C (nI a) (nI i) = nI e := by
  have hl := hT.1
  have h100 : nI a + 100 = nI (a + 100) := nI_add a 100
  intro d
  induction d with
  | zero =>
    intro i n hi hd hn
    obtain ⟨n, rfl⟩ : ∃ n', n = n' + 1 := ⟨n - 1, by omega⟩
    refine ⟨i, Nat.le_refl _, hi, ?_⟩
    simp (disch := omega) only [g_96, hC.sz, nI_leI]; rw [if_pos (by omega)]
  | succ d ih =>
    intro i n hi hd hn
    obtain ⟨n, rfl⟩ : ∃ n', n = n' + 1 := ⟨n - 1, by omega⟩
    by_cases hs : T.length ≤ i ∨ a + 100 < i ∨ mA T i = 91 ∨ mA T i = 93
    · refine ⟨i, Nat.le_refl _, hi, ?_⟩
      simp (disch := omega) only [g_96, hC.sz, nI_leI, hC.at, h100, nI_ltI]
      by_cases h1 : T.length ≤ i
      · rw [if_pos h1]
      · rw [if_neg h1]
        by_cases h2 : a + 100 < i
        · rw [if_pos h2]
        · rw [if_neg h2]
          rcases hs with h | h | h | h
          · exact absurd h h1
          · exact absurd h h2
          · rw [if_pos h]
          · rw [h]; rfl
    · have h1 : ¬ T.length ≤ i := fun h => hs (Or.inl h)
      have h2 : ¬ a + 100 < i := fun h => hs (Or.inr (Or.inl h))
      have h3 : ¬ mA T i = 91 := fun h => hs (Or.inr (Or.inr (Or.inl h)))
      have h4 : ¬ mA T i = 93 := fun h => hs (Or.inr (Or.inr (Or.inr h)))
      have := lst_pos T i
      have := lst_le T i
      obtain ⟨e, g1, g2, g3⟩ := ih (i + lst T i) n (by omega) (by omega) (by omega)
      refine ⟨e, by omega, g2, ?_⟩
      simp (disch := omega) only [g_96, hC.sz, nI_leI, hC.at, h100, nI_ltI, h1, h2, h3, h4, if_false, not_false_eq_true, if_true, nI_ls]; exact g3
theorem f96_eq {C : zr_Z} {T : List Int32} (hC : mC C T) (hT : gT T) {a : Nat} (ha : a ≤ T.length + 2) : f_96 C (nI a) = g_96 (T.length - a + 1) C (nI a) (nI a) := by
  have hl := hT.1
  unfold f_96; rw [hC.sz, nI_toInt (by omega), nI_toInt (by omega)]; congr 1; omega
theorem ltext_loop {C R : zr_Z} {T : List Int32} (hC : mC C T) (hR : mR R T) (hT : gT T) (a b : Nat) (hab : a ≤ b) (hb : b ≤ T.length) (hst : b = T.length ∨ mA T b = 91 ∨ mA T b = 93) :
    ∀ d i n m n' w, a ≤ i → i + d = b → T.length - i < n → d < m → d < n' → ∃ v, g_115_5 m R (nI a) (nI b) w (nI i) = some v ∧ (100 < b - a → v = false) ∧
      (b - a ≤ 100 → v = (decide (g_96 n C (nI a) (nI i) = nI b) && !(w && g_98 n' C (nI a) (nI b) (nI i)))) := by
  have hl := hT.1
  have hS := hR.sk hT
  have h100 : nI a + 100 = nI (a + 100) := nI_add a 100
  have hba : nI b - nI a = nI (b - a) := pk_sub hab
  have hb100 : (100 < nI b - nI a) ↔ 100 < b - a := by rw [hba]; exact nI_ltI (a := 100) (by omega) (by omega)
  have at_b : ∀ n, g_96 (n + 1) C (nI a) (nI b) = nI b := by
    intro n
    simp (disch := omega) only [g_96, hC.sz, nI_leI, hC.at]
    by_cases h1 : T.length ≤ b
    · rw [if_pos h1]
    · rw [if_neg h1]
      rcases hst with h | h | h
      · omega
      · rw [h]; simp only [if_true, ite_self]
      · rw [h]; simp only [not_true_eq_false, if_false, ite_self]
  intro d
  induction d using Nat.strongRecOn with
  | ind d ih =>
  intro i n m n' w hai hi hn hm hn'
  obtain ⟨n, rfl⟩ : ∃ k, n = k + 1 := ⟨n - 1, by omega⟩
  obtain ⟨m, rfl⟩ : ∃ k, m = k + 1 := ⟨m - 1, by omega⟩
  obtain ⟨n', rfl⟩ : ∃ k, n' = k + 1 := ⟨n' - 1, by omega⟩
  by_cases hib : i = b
  · subst hib
    refine ⟨!w && !decide (100 < i - a), ?_, ?_, ?_⟩
    · simp (disch := omega) only [g_115_5, if_pos hS, nI_leI, Nat.le_refl, if_true, hb100]
    · intro h; rw [decide_eq_true h]; cases w <;> rfl
    · intro h; rw [decide_eq_false (by omega), at_b n, decide_eq_true rfl]
      simp (disch := omega) only [g_98, nI_leI, Nat.le_refl, if_true]
      cases w <;> rfl
  · have h1 : ¬ T.length ≤ i := by omega
    have hbi : ¬ b ≤ i := by omega
    have hne : ¬ nI i = nI b := by rw [nI_eq (by omega) (by omega)]; exact hib
    by_cases h9 : mA T i = 91 ∨ mA T i = 93
    · refine ⟨false, ?_, fun _ => rfl, ?_⟩
      · simp (disch := omega) only [g_115_5, if_pos hS, nI_leI, hbi, if_false, hR.at hT]
        rcases h9 with h | h <;> rw [h] <;> rfl
      · intro h
        have : g_96 (n + 1) C (nI a) (nI i) = nI i := by
          simp (disch := omega) only [g_96, hC.sz, nI_leI, hC.at, h1, if_false]
          rcases h9 with h | h <;> rw [h] <;> simp only [if_true, ite_self, not_true_eq_false, if_false]
        rw [this, decide_eq_false hne]; rfl
    · have h91 : ¬ mA T i = 91 := fun h => h9 (Or.inl h)
      have h93 : ¬ mA T i = 93 := fun h => h9 (Or.inr h)
      have hstep : b - a ≤ 100 → g_96 (n + 1) C (nI a) (nI i) = g_96 n C (nI a) (nI (i + lst T i)) := by
        intro h
        have h2 : ¬ a + 100 < i := by omega
        simp (disch := omega) only [g_96, hC.sz, nI_leI, hC.at, h100, nI_ltI, h1, h2, h91, h93, if_false, not_false_eq_true, if_true, nI_ls]
      have hall : g_98 (n' + 1) C (nI a) (nI b) (nI i) = if k_194 (mA T i) = true then g_98 n' C (nI a) (nI b) (nI (i + 1)) else false := by
        simp (disch := omega) only [g_98, nI_leI, hbi, if_false, hC.at, nI_1]
      by_cases h92 : mA T i = 92
      · have hl2 : lst T i = 2 := by unfold lst; rw [if_pos h92]
        have hw : k_194 (mA T i) = false := by rw [h92]; rfl
        by_cases hi2 : i + 1 < b
        · obtain ⟨v, g1, g2, g3⟩ := ih (d - 2) (by omega) (i + 2) n m n' (w && k_143 (mA T i)) (by omega) (by omega) (by omega) (by omega) (by omega)
          refine ⟨v, ?_, g2, ?_⟩
          · simp (disch := omega) only [g_115_5, if_pos hS, nI_leI, hbi, if_false, hR.at hT, h91, h93, olet, not_false_eq_true, if_true, nI_1, nI_ltI, hi2]
            rw [if_neg (fun h => h h92)]; exact g1
          · intro h; rw [g3 h, hstep h, hl2, hall, hw, k143, hw]; cases w <;> rfl
        · refine ⟨false, ?_, fun _ => rfl, ?_⟩
          · simp (disch := omega) only [g_115_5, if_pos hS, nI_leI, hbi, if_false, hR.at hT, h91, h93, olet, not_false_eq_true, if_true, nI_1, nI_ltI, hi2]
            rw [if_neg (fun h => h h92)]
          · intro h; rw [hstep h, hl2]
            obtain ⟨e, e1, e2, e3⟩ := stop_ge hC hT a (by omega) (T.length - (i + 2)) (i + 2) n (by omega) (by omega) (by omega)
            rw [e3, decide_eq_false (by rw [nI_eq (by omega) (by omega)]; omega)]; rfl
      · have hl2 : lst T i = 1 := by unfold lst; rw [if_neg h92]
        obtain ⟨v, g1, g2, g3⟩ := ih (d - 1) (by omega) (i + 1) n m n' (w && k_143 (mA T i)) (by omega) (by omega) (by omega) (by omega) (by omega)
        refine ⟨v, ?_, g2, ?_⟩
        · simp (disch := omega) only [g_115_5, if_pos hS, nI_leI, hbi, if_false, hR.at hT, h91, h93, olet, not_false_eq_true, if_true, nI_1, h92]; exact g1
        · intro h; rw [g3 h, hstep h, hl2, hall, k143]; cases w <;> cases k_194 (mA T i) <;> rfl
theorem ltext_lock {C R : zr_Z} {T : List Int32} (hC : mC C T) (hR : mR R T) (hT : gT T) {a b : Nat} (hab : a ≤ b) (hb : b ≤ T.length) (hst : b = T.length ∨ mA T b = 91 ∨ mA T b = 93) :
    o_115 R (nI a) (nI b) = some (f_97 C (nI a) (nI b)) := by
  have hl := hT.1
  have hba : nI b - nI a = nI (b - a) := pk_sub hab
  have hb100 : (100 < nI b - nI a) ↔ 100 < b - a := by rw [hba]; exact nI_ltI (a := 100) (by omega) (by omega)
  obtain ⟨v, g1, g2, g3⟩ := ltext_loop hC hR hT a b hab hb hst (b - a) a (T.length - a + 1) oF (b - a + 1) true (Nat.le_refl _) (by omega) (by omega) (by unfold oF; omega) (by omega)
  unfold o_115; rw [if_pos (hR.sk hT), g1]
  congr 1
  have h98 : f_98 C (nI a) (nI b) = g_98 (b - a + 1) C (nI a) (nI b) (nI a) := by
    unfold f_98; rw [nI_toInt (by omega), nI_toInt (by omega)]; congr 1; omega
  unfold f_97
  rw [f96_eq hC hT (by omega), h98]
  simp (disch := omega) only [nI_leI, hb100]
  by_cases h : 100 < b - a
  · rw [g2 h, decide_eq_true h]; cases decide (b ≤ a) <;> rfl
  · rw [decide_eq_false h, g3 (by omega)]
    by_cases hba : b ≤ a
    · have : a = b := by omega
      subst this
      have h98 : g_98 (a - a + 1) C (nI a) (nI a) (nI a) = true := by
        simp (disch := omega) only [g_98, nI_leI, Nat.le_refl, if_true]
      rw [h98, decide_eq_true (Nat.le_refl a)]; cases decide (g_96 (T.length - a + 1) C (nI a) (nI a) = nI a) <;> rfl
    · rw [decide_eq_false hba, Bool.true_and]; rfl
theorem label_loop {C R : zr_Z} {T : List Int32} (hC : mC C T) (hR : mR R T) (hT : gT T) (a k : Nat) (ha : a ≤ T.length + 2) (hk : k ≤ T.length) :
    ∀ d i n m, i ≤ T.length + 1 → T.length - i ≤ d → d < n → d < m → ∃ x to, i ≤ x ∧ i ≤ to ∧ to ≤ T.length + 1 ∧ x ≤ T.length + 1 ∧ (mA T to = 93 → to = x) ∧ (x < T.length → mA T x = 93) ∧ g_96 n C (nI a) (nI i) = nI to ∧
      g_116_16 m R (nI k) (nI i) = (if x < T.length then (Option.bind (o_115 (zmf (zmf (zmf R 52 (nI (k + 1))) 53 (nI x)) 50 (nI (x + 1))) (nI (k + 1)) (nI x)) fun u3 => some (u3, zmf (zmf (zmf R 52 (nI (k + 1))) 53 (nI x)) 50 (nI (x + 1)))) else some (false, R)) := by
  have hl := hT.1
  have hS := hR.sk hT
  have h100 : nI a + 100 = nI (a + 100) := nI_add a 100
  have hz := hR.1
  have out : ∀ i n m, T.length ≤ i → i ≤ T.length + 1 → ∃ x to, i ≤ x ∧ i ≤ to ∧ to ≤ T.length + 1 ∧ x ≤ T.length + 1 ∧ (mA T to = 93 → to = x) ∧ (x < T.length → mA T x = 93) ∧ g_96 (n + 1) C (nI a) (nI i) = nI to ∧
      g_116_16 (m + 1) R (nI k) (nI i) = (if x < T.length then (Option.bind (o_115 (zmf (zmf (zmf R 52 (nI (k + 1))) 53 (nI x)) 50 (nI (x + 1))) (nI (k + 1)) (nI x)) fun u3 => some (u3, zmf (zmf (zmf R 52 (nI (k + 1))) 53 (nI x)) 50 (nI (x + 1)))) else some (false, R)) := by
    intro i n m h hi
    refine ⟨i, i, Nat.le_refl _, Nat.le_refl _, hi, hi, fun _ => rfl, fun h' => by omega, ?_, ?_⟩
    · simp (disch := omega) only [g_96, hC.sz, nI_leI]; rw [if_pos h]
    · simp (disch := omega) only [g_116_16, if_pos hS, hz, nI_leI, nI_ltI, h, if_true]; rw [if_neg (by omega), if_neg (by omega)]
  intro d
  induction d with
  | zero =>
    intro i n m hi hd hn hm
    obtain ⟨n, rfl⟩ : ∃ n', n = n' + 1 := ⟨n - 1, by omega⟩
    obtain ⟨m, rfl⟩ : ∃ n', m = n' + 1 := ⟨m - 1, by omega⟩
    exact out i n m (by omega) hi
  | succ d ih =>
    intro i n m hi hd hn hm
    obtain ⟨n, rfl⟩ : ∃ n', n = n' + 1 := ⟨n - 1, by omega⟩
    obtain ⟨m, rfl⟩ : ∃ n', m = n' + 1 := ⟨m - 1, by omega⟩
    by_cases hin : T.length ≤ i
    · exact out i n m hin hi
    · by_cases h93 : mA T i = 93
      · refine ⟨i, i, Nat.le_refl _, Nat.le_refl _, hi, hi, fun _ => rfl, fun _ => h93, ?_, ?_⟩
        · simp (disch := omega) only [g_96, hC.sz, nI_leI, hC.at, h93, hin, if_false, not_true_eq_false, ite_self]
        · simp (disch := omega) only [g_116_16, if_pos hS, hz, nI_leI, nI_ltI, hin, if_false, hR.at hT, h93, if_true, nI_1]
      · have := lst_pos T i
        have := lst_le T i
        obtain ⟨x, to, g1, g2, g3, g3', g4, g5, g6, g7⟩ := ih (i + lst T i) n m (by omega) (by omega) (by omega) (by omega)
        have hr : g_116_16 (m + 1) R (nI k) (nI i) = g_116_16 m R (nI k) (nI (i + lst T i)) := by
          simp (disch := omega) only [g_116_16, if_pos hS, hz, nI_leI, hin, if_false, hR.at hT, h93, olet, nI_ls]
        by_cases hs : a + 100 < i ∨ mA T i = 91
        · refine ⟨x, i, by omega, Nat.le_refl _, hi, g3', fun h => absurd h h93, g5, ?_, by rw [hr, g7]⟩
          simp (disch := omega) only [g_96, hC.sz, nI_leI, hC.at, h100, nI_ltI, hin, if_false]
          rcases hs with h | h
          · rw [if_pos h]
          · rw [if_pos h]; exact ite_self _
        · have h1 : ¬ a + 100 < i := fun h => hs (Or.inl h)
          have h2 : ¬ mA T i = 91 := fun h => hs (Or.inr h)
          refine ⟨x, to, by omega, by omega, g3, g3', g4, g5, ?_, by rw [hr, g7]⟩
          simp (disch := omega) only [g_96, hC.sz, nI_leI, hC.at, h100, nI_ltI, hin, h1, h2, h93, if_false, not_false_eq_true, if_true, nI_ls]; exact g6
theorem label_lock {C R : zr_Z} {T : List Int32} (hC : mC C T) (hR : mR R T) (hT : gT T) {k : Nat} (hk : k ≤ T.length) :
    (∃ to R', k + 1 ≤ to ∧ to < T.length ∧ to ≤ k + 101 ∧ mA T k = 91 ∧ mA T to = 93 ∧ f_96 C (nI (k + 1)) = nI to ∧ f_97 C (nI (k + 1)) (nI to) = true ∧ o_116 R (nI k) = some (true, R') ∧ sceq R R' ∧ zf R' 52 = nI (k + 1) ∧ zf R' 53 = nI to ∧ zf R' 50 = nI (to + 1)) ∨
    (∃ R', o_116 R (nI k) = some (false, R') ∧ sceq R R' ∧ (¬ mA T k = 91 ∨ ¬ zt C 61 (f_96 C (nI (k + 1))) = 93 ∨ ¬ f_97 C (nI (k + 1)) (f_96 C (nI (k + 1))) = true)) := by
  have hl := hT.1
  have hS := hR.sk hT
  by_cases h91 : ¬ mA T k = 91
  · right; refine ⟨R, ?_, sceq.refl R, Or.inl h91⟩
    unfold o_116; rw [if_pos hS, hR.at hT (by omega), if_neg h91]
  have h91 := Decidable.not_not.mp h91
  have hkl := mA_lt h91 (by decide)
  obtain ⟨x, to, g1, g2, g3, g3', g4, g5, g6, g7⟩ := label_loop hC hR hT (k + 1) k (by omega) hk (T.length - (k + 1)) (k + 1) (T.length - (k + 1) + 1) oF (by omega) (by omega) (by omega) (by unfold oF; omega)
  rw [← f96_eq hC hT (by omega)] at g6
  have ho : o_116 R (nI k) = g_116_16 oF R (nI k) (nI (k + 1)) := by
    unfold o_116; rw [if_pos hS, hR.at hT (by omega), if_pos h91, nI_1]
  rw [ho, g7]
  by_cases hx : x < T.length
  · rw [if_pos hx]
    have hsc : sceq R (zmf (zmf (zmf R 52 (nI (k + 1))) 53 (nI x)) 50 (nI (x + 1))) := (((sceq.refl R).zmf (by omega) _).zmf (by omega) _).zmf (by omega) _
    rw [ltext_lock hC (hsc.mR hR) hT g1 (by omega) (Or.inr (Or.inr (g5 hx)))]
    simp only [Option.bind]
    by_cases hf : f_97 C (nI (k + 1)) (nI x) = true
    · left
      have hf' := hf
      unfold f_97 at hf'
      simp only [Bool.and_eq_true, decide_eq_true_eq] at hf'
      have htx : to = x := by
        have := hf'.2.2.1
        rw [g6, nI_eq (by omega) (by omega)] at this; exact this
      have h100 : x - (k + 1) ≤ 100 := by
        have := hf'.2.1
        rw [pk_sub g1] at this
        have h2 : ¬ 100 < nI (x - (k + 1)) := by simpa using this
        rw [show (100 : Int32) = nI 100 from rfl, nI_ltI (by omega) (by omega)] at h2; omega
      subst htx
      refine ⟨to, _, g1, hx, by omega, h91, g5 hx, g6, hf, by rw [hf], hsc, ?_, ?_, zf_same _ _ _⟩
      · rw [zf_other _ _ (by decide), zf_other _ _ (by decide), zf_same]
      · rw [zf_other _ _ (by decide), zf_same]
    · right
      refine ⟨_, by rw [Bool.eq_false_iff.mpr hf], hsc, Or.inr ?_⟩
      by_cases hto : mA T to = 93
      · right; rw [g6, g4 hto]; exact hf
      · left; rw [g6, hC.at (by omega)]; exact hto
  · rw [if_neg hx]
    right
    refine ⟨R, rfl, sceq.refl R, Or.inr (Or.inl ?_)⟩
    rw [g6, hC.at (by omega)]
    intro h
    have := g4 h
    have := mA_lt h (by decide)
    omega
