/-! the mathematics; written by wip/whole/m2parts.py -/
theorem k141_eq {T : List Int32} (hT : gT T) (i : Nat) : k_141 (mA T i) = k_190 (mA T i) := byt (P := fun c => k_141 c = k_190 c) hT i (by decide +kernel)
theorem k197_eq {T : List Int32} (hT : gT T) (i : Nat) : (k_154 (mA T i) || k_165 (mA T i)) = k_197 (mA T i) ∧ (k_197 (mA T i) = true → k_190 (mA T i) = true) := byt (P := fun c => (k_154 c || k_165 c) = k_197 c ∧ (k_197 c = true → k_190 c = true)) hT i (by decide +kernel)
theorem k201_eq {T : List Int32} (hT : gT T) (i : Nat) : k_201 (mA T i) = (k_154 (mA T i) || (k_165 (mA T i) || (decide (mA T i = 43) || (decide (mA T i = 45) || decide (mA T i = 46))))) := byt (P := fun c => k_201 c = (k_154 c || (k_165 c || (decide (c = 43) || (decide (c = 45) || decide (c = 46)))))) hT i (by decide +kernel)
theorem k154_eq (c : Int32) : k_154 c = k_196 c := rfl
theorem r142m {R : zr_Z} {T : List Int32} (hR : mR R T) (hT : gT T) {k : Nat} (hk : k < T.length) :
    (∃ x, mMail T k x ∧ x < T.length ∧ g_142_166 oF R (nI k) (nI (k + 1)) = some (nI x, zmf R 51 1)) ∨ ((∀ x, ¬ mMail T k x) ∧ ∃ R', g_142_166 oF R (nI k) (nI (k + 1)) = some (-1, R') ∧ sceq R R') := by
  have hl := hT.1
  have hS := hR.sk hT
  have hP : k_190 (-1) = false := by decide
  obtain ⟨a, ha, hal⟩ := wl_ex (T := T) hP (T.length - (k + 1)) (k + 1) (by omega)
  have l1 : ∀ d i m, i + d = a → k + 1 ≤ i → d < m → g_142_166 m R (nI k) (nI i) = (if a = k + 1 then some (-1, R) else if mA T a = 64 then g_142_210 oF R (nI k) (nI (a + 1)) (nI (a + 1)) else some (-1, R)) := by
    intro d
    induction d with
    | zero =>
      intro i m hi hki hm
      obtain ⟨m, rfl⟩ : ∃ z, m = z + 1 := ⟨m - 1, by omega⟩
      obtain rfl : i = a := by omega
      rw [g_142_166, if_pos hS, hR.at hT (by omega), k141_eq hT, ha.2.2, if_neg (by decide), nI_1, nI_1]
      by_cases e : i = k + 1
      · rw [if_pos e, if_pos (by rw [e])]
      · rw [if_neg e, if_neg (by rw [nI_eq (by omega) (by omega)]; exact e)]
    | succ d ih =>
      intro i m hi hki hm
      obtain ⟨m, rfl⟩ : ∃ z, m = z + 1 := ⟨m - 1, by omega⟩
      rw [g_142_166, if_pos hS, hR.at hT (by omega), k141_eq hT, ha.2.1 i hki (by omega), if_pos rfl, nI_1]
      exact ih (i + 1) m (by omega) (by omega) (by omega)
  have hka := ha.1
  rw [l1 (a - (k + 1)) (k + 1) oF (by omega) (Nat.le_refl _) (by unfold oF; omega)]
  by_cases e1 : a = k + 1
  · right
    refine ⟨fun x ⟨b, g1, g2, _⟩ => ?_, R, if_pos e1, sceq.refl R⟩
    have := wl_uniq ha g1; omega
  rw [if_neg e1]
  by_cases e2 : mA T a = 64
  · have hal2 := mA_lt e2 (by decide)
    rw [if_pos e2]
    obtain ⟨x, hx, hxl⟩ := wl_ex (T := T) hP (T.length - (a + 1)) (a + 1) (by omega)
    have hax := hx.1
    have l2 : ∀ d i m, i + d = x → a + 1 ≤ i → d < m → g_142_210 m R (nI k) (nI i) (nI (a + 1)) = some ((if ((!(decide (x ≤ a + 1))) && (k_197 (mA T (a + 1)) && k_197 (mA T (x - 1)))) = true then (if ¬ mA T x = 62 then (-1) else nI x : Int32) else (-1) : Int32), zmf R 51 1) := by
      intro d
      induction d with
      | zero =>
        intro i m hi hki hm
        obtain ⟨m, rfl⟩ : ∃ z, m = z + 1 := ⟨m - 1, by omega⟩
        obtain rfl : i = x := by omega
        rw [g_142_210, if_pos hS, hR.at hT (by omega), k141_eq hT, hx.2.2, if_neg (by decide), nI_sub1 (by omega), hR.at hT (by omega), hR.at hT (by omega)]
        simp only [olet]
        have hb : (bif k_154 (mA T (a + 1)) then k_154 (mA T (i - 1)) || k_165 (mA T (i - 1)) else k_165 (mA T (a + 1)) && (k_154 (mA T (i - 1)) || k_165 (mA T (i - 1)))) = (k_197 (mA T (a + 1)) && k_197 (mA T (i - 1))) := by
          rw [← (k197_eq hT (a + 1)).1, ← (k197_eq hT (i - 1)).1]
          cases k_154 (mA T (a + 1)) <;> cases k_165 (mA T (a + 1)) <;> rfl
        rw [hb]
        have hd : decide (nI i ≤ nI (a + 1)) = decide (i ≤ a + 1) := decide_eq_decide.mpr (nI_leI (by omega) (by omega))
        rw [hd]
      | succ d ih =>
        intro i m hi hki hm
        obtain ⟨m, rfl⟩ : ∃ z, m = z + 1 := ⟨m - 1, by omega⟩
        rw [g_142_210, if_pos hS, hR.at hT (by omega), k141_eq hT, hx.2.1 i hki (by omega), if_pos rfl, nI_1]
        exact ih (i + 1) m (by omega) (by omega) (by omega)
    rw [l2 (x - (a + 1)) (a + 1) oF (by omega) (Nat.le_refl _) (by unfold oF; omega)]
    have hsc : sceq R (zmf R 51 1) := (sceq.refl R).zmf (by omega) _
    have uni : ∀ y, mMail T k y → y = x ∧ k_197 (mA T (a + 1)) = true ∧ k_197 (mA T (x - 1)) = true ∧ mA T x = 62 := by
      rintro y ⟨b, q1, q2, q3, q4, q5, q6, q7⟩
      obtain rfl := wl_uniq ha q1
      obtain rfl := wl_uniq hx q4
      exact ⟨rfl, q5, q6, q7⟩
    by_cases e3 : k_197 (mA T (a + 1)) = true ∧ k_197 (mA T (x - 1)) = true
    · have hax2 : ¬ x ≤ a + 1 := by
        intro hle
        have : x = a + 1 := by omega
        have h1 := (k197_eq hT (a + 1)).2 e3.1
        have h2 := hx.2.2
        rw [this, h1] at h2; exact absurd h2 (by decide)
      rw [decide_eq_false hax2, e3.1, e3.2, if_pos (show (!false && (true && true)) = true from rfl)]
      by_cases e4 : mA T x = 62
      · left; exact ⟨x, ⟨a, ha, by omega, e2, hx, e3.1, e3.2, e4⟩, mA_lt e4 (by decide), by rw [if_neg (fun h => h e4)]⟩
      · right; exact ⟨fun y hy => e4 (uni y hy).2.2.2, _, by rw [if_pos e4], hsc⟩
    · right
      refine ⟨fun y hy => e3 ⟨(uni y hy).2.1, (uni y hy).2.2.1⟩, _, ?_, hsc⟩
      rw [if_neg]
      intro hh
      rw [Bool.and_eq_true, Bool.and_eq_true] at hh
      exact e3 hh.2
  · right
    rw [if_neg e2]
    refine ⟨fun y ⟨b, q1, q2, q3, _⟩ => ?_, R, rfl, sceq.refl R⟩
    obtain rfl := wl_uniq ha q1
    exact e2 q3
theorem r142 {R : zr_Z} {T : List Int32} (hR : mR R T) (hT : gT T) {k : Nat} (hk : k < T.length) :
    (∃ x, mAddr T k x ∧ x < T.length ∧ o_142 R (nI k) = some (nI x, zmf R 51 0)) ∨
    ((∀ x, ¬ mAddr T k x) ∧ ((∃ x, mMail T k x ∧ x < T.length ∧ o_142 R (nI k) = some (nI x, zmf R 51 1)) ∨ ((∀ x, ¬ mMail T k x) ∧ ∃ R', o_142 R (nI k) = some (-1, R') ∧ sceq R R'))) := by
  have hl := hT.1
  have hS := hR.sk hT
  have hmail := r142m hR hT hk
  have fall : o_142 R (nI k) = g_142_166 oF R (nI k) (nI (k + 1)) → (∀ x, ¬ mAddr T k x) → (∃ x, mAddr T k x ∧ x < T.length ∧ o_142 R (nI k) = some (nI x, zmf R 51 0)) ∨
    ((∀ x, ¬ mAddr T k x) ∧ ((∃ x, mMail T k x ∧ x < T.length ∧ o_142 R (nI k) = some (nI x, zmf R 51 1)) ∨ ((∀ x, ¬ mMail T k x) ∧ ∃ R', o_142 R (nI k) = some (-1, R') ∧ sceq R R'))) := by
    intro h1 h2
    right; rw [h1]; exact ⟨h2, hmail⟩
  have h0 : o_142 R (nI k) = g_142_4 oF R (nI k) (nI (k + 1)) := by unfold o_142; rw [if_pos hS, nI_1]
  have hsub : ∀ i, k + 1 ≤ i → i ≤ 1600 → nI i - nI k - 1 = nI (i - k - 1) := by
    intro i h1 h2; rw [pk_sub (by omega), nI_sub1 (by omega)]
  have stop : ∀ i m, k + 1 ≤ i → i ≤ T.length → (k_154 (mA T i) = false) → (i = k + 1 ∨ k_201 (mA T i) = false) → g_142_4 (m + 1) R (nI k) (nI i) = (if i - k - 1 ≤ 1 then g_142_166 oF R (nI k) (nI (k + 1)) else if 33 ≤ i - k - 1 then g_142_166 oF R (nI k) (nI (k + 1)) else if ¬ mA T i = 58 then g_142_166 oF R (nI k) (nI (k + 1)) else g_142_99 oF R (nI k) (nI (i + 1))) := by
    intro i m h1 h2 h3 h4
    have hle1 : nI (i - k - 1) ≤ 1 ↔ i - k - 1 ≤ 1 := by rw [show (1 : Int32) = nI 1 from rfl, nI_leI (by omega) (by omega)]
    have hle33 : 33 ≤ nI (i - k - 1) ↔ 33 ≤ i - k - 1 := by rw [show (33 : Int32) = nI 33 from rfl, nI_leI (by omega) (by omega)]
    have body : (if ((nI i - nI k) - 1) ≤ 1 then g_142_166 oF R (nI k) (nI k + 1) else (if 33 ≤ ((nI i - nI k) - 1) then g_142_166 oF R (nI k) (nI k + 1) else (if ¬ mA T i = 58 then g_142_166 oF R (nI k) (nI k + 1) else g_142_99 oF R (nI k) (nI i + 1)))) = (if i - k - 1 ≤ 1 then g_142_166 oF R (nI k) (nI (k + 1)) else if 33 ≤ i - k - 1 then g_142_166 oF R (nI k) (nI (k + 1)) else if ¬ mA T i = 58 then g_142_166 oF R (nI k) (nI (k + 1)) else g_142_99 oF R (nI k) (nI (i + 1))) := by
      rw [hsub i h1 (by omega), nI_1, nI_1]
      simp only [hle1, hle33]
    rw [g_142_4, if_pos hS, hR.at hT (by omega), h3, if_neg (by decide), nI_1]
    rw [nI_1] at body
    by_cases e : i ≤ k + 1
    · rw [if_pos ((nI_leI (by omega) (by omega)).mpr e)]; exact body
    · have h201 : k_201 (mA T i) = false := by
        rcases h4 with h4 | h4
        · omega
        · exact h4
      rw [k201_eq hT, h3, Bool.false_or, Bool.or_eq_false_iff, Bool.or_eq_false_iff, Bool.or_eq_false_iff] at h201
      rw [if_neg (by rw [nI_leI (by omega) (by omega)]; exact e), h201.1, if_neg (by decide), if_neg (of_decide_eq_false h201.2.1), if_neg (of_decide_eq_false h201.2.2.1), if_pos (of_decide_eq_false h201.2.2.2)]; exact body
  by_cases e1 : k_196 (mA T (k + 1)) = true
  · have hk1 : k + 1 < T.length := Nat.lt_of_not_le (fun hh => by rw [mA_out hh] at e1; exact absurd e1 (by decide))
    obtain ⟨a, ha, hal⟩ := wl_ex (P := k_201) (T := T) (by decide) (T.length - (k + 2)) (k + 2) (by omega)
    have hka := ha.1
    have l1 : ∀ d i m, i + d = a → k + 1 ≤ i → d < m → g_142_4 m R (nI k) (nI i) = (if a - k - 1 ≤ 1 then g_142_166 oF R (nI k) (nI (k + 1)) else if 33 ≤ a - k - 1 then g_142_166 oF R (nI k) (nI (k + 1)) else if ¬ mA T a = 58 then g_142_166 oF R (nI k) (nI (k + 1)) else g_142_99 oF R (nI k) (nI (a + 1))) := by
      intro d
      induction d with
      | zero =>
        intro i m hi hki hm
        obtain ⟨m, rfl⟩ : ∃ z, m = z + 1 := ⟨m - 1, by omega⟩
        obtain rfl : i = a := by omega
        have h201 := ha.2.2
        have h154 : k_154 (mA T i) = false := by
          rw [k201_eq hT, Bool.or_eq_false_iff] at h201; exact h201.1
        exact stop i m hki hal h154 (Or.inr ha.2.2)
      | succ d ih =>
        intro i m hi hki hm
        obtain ⟨m, rfl⟩ : ∃ z, m = z + 1 := ⟨m - 1, by omega⟩
        have hstep : g_142_4 (m + 1) R (nI k) (nI i) = g_142_4 m R (nI k) (nI (i + 1)) := by
          rw [g_142_4, if_pos hS, hR.at hT (by omega), nI_1]
          by_cases e : i = k + 1
          · rw [e, k154_eq, if_pos e1]
          · have h201 := ha.2.1 i (by omega) (by omega)
            rw [k201_eq hT] at h201
            by_cases g1 : k_154 (mA T i) = true
            · rw [if_pos g1]
            · rw [if_neg g1, if_neg (by rw [nI_1, nI_leI (by omega) (by omega)]; omega)]
              rw [Bool.eq_false_iff.mpr g1, Bool.false_or] at h201
              by_cases g2 : k_165 (mA T i) = true
              · rw [if_pos g2]
              · rw [if_neg g2]
                rw [Bool.eq_false_iff.mpr g2, Bool.false_or] at h201
                by_cases g3 : mA T i = 43
                · rw [if_pos g3]
                · rw [if_neg g3]
                  rw [decide_eq_false g3, Bool.false_or] at h201
                  by_cases g4 : mA T i = 45
                  · rw [if_pos g4]
                  · rw [if_neg g4]
                    rw [decide_eq_false g4, Bool.false_or] at h201
                    rw [if_neg (fun h => h (of_decide_eq_true h201))]
        rw [hstep]; exact ih (i + 1) m (by omega) (by omega) (by omega)
    have hmain := h0.trans (l1 (a - (k + 1)) (k + 1) oF (by omega) (Nat.le_refl _) (by unfold oF; omega))
    have uni : ∀ y, mAddr T k y → k + 2 < a ∧ a ≤ k + 33 ∧ mA T a = 58 ∧ wl k_191 T (a + 1) y ∧ mA T y = 62 := by
      rintro y ⟨b, q1, q2, q3, q4, q5, q6, q7⟩
      obtain rfl := wl_uniq ha q2
      exact ⟨q3, q4, q5, q6, q7⟩
    by_cases e2 : a - k - 1 ≤ 1
    · rw [if_pos e2] at hmain
      exact fall hmain (fun y hy => by have := uni y hy; omega)
    rw [if_neg e2] at hmain
    by_cases e3 : 33 ≤ a - k - 1
    · rw [if_pos e3] at hmain
      exact fall hmain (fun y hy => by have := uni y hy; omega)
    rw [if_neg e3] at hmain
    by_cases e4 : mA T a = 58
    · have hal2 := mA_lt e4 (by decide)
      rw [if_neg (fun h => h e4)] at hmain
      obtain ⟨x, hx, hxl⟩ := wl_ex (P := k_191) (T := T) (by decide) (T.length - (a + 1)) (a + 1) (by omega)
      have hax := hx.1
      have l2 : ∀ d i m, i + d = x → a + 1 ≤ i → d < m → g_142_99 m R (nI k) (nI i) = (if ¬ mA T x = 62 then g_142_166 oF R (nI k) (nI (k + 1)) else some (nI x, zmf R 51 0)) := by
        intro d
        induction d with
        | zero =>
          intro i m hi hki hm
          obtain ⟨m, rfl⟩ : ∃ z, m = z + 1 := ⟨m - 1, by omega⟩
          obtain rfl : i = x := by omega
          have h191 := hx.2.2
          unfold k_191 at h191
          rw [g_142_99, if_pos hS, hR.at hT (by omega), nI_1]
          by_cases g1 : mA T i ≤ 32
          · rw [if_pos g1]
          · rw [if_neg g1]
            by_cases g2 : mA T i = 60
            · rw [if_pos g2]
            · rw [if_neg g2]
              by_cases g3 : mA T i = 62
              · rw [if_pos g3]
              · rw [if_neg g3]
                by_cases g4 : mA T i = 127
                · rw [if_pos g4]
                · rw [decide_eq_false g1, decide_eq_false g2, decide_eq_false g3, decide_eq_false g4] at h191
                  exact absurd h191 (by decide)
        | succ d ih =>
          intro i m hi hki hm
          obtain ⟨m, rfl⟩ : ∃ z, m = z + 1 := ⟨m - 1, by omega⟩
          have h191 := hx.2.1 i hki (by omega)
          unfold k_191 at h191
          simp only [Bool.and_eq_true, Bool.not_eq_true', decide_eq_false_iff_not] at h191
          rw [g_142_99, if_pos hS, hR.at hT (by omega), if_neg h191.1, if_neg h191.2.1, if_neg h191.2.2.1, if_neg h191.2.2.2, nI_1]
          exact ih (i + 1) m (by omega) (by omega) (by omega)
      rw [l2 (x - (a + 1)) (a + 1) oF (by omega) (Nat.le_refl _) (by unfold oF; omega)] at hmain
      by_cases e5 : mA T x = 62
      · left
        rw [if_neg (fun h => h e5)] at hmain
        exact ⟨x, ⟨a, e1, ha, by omega, by omega, e4, hx, e5⟩, mA_lt e5 (by decide), hmain⟩
      · rw [if_pos e5] at hmain
        refine fall hmain (fun y hy => ?_)
        obtain ⟨_, _, _, q4, q5⟩ := uni y hy
        obtain rfl := wl_uniq hx q4
        exact e5 q5
    · rw [if_pos e4] at hmain
      exact fall hmain (fun y hy => e4 (uni y hy).2.2.1)
  · have h154 : k_154 (mA T (k + 1)) = false := by rw [k154_eq]; exact Bool.eq_false_iff.mpr e1
    obtain ⟨m, hm⟩ := oF_1
    have hst := stop (k + 1) m (Nat.le_refl _) (by omega) h154 (Or.inl rfl)
    rw [hm] at h0
    have := h0.trans hst
    rw [if_pos (by omega)] at this
    exact fall this (fun y ⟨b, q1, _⟩ => e1 q1)
theorem r144 {R : zr_Z} {T : List Int32} (hR : mR R T) (hT : gT T) {k : Nat} (hk : k < T.length) : o_144 R (nI k) = some (mRaw T k) := by
  have hl := hT.1
  have hS := hR.sk hT
  have hz : zf R 3 = nI T.length := hR.1
  have loop : ∀ d i m, i + d = T.length → d < m → g_144_52 m R (nI k) (nI i) = some (decide (62 ∈ T.drop i)) := by
    intro d
    induction d with
    | zero =>
      intro i m hi hm
      obtain ⟨m, rfl⟩ : ∃ z, m = z + 1 := ⟨m - 1, by omega⟩
      have hle : nI T.length ≤ nI i := (nI_leI (by omega) (by omega)).mpr (by omega)
      rw [g_144_52, if_pos hS, hz, if_pos hle, decide_eq_true hle, List.drop_eq_nil_of_le (by omega)]; rfl
    | succ d ih =>
      intro i m hi hm
      obtain ⟨m, rfl⟩ : ∃ z, m = z + 1 := ⟨m - 1, by omega⟩
      have hil : i < T.length := by omega
      have hle : ¬ nI T.length ≤ nI i := by rw [nI_leI (by omega) (by omega)]; omega
      have hm' : mA T i = T[i] := by unfold mA; rw [List.getD_eq_getElem?_getD, List.getElem?_eq_getElem hil]; rfl
      rw [g_144_52, if_pos hS, hz, if_neg hle, decide_eq_false hle, hR.at hT (by omega), nI_1, List.drop_eq_getElem_cons hil, ← hm']
      by_cases g : mA T i = 62
      · rw [if_pos g, g]; simp
      · rw [if_neg g, ih (i + 1) m (by omega) (by omega)]
        congr 1
        refine decide_eq_decide.mpr ⟨fun hh => List.mem_cons_of_mem _ hh, fun hh => ?_⟩
        rcases List.mem_cons.mp hh with h | h
        · exact absurd h.symm g
        · exact h
  by_cases hk1 : k + 1 ≤ T.length
  · have hlp := loop (T.length - (k + 1)) (k + 1) oF (by omega) (by unfold oF; omega)
    unfold o_144 mRaw
    rw [if_pos hS, nI_1, nI_2, hR.at hT (by omega), hR.at hT (by omega), hlp, k154_eq, k154_eq]
    generalize decide (62 ∈ List.drop (k + 1) T) = b
    by_cases g1 : k_196 (mA T (k + 1)) = true
    · rw [if_pos g1, g1]; rfl
    · rw [if_neg g1, Bool.eq_false_iff.mpr g1]
      by_cases g2 : mA T (k + 1) = 47
      · rw [if_neg (fun h => h g2), g2]
        by_cases g3 : k_196 (mA T (k + 2)) = true
        · rw [if_pos g3, g3]; rfl
        · rw [if_neg g3, Bool.eq_false_iff.mpr g3]; rfl
      · rw [if_pos g2]
        by_cases g3 : mA T (k + 1) = 33
        · rw [if_pos g3, g3]; rfl
        · rw [if_neg g3]
          by_cases g4 : mA T (k + 1) = 63
          · rw [if_pos g4, g4]; rfl
          · rw [if_neg g4, decide_eq_false g2, decide_eq_false g3, decide_eq_false g4]; rfl
  · omega
