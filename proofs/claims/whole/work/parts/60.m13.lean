/-! the mathematics; written by wip/whole/m2parts.py -/
def nl32 (c : Int32) : Int32 := if c = 10 then 32 else c
def mcl (T : List Int32) : Nat → Nat → List Int32
  | _, 0 => []
  | a, n + 1 => nl32 (mA T a) :: mcl T (a + 1) n
def all32 (T : List Int32) : Nat → Nat → Bool
  | _, 0 => true
  | a, n + 1 => decide (nl32 (mA T a) = 32) && all32 T (a + 1) n
def codeL (T : List Int32) (a b : Nat) : List Int32 :=
  if all32 T a (b - a) = false ∧ nl32 (mA T a) = 32 ∧ nl32 (mA T (b - 1)) = 32 then mcl T (a + 1) (b - 1 - (a + 1)) else mcl T a (b - a)
theorem mcl_len (T : List Int32) : ∀ n a, (mcl T a n).length = n := by
  intro n
  induction n with
  | zero => intro a; rfl
  | succ n ih => intro a; rw [mcl, List.length_cons, ih]
theorem codeL_len (T : List Int32) (a b : Nat) : (codeL T a b).length ≤ b - a := by
  unfold codeL; split <;> rw [mcl_len] <;> omega
theorem ctk_text {C : zr_Z} {T : List Int32} : ∀ n a, (∀ q, a ≤ q → q < a + n → kd C q = 0 ∧ vl C q = nl32 (mA T q)) → ctk C T a n = (mcl T a n).map tkc := by
  intro n
  induction n with
  | zero => intro a _; rfl
  | succ n ih =>
    intro a h
    rw [ctk, mcl, List.map_cons, ih (a + 1) (fun q h1 h2 => h q (by omega) (by omega))]
    have := h a (Nat.le_refl _) (by omega)
    unfold ctok; rw [this.1, if_neg (by decide), if_pos rfl, this.2]; rfl
theorem all32_two {T : List Int32} {a n : Nat} (h : all32 T a n = false) (h1 : nl32 (mA T a) = 32) : 2 ≤ n := by
  cases n with
  | zero => rw [all32] at h; exact absurd h (by decide)
  | succ n => cases n with
    | zero => rw [all32, all32, decide_eq_true h1] at h; exact absurd h (by decide)
    | succ n => omega
theorem c58m {C : zr_Z} {T : List Int32} (hC : mC C T) (hT : gT T) {p fr to n : Nat} (hpf : p + n = fr) (hn : 1 ≤ n) (hft : fr < to) (htn : to + n ≤ T.length)
    (hk : (C.1 66).length = T.length) (hv : (C.1 68).length = T.length) (hun : ∀ q, p ≤ q → q < to + n → kd C q = 0 ∧ vl C q = mA T q) {m : Nat} (hm : to - fr < m) :
    ∃ C', g_58_31 m C (nI p) (nI fr) (nI to) true (nI fr) = some (nI (to + n), C') ∧ ckeep C C' ∧ (∀ q, ¬ (p ≤ q ∧ q < to + n) → kd C' q = kd C q ∧ vl C' q = vl C q) ∧ (∀ q, p ≤ q → q < to + n → ¬ (kd C' q = 6 ∨ kd C' q = 7)) ∧
      ctk C' T p (to + n - p) = tk0 3 :: ((codeL T fr to).map tkc ++ [tk0 10]) := by
  have hl := hT.1
  have loop : ∀ d i m y D, i + d = to → d < m → fr ≤ i → ckeep C D → (∀ q, kd D q = kd C q) → (∀ q, vl D q = if fr ≤ q ∧ q < i then nl32 (mA T q) else vl C q) →
      ∃ D', ckeep C D' ∧ (∀ q, kd D' q = kd C q) ∧ (∀ q, vl D' q = if fr ≤ q ∧ q < to then nl32 (mA T q) else vl C q) ∧ ∀ m', g_58_31 m D (nI p) (nI fr) (nI to) y (nI i) = g_58_31 (m' + 1) D' (nI p) (nI fr) (nI to) (y && all32 T i d) (nI to) := by
    intro d
    induction d with
    | zero =>
      intro i m y D hi hm hfi hkp hkd hvl
      obtain ⟨m, rfl⟩ : ∃ k, m = k + 1 := ⟨m - 1, by omega⟩
      obtain rfl : i = to := by omega
      refine ⟨D, hkp, hkd, hvl, fun m' => ?_⟩
      rw [all32, Bool.and_true, g_58_31, g_58_31]
      rw [if_pos ((nI_leI (by omega) (by omega)).mpr (Nat.le_refl _)), if_pos ((nI_leI (by omega) (by omega)).mpr (Nat.le_refl _))]
    | succ d ih =>
      intro i m y D hi hm hfi hkp hkd hvl
      obtain ⟨m, rfl⟩ : ∃ k, m = k + 1 := ⟨m - 1, by omega⟩
      have hDC := hkp.mC hC
      have hvi : vl D i = mA T i := by rw [hvl, if_neg (by omega)]; exact (hun i (by omega) (by omega)).2
      have hzt : ∀ D : zr_Z, zt D 68 (nI i) = vl D i := fun D => by unfold zt vl; rw [rat_mA (by omega)]; rfl
      by_cases h10 : mA T i = 10
      · obtain ⟨g1, g2, g3⟩ := put68 (C := D) (p := i) (by rw [hkp.2.2.2]; omega) (by rw [hkp.2.2.2]; omega) 32
        have hn32 : nl32 (mA T i) = 32 := by unfold nl32; rw [if_pos h10]
        obtain ⟨D', q1, q2, q3, q4⟩ := ih (i + 1) m (y && decide (nl32 (mA T i) = 32)) (zput D 68 (nI i) 32) (by omega) (by omega) (by omega) (hkp.trans g1) (fun q => (g2 q).trans (hkd q)) (fun q => by
          rw [g3, hvl]
          by_cases e : q = i
          · rw [if_pos e, if_pos (by omega), e, hn32]
          · rw [if_neg e]
            by_cases e2 : fr ≤ q ∧ q < i
            · rw [if_pos e2, if_pos (by omega)]
            · rw [if_neg e2, if_neg (by omega)])
        refine ⟨D', q1, q2, q3, fun m' => ?_⟩
        rw [all32, ← Bool.and_assoc, ← q4 m', g_58_31, if_neg (by rw [nI_leI (by omega) (by omega)]; omega), hDC.at (by omega), if_neg (fun h => h h10), nI_1]
        simp only [olet]
        rw [hzt, g3, if_pos rfl, hn32]
      · have hn32 : nl32 (mA T i) = mA T i := by unfold nl32; rw [if_neg h10]
        obtain ⟨D', q1, q2, q3, q4⟩ := ih (i + 1) m (y && decide (nl32 (mA T i) = 32)) D (by omega) (by omega) (by omega) hkp hkd (fun q => by
          rw [hvl]
          by_cases e : q = i
          · rw [if_neg (by omega), if_pos (by omega), e, hn32]; exact (hun i (by omega) (by omega)).2
          · by_cases e2 : fr ≤ q ∧ q < i
            · rw [if_pos e2, if_pos (by omega)]
            · rw [if_neg e2, if_neg (by omega)])
        refine ⟨D', q1, q2, q3, fun m' => ?_⟩
        rw [all32, ← Bool.and_assoc, ← q4 m', g_58_31, if_neg (by rw [nI_leI (by omega) (by omega)]; omega), hDC.at (by omega), if_pos h10, nI_1]
        simp only [olet]
        rw [hzt, hvi, hn32]
  obtain ⟨D, q1, q2, q3, q4⟩ := loop (to - fr) fr m true C (by omega) hm (Nat.le_refl _) (ckeep.refl C) (fun _ => rfl) (fun q => by rw [if_neg (by omega)])
  rw [q4 0, Bool.true_and]
  have hDk : (D.1 66).length = T.length := q1.2.2.1.trans hk
  have hDv : (D.1 68).length = T.length := q1.2.2.2.trans hv
  have hend : nI to + nI fr - nI p = nI (to + n) := by rw [nI_add, pk_sub (by omega)]; congr 1; omega
  obtain ⟨a1, a2, a3⟩ := erase (C := D) (a := p) (b := fr) (by omega) (by omega) (by omega)
  obtain ⟨b1, b2, b3⟩ := erase (C := f_35 D (nI p) (nI fr)) (a := to) (b := to + n) (by omega) (by rw [a1.2.2.1]; omega) (by rw [a1.2.2.1]; omega)
  have b1' := a1.trans b1
  obtain ⟨c1, c2, c3⟩ := put66 (C := f_35 (f_35 D (nI p) (nI fr)) (nI to) (nI (to + n))) (p := p) (by rw [b1'.2.2.1]; omega) (by rw [b1'.2.2.1]; omega) 3
  have c1' := b1'.trans c1
  obtain ⟨d1, d2, d3⟩ := put66 (C := zput (f_35 (f_35 D (nI p) (nI fr)) (nI to) (nI (to + n))) 66 (nI p) 3) (p := to) (by rw [c1'.2.2.1]; omega) (by rw [c1'.2.2.1]; omega) 10
  have d1' := c1'.trans d1
  rw [g_58_31, if_pos ((nI_leI (by omega) (by omega)).mpr (Nat.le_refl _))]
  simp only [olet, hend]
  generalize hZ : zput (zput (f_35 (f_35 D (nI p) (nI fr)) (nI to) (nI (to + n))) 66 (nI p) 3) 66 (nI to) 10 = Z2
  rw [hZ] at d1 d2 d3 d1'
  have zk : ∀ q, kd Z2 q = if q = to then 10 else if q = p then 3 else if to ≤ q ∧ q < to + n then 8 else if p ≤ q ∧ q < fr then 8 else kd C q := by
    intro q; rw [d2, c2, b2, a2, q2]
  have zvv : ∀ q, vl Z2 q = if fr ≤ q ∧ q < to then nl32 (mA T q) else vl C q := by
    intro q; rw [d3, c3, b3, a3, q3]
  have hzt : ∀ i, i ≤ 1500 → zt Z2 68 (nI i) = vl Z2 i := fun i hi => by unfold zt vl; rw [rat_mA (by omega)]; rfl
  have keep2 := q1.trans d1'
  have tok : ∀ (E : zr_Z) l, ckeep C E → (∀ q, ¬ (fr ≤ q ∧ q < to) → kd E q = kd Z2 q) → ctk E T fr (to - fr) = l → ctk E T p (to + n - p) = tk0 3 :: (l ++ [tk0 10]) := by
    intro E l hE hEk hl
    rw [show to + n - p = 1 + ((n - 1) + ((to - fr) + (1 + (n - 1)))) by omega, ctk_add, ctk_add, ctk_add, ctk_add, ctk_one, ctk_one]
    rw [ctk_gone (n - 1) (p + 1) (fun q h1 h2 => by rw [hEk q (by omega), zk, if_neg (by omega), if_neg (by omega), if_neg (by omega), if_pos (by omega)])]
    rw [show p + 1 + (n - 1) = fr by omega, hl, show fr + (to - fr) = to by omega]
    rw [ctk_gone (n - 1) (to + 1) (fun q h1 h2 => by rw [hEk q (by omega), zk, if_neg (by omega), if_neg (by omega), if_pos (by omega)])]
    have e1 : ctok E T p = [tk0 3] := by
      have hk3 : kd E p = 3 := by rw [hEk p (by omega), zk, if_neg (by omega), if_pos rfl]
      unfold ctok; rw [hk3, if_neg (by decide), if_neg (by decide), if_neg (by decide)]
    have e2 : ctok E T to = [tk0 10] := by
      have hk3 : kd E to = 10 := by rw [hEk to (by omega), zk, if_pos rfl]
      unfold ctok; rw [hk3, if_neg (by decide), if_neg (by decide), if_neg (by decide)]
    rw [e1, e2]; simp
  have mid : ∀ q, fr ≤ q → q < to → kd Z2 q = 0 ∧ vl Z2 q = nl32 (mA T q) := by
    intro q h1 h2
    rw [zk, zvv, if_neg (by omega), if_neg (by omega), if_neg (by omega), if_neg (by omega), if_pos ⟨h1, h2⟩]
    exact ⟨(hun q (by omega) (by omega)).1, rfl⟩
  have outk : ∀ q, ¬ (p ≤ q ∧ q < to + n) → kd Z2 q = kd C q ∧ vl Z2 q = vl C q := by
    intro q hq
    rw [zk, zvv, if_neg (by omega), if_neg (by omega), if_neg (by omega), if_neg (by omega), if_neg (by omega)]
    exact ⟨rfl, rfl⟩
  have no67 : ∀ q, p ≤ q → q < to + n → ¬ (kd Z2 q = 6 ∨ kd Z2 q = 7) := by
    intro q h1 h2
    rw [zk, (hun q h1 h2).1]
    repeat (first | split | decide)
  have plain : ¬ (all32 T fr (to - fr) = false ∧ nl32 (mA T fr) = 32 ∧ nl32 (mA T (to - 1)) = 32) → ctk Z2 T p (to + n - p) = tk0 3 :: ((codeL T fr to).map tkc ++ [tk0 10]) := by
    intro h
    refine tok Z2 _ keep2 (fun q _ => rfl) ?_
    unfold codeL; rw [if_neg h]
    exact ctk_text _ _ (fun q h1 h2 => mid q h1 (by omega))
  have v1 : zt Z2 68 (nI fr) = nl32 (mA T fr) := by rw [hzt fr (by omega), (mid fr (Nat.le_refl _) hft).2]
  have v2 : zt Z2 68 (nI to - 1) = nl32 (mA T (to - 1)) := by rw [nI_sub1 (by omega), hzt _ (by omega), (mid (to - 1) (by omega) (by omega)).2]
  by_cases ha : all32 T fr (to - fr) = true
  · rw [if_pos ha]
    exact ⟨Z2, rfl, keep2, outk, no67, plain (fun h => by rw [ha] at h; exact absurd h.1 (by decide))⟩
  · rw [if_neg ha, v1]
    by_cases h1 : nl32 (mA T fr) = 32
    · rw [if_neg (fun h => h h1), v2]
      by_cases h2 : nl32 (mA T (to - 1)) = 32
      · rw [if_neg (fun h => h h2)]
        have htwo := all32_two (Bool.eq_false_iff.mpr ha) h1
        rw [nI_1, nI_sub1 (by omega)]
        have z66 : (Z2.1 66).length = T.length := keep2.2.2.1.trans hk
        obtain ⟨e1, e2, e3⟩ := erase (C := Z2) (a := fr) (b := fr + 1) (by omega) (by omega) (by omega)
        obtain ⟨f1, f2, f3⟩ := erase (C := f_35 Z2 (nI fr) (nI (fr + 1))) (a := to - 1) (b := to) (by omega) (by rw [e1.2.2.1]; omega) (by rw [e1.2.2.1]; omega)
        generalize hE : f_35 (f_35 Z2 (nI fr) (nI (fr + 1))) (nI (to - 1)) (nI to) = E
        rw [hE] at f1 f2 f3
        have ek : ∀ q, kd E q = if q = to - 1 then 8 else if q = fr then 8 else kd Z2 q := by
          intro q; rw [f2, e2]
          by_cases g1 : q = to - 1
          · rw [if_pos (by omega), if_pos g1]
          · rw [if_neg (by omega), if_neg g1]
            by_cases g2 : q = fr
            · rw [if_pos (by omega), if_pos g2]
            · rw [if_neg (by omega), if_neg g2]
        have ev : ∀ q, vl E q = vl Z2 q := fun q => by rw [f3, e3]
        refine ⟨E, rfl, (keep2.trans e1).trans f1, fun q hq => ?_, fun q g1 g2 => ?_, ?_⟩
        · rw [ek, ev, if_neg (by omega), if_neg (by omega)]; exact outk q hq
        · rw [ek]
          by_cases r1 : q = to - 1
          · rw [if_pos r1]; decide
          · rw [if_neg r1]
            by_cases r2 : q = fr
            · rw [if_pos r2]; decide
            · rw [if_neg r2]; exact no67 q g1 g2
        · refine tok E _ ((keep2.trans e1).trans f1) (fun q hq => by rw [ek, if_neg (by omega), if_neg (by omega)]) ?_
          unfold codeL; rw [if_pos ⟨Bool.eq_false_iff.mpr ha, h1, h2⟩]
          rw [show to - fr = 1 + ((to - 1 - (fr + 1)) + 1) by omega, ctk_add, ctk_add, ctk_one, ctk_one]
          have g1 : ctok E T fr = [] := by
            have hk8 : kd E fr = 8 := by rw [ek, if_neg (by omega), if_pos rfl]
            unfold ctok; rw [if_pos hk8]
          have g2 : ctok E T (fr + 1 + (to - 1 - (fr + 1))) = [] := by
            have hk8 : kd E (fr + 1 + (to - 1 - (fr + 1))) = 8 := by rw [ek, if_pos (by omega)]
            unfold ctok; rw [if_pos hk8]
          rw [g1, g2, List.append_nil, List.nil_append]
          refine ctk_text _ _ (fun q h3 h4 => ?_)
          rw [ek, ev, if_neg (by omega), if_neg (by omega)]
          exact mid q (by omega) (by omega)
      · rw [if_pos h2]
        exact ⟨Z2, rfl, keep2, outk, no67, plain (fun h => h2 h.2.2)⟩
    · rw [if_pos h1]
      exact ⟨Z2, rfl, keep2, outk, no67, plain (fun h => h1 h.2.1)⟩
