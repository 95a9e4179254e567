/-! the mathematics; written by wip/whole/m2parts.py -/
theorem mA_rng {T : List Int32} (hT : gT T) (i : Nat) : ∃ n : Nat, n < 257 ∧ mA T i = nI n - 1 := by
  by_cases h : i < T.length
  · have := mA_in hT h
    refine ⟨(mA T i).toInt.toNat + 1, by omega, ?_⟩
    rw [nI_pred]
    refine Int32.toInt_inj.mp ?_
    rw [nI_toInt (by omega)]; omega
  · exact ⟨0, by omega, (mA_out (by omega)).trans (by decide)⟩
theorem byt {P : Int32 → Prop} {T : List Int32} (hT : gT T) (i : Nat) (h : ∀ n, n < 257 → P (nI n - 1)) : P (mA T i) := by
  obtain ⟨n, hn, e⟩ := mA_rng hT i; rw [e]; exact h n hn
theorem hexd {T : List Int32} (hT : gT T) (i : Nat) : k_193 (mA T i) 16 = k_112 (mA T i) ∧ (k_112 (mA T i) < 0 ↔ k_112 (mA T i) = -1) ∧ (¬ k_112 (mA T i) < 0 → rfc (mA T i) = true) :=
  byt (P := fun c => k_193 c 16 = k_112 c ∧ (k_112 c < 0 ↔ k_112 c = -1) ∧ (¬ k_112 c < 0 → rfc c = true)) hT i (by decide +kernel)
theorem decd {T : List Int32} (hT : gT T) (i : Nat) : (k_165 (mA T i) = true ↔ ¬ k_193 (mA T i) 10 = -1) ∧ (k_165 (mA T i) = true → k_193 (mA T i) 10 = mA T i - 48 ∧ rfc (mA T i) = true) :=
  byt (P := fun c => (k_165 c = true ↔ ¬ k_193 c 10 = -1) ∧ (k_165 c = true → k_193 c 10 = c - 48 ∧ rfc c = true)) hT i (by decide +kernel)
theorem told_eq (x : Int32) : (if ((decide (x = 0)) || ((decide (1114111 < x)) || ((!(decide (x < 55296))) && (!(decide (57343 < x)))))) = true then 65533 else x : Int32) =
    (if x = 0 then 65533 else (if 1114111 < x then 65533 else (if x ≤ 55295 then x else (if 57344 ≤ x then x else 65533 : Int32) : Int32) : Int32) : Int32) := by
  by_cases h0 : x = 0
  · rw [if_pos h0, decide_eq_true h0]; rfl
  · rw [if_neg h0, decide_eq_false h0, Bool.false_or]
    by_cases h1 : 1114111 < x
    · rw [if_pos h1, decide_eq_true h1]; rfl
    · rw [if_neg h1, decide_eq_false h1, Bool.false_or]
      have e1 : x < 55296 ↔ x ≤ 55295 := by
        rw [Int32.lt_iff_toInt_lt, Int32.le_iff_toInt_le]
        have a : (55296 : Int32).toInt = 55296 := by decide
        have b : (55295 : Int32).toInt = 55295 := by decide
        omega
      have e2 : 57343 < x ↔ 57344 ≤ x := by
        rw [Int32.lt_iff_toInt_lt, Int32.le_iff_toInt_le]
        have a : (57343 : Int32).toInt = 57343 := by decide
        have b : (57344 : Int32).toInt = 57344 := by decide
        omega
      by_cases h2 : x ≤ 55295
      · rw [if_pos h2, decide_eq_true (e1.mpr h2)]; rfl
      · rw [if_neg h2, decide_eq_false (fun h => h2 (e1.mp h))]
        by_cases h3 : 57344 ≤ x
        · rw [if_pos h3, decide_eq_true (e2.mpr h3)]; rfl
        · rw [if_neg h3, decide_eq_false (fun h => h3 (e2.mp h))]; rfl
theorem num_loop {C R : zr_Z} {T : List Int32} (hC : mC C T) (hR : mR R T) (hT : gT T) (hx : Bool) (k : Int32) (a most : Nat) (hmost : most = if hx = true then 6 else 7) (ha : a ≤ 2000) (base : Int32) (hbase : base = if hx = true then 16 else 10) :
    ∀ d j v n m, j + d = 8 → d < m → (j ≤ most → most - j < n) → (∀ t, t < j → rfc (mA T (a + t)) = true) →
      ∃ j' v' b, g_113_74 m R k hx (nI (a + j)) (nI j) v = some (b, zmf (zmf R 50 (nI (a + j' + 1))) 51 (if v' = 0 then 65533 else (if 1114111 < v' then 65533 else (if v' ≤ 55295 then v' else (if 57344 ≤ v' then v' else 65533 : Int32) : Int32) : Int32) : Int32)) ∧
        (j ≤ most → (b = true ∧ 0 < j' ∧ j' ≤ most ∧ mA T (a + j') = 59 ∧ (∀ t, t < j' → rfc (mA T (a + t)) = true) ∧ g_64_6 n C (nI a) base (nI most) v (nI (a + j)) = some (nI (a + j' + 1), zsc C 0 (if v' = 0 then 65533 else (if 1114111 < v' then 65533 else (if v' ≤ 55295 then v' else (if 57344 ≤ v' then v' else 65533 : Int32) : Int32) : Int32) : Int32))) ∨
          (b = false ∧ g_64_6 n C (nI a) base (nI most) v (nI (a + j)) = some (-1, C))) ∧ (most < j → b = false) := by
  have hl := hT.1
  have hS := hR.sk hT
  have hm67 : most ≤ 7 ∧ 6 ≤ most := by subst hmost; cases hx <;> decide
  have hmI : (if hx = true then 6 else 7 : Int32) = nI most := by subst hmost; cases hx <;> decide
  have hn0 : ∀ j, j ≤ 8 → (nI j ≤ 0 ↔ j = 0) := fun j hj => by rw [← nI_0, nI_leI (by omega) (by omega)]; omega
  have hn8 : ∀ j, j ≤ 8 → (8 ≤ nI j ↔ 8 ≤ j) := fun j hj => by rw [show (8 : Int32) = nI 8 from rfl, nI_leI (by omega) (by omega)]
  have hgo : ∀ c, k_193 c base = k_193 c (if hx = true then 16 else 10) := fun c => by rw [hbase]
  have cstop : ∀ j v n, j ≤ most → (j = most ∨ k_193 (mA T (a + j)) base = -1) → g_64_6 (n + 1) C (nI a) base (nI most) v (nI (a + j)) =
      (if j = 0 then some (-1, C) else if mA T (a + j) = 59 then some (nI (a + j + 1), zsc C 0 (if v = 0 then 65533 else (if 1114111 < v then 65533 else (if v ≤ 55295 then v else (if 57344 ≤ v then v else 65533 : Int32) : Int32) : Int32) : Int32)) else some (-1, C)) := by
    intro j v n hj hs
    simp (disch := omega) only [g_64_6, nI_add, nI_leI, nI_eq, hC.at, olet, nI_1, told_eq]
    have e1 : (a + j = a) ↔ j = 0 := by omega
    by_cases h1 : a + most ≤ a + j
    · simp only [if_pos h1, e1]
    · simp only [if_neg h1, e1]
      rcases hs with h | h
      · omega
      · rw [if_pos h]
  have digit : ∀ j, (k_193 (mA T (a + j)) base = -1 ↔ ¬ (if hx = true then ¬ k_112 (mA T (a + j)) < 0 else k_165 (mA T (a + j)) = true)) := by
    intro j
    rw [hbase]
    cases hx with
    | true => rw [if_pos rfl, if_pos rfl, (hexd hT _).1, Decidable.not_not, (hexd hT _).2.1]
    | false => rw [if_neg (by decide), if_neg (by decide), (decd hT _).1, Decidable.not_not]
  have nod59 : ∀ j, mA T (a + j) = 59 → k_193 (mA T (a + j)) base = -1 := by
    intro j h; rw [h, hbase]; cases hx <;> decide
  intro d
  induction d with
  | zero =>
    intro j v n m hj hm hn hrf
    obtain ⟨m, rfl⟩ : ∃ n', m = n' + 1 := ⟨m - 1, by omega⟩
    obtain rfl : j = 8 := by omega
    refine ⟨8, v, (!decide (nI 8 ≤ 0)) && ((!decide ((if hx = true then 6 else 7 : Int32) < nI 8)) && decide (mA T (a + 8) = 59)), ?_, fun h => by omega, fun _ => ?_⟩
    · simp (disch := omega) only [g_113_74, if_pos hS, hn8, Nat.le_refl, if_true, nI_1, hR.at hT]
    · rw [hmI, decide_eq_true ((nI_ltI (by omega) (by omega)).mpr (by omega : most < 8))]
      cases decide (nI 8 ≤ 0) <;> rfl
  | succ d ih =>
    intro j v n m hj hm hn hrf
    obtain ⟨m, rfl⟩ : ∃ n', m = n' + 1 := ⟨m - 1, by omega⟩
    have h8 : ¬ 8 ≤ j := by omega
    by_cases hd : (if hx = true then ¬ k_112 (mA T (a + j)) < 0 else k_165 (mA T (a + j)) = true)
    · -- a digit
      have hnd : ¬ k_193 (mA T (a + j)) base = -1 := fun h => (digit j).mp h hd
      have hrf' : rfc (mA T (a + j)) = true := by
        cases hx with
        | true => exact (hexd hT _).2.2 hd
        | false => exact ((decd hT _).2 hd).2
      obtain ⟨w, hw1, hw2⟩ : ∃ w, (v * base + k_193 (mA T (a + j)) base = w) ∧ g_113_74 (m + 1) R k hx (nI (a + j)) (nI j) v = g_113_74 m R k hx (nI (a + j + 1)) (nI (j + 1)) w := by
        refine ⟨_, rfl, ?_⟩
        cases hx with
        | true =>
          have hb : base = 16 := hbase
          rw [hb, (hexd hT _).1, Int32.mul_comm]
          simp (disch := omega) only [g_113_74, if_pos hS, hn8, h8, if_false, if_true, hR.at hT, olet, nI_1]
          rw [if_neg hd]
        | false =>
          have hb : base = 10 := hbase
          have hd' : k_165 (mA T (a + j)) = true := hd
          rw [hb, ((decd hT _).2 hd').1, Int32.mul_comm]
          simp (disch := omega) only [g_113_74, if_pos hS, hn8, h8, if_false, hR.at hT, olet, nI_1, hd', if_true, Bool.false_eq_true]
          rw [Int32.sub_eq_add_neg, Int32.add_assoc, ← Int32.sub_eq_add_neg]
      obtain ⟨j', v', b, g1, g2, g3⟩ := ih (j + 1) w (n - 1) m (by omega) (by omega) (fun h => by omega) (fun t ht => by
        by_cases h : t = j
        · rw [h]; exact hrf'
        · exact hrf t (by omega))
      refine ⟨j', v', b, by rw [hw2]; exact g1, ?_, fun h => g3 (by omega)⟩
      intro hjm
      obtain ⟨n, rfl⟩ : ∃ n', n = n' + 1 := ⟨n - 1, by have := hn hjm; omega⟩
      by_cases hje : j = most
      · right
        refine ⟨g3 (by omega), ?_⟩
        rw [cstop j v n hjm (Or.inl hje), if_neg (by omega), if_neg (fun h => hnd (nod59 j h))]
      · have hs : g_64_6 (n + 1) C (nI a) base (nI most) v (nI (a + j)) = g_64_6 n C (nI a) base (nI most) w (nI (a + (j + 1))) := by
          rw [← hw1]
          simp (disch := omega) only [g_64_6, nI_add, nI_leI, hC.at, olet, nI_1, hnd, if_false]
          rw [if_neg (by omega)]; rfl
        rw [hs]; exact g2 (by omega)
    · -- no digit
      have hnd := (digit j).mpr hd
      refine ⟨j, v, (!decide (nI j ≤ 0)) && ((!decide ((if hx = true then 6 else 7 : Int32) < nI j)) && decide (mA T (a + j) = 59)), ?_, ?_, ?_⟩
      · cases hx with
        | true =>
          have hd' : k_112 (mA T (a + j)) < 0 := Decidable.not_not.mp hd
          simp (disch := omega) only [g_113_74, if_pos hS, hn8, h8, if_false, hR.at hT, nI_1, hd', if_true]
        | false =>
          have hd' : ¬ k_165 (mA T (a + j)) = true := hd
          simp (disch := omega) only [g_113_74, if_pos hS, hn8, h8, if_false, hR.at hT, nI_1, Bool.eq_false_iff.mpr hd', Bool.false_eq_true]
      · intro hjm
        obtain ⟨n, rfl⟩ : ∃ n', n = n' + 1 := ⟨n - 1, by have := hn hjm; omega⟩
        rw [cstop j v n hjm (Or.inr hnd), hmI, decide_eq_false (p := nI most < nI j) (by rw [nI_ltI (by omega) (by omega)]; omega)]
        by_cases h0 : j = 0
        · right; rw [if_pos h0, decide_eq_true ((hn0 j (by omega)).mpr h0)]; exact ⟨rfl, rfl⟩
        · rw [if_neg h0, decide_eq_false (fun h => h0 ((hn0 j (by omega)).mp h))]
          by_cases h59 : mA T (a + j) = 59
          · left; rw [if_pos h59, decide_eq_true h59]; exact ⟨rfl, by omega, hjm, h59, hrf, rfl⟩
          · right; rw [if_neg h59, decide_eq_false h59]; exact ⟨rfl, rfl⟩
      · intro h; rw [hmI, decide_eq_true ((nI_ltI (by omega) (by omega)).mpr h)]; cases decide (nI j ≤ 0) <;> rfl
