/-! the mathematics; written by wip/whole/m2parts.py -/
abbrev isBt : Int32 → Bool := fun c => decide (c = 96)
def btRow (T : List Int32) (n a x : Nat) : Prop := a < x ∧ ¬ mA T (x - 1) = 96 ∧ mA T x = 96 ∧ wl isBt T x (x + n)
def btFirst (T : List Int32) (n a x : Nat) : Prop := btRow T n a x ∧ ∀ y, y < x → ¬ btRow T n a y
theorem btFirst_uniq {T : List Int32} {n a x y : Nat} (h : btFirst T n a x) (g : btFirst T n a y) : x = y := by
  rcases Nat.lt_trichotomy x y with hl | hl | hl
  · exact absurd h.1 (g.2 x hl)
  · exact hl
  · exact absurd g.1 (h.2 y hl)
def btAt (T : List Int32) (n a q : Nat) : Prop := a ≤ q ∧ (∀ y, y < q → ¬ btRow T n a y) ∧ (mA T q = 96 → a < q ∧ ¬ mA T (q - 1) = 96)
theorem btAt_other {T : List Int32} {n a q : Nat} (h : btAt T n a q) (hq : ¬ mA T q = 96) : btAt T n a (q + 1) := by
  have := h.1
  refine ⟨by omega, fun y hy hb => ?_, fun _ => ⟨by omega, by rw [show q + 1 - 1 = q by omega]; exact hq⟩⟩
  by_cases e : y = q
  · subst e; exact hq hb.2.2.1
  · exact h.2.1 y (by omega) hb
theorem btAt_row {T : List Int32} {n a q e : Nat} (h : btAt T n a q) (hq : mA T q = 96) (he : wl isBt T q e) (hn : ¬ e = q + n) : btAt T n a e := by
  have h1 := h.1
  have h2 := he.1
  refine ⟨by omega, fun y hy hb => ?_, fun h96 => ?_⟩
  · by_cases e1 : y < q
    · exact h.2.1 y e1 hb
    · by_cases e2 : y = q
      · subst e2; exact hn (wl_uniq he hb.2.2.2)
      · have := he.2.1 (y - 1) (by omega) (by omega)
        exact hb.2.1 (of_decide_eq_true this)
  · have := he.2.2
    exact absurd h96 (of_decide_eq_false this)
theorem btAt_found {T : List Int32} {n a q : Nat} (h : btAt T n a q) (hq : mA T q = 96) (he : wl isBt T q (q + n)) : btFirst T n a q :=
  ⟨⟨(h.2.2 hq).1, (h.2.2 hq).2, hq, he⟩, h.2.1⟩
theorem btAt_end {T : List Int32} {n a q : Nat} (h : btAt T n a q) (hq : T.length ≤ q) : ∀ x, ¬ btRow T n a x := by
  intro x hb
  by_cases e : x < q
  · exact h.2.1 x e hb
  · have := mA_lt hb.2.2.1 (by decide); omega
theorem btAt_jump {T : List Int32} {n a q e : Nat} (h : btAt T n a q) (hq : ¬ mA T q = 96) (he : wl (fun c => decide (c = mA T q)) T q e) (hqe : q < e) : btAt T n a e := by
  have : ∀ d, q + 1 + d ≤ e → btAt T n a (q + 1 + d) := by
    intro d
    induction d with
    | zero => intro _; exact btAt_other h hq
    | succ d ih =>
      intro hd
      have := he.2.1 (q + 1 + d) (by omega) (by omega)
      have := of_decide_eq_true this
      have hz : ¬ mA T (q + 1 + d) = 96 := by rw [this]; exact hq
      exact btAt_other (ih (by omega)) hz
  have := this (e - (q + 1)) (by omega)
  rwa [show q + 1 + (e - (q + 1)) = e by omega] at this
theorem zmax_nI {a b : Nat} (ha : a < 2 ^ 31) (hb : b < 2 ^ 31) : zmax (nI a) (nI b) = nI (max a b) := by
  unfold zmax
  by_cases h : a < b
  · rw [if_pos ((nI_ltI ha hb).mpr h), Nat.max_eq_right (by omega)]
  · rw [if_neg (fun h' => h ((nI_ltI ha hb).mp h')), Nat.max_eq_left (by omega)]
theorem c59 {C : zr_Z} {T : List Int32} (hC : mC C T) (hT : gT T) {a n : Nat} (ha : a ≤ T.length) (hn : n ≤ 1500) (h96 : ¬ mA T a = 96) :
    (f_59 C (nI a) (nI n) = -1 ∧ ∀ x, ¬ btRow T n a x) ∨ (∃ x, btFirst T n a x ∧ x + n ≤ T.length ∧ f_59 C (nI a) (nI n) = nI x) := by
  have hl := hT.1
  have loop : ∀ d q m, T.length - q ≤ d → d < m → q ≤ T.length → btAt T n a q → (g_59_2 m C (nI a) (nI n) (nI q) = -1 ∧ ∀ x, ¬ btRow T n a x) ∨ (∃ x, btFirst T n a x ∧ x + n ≤ T.length ∧ g_59_2 m C (nI a) (nI n) (nI q) = nI x) := by
    intro d
    induction d with
    | zero =>
      intro q m hd hm hq hat
      obtain ⟨m, rfl⟩ : ∃ k, m = k + 1 := ⟨m - 1, by omega⟩
      left
      refine ⟨?_, btAt_end hat (by omega)⟩
      simp (disch := omega) only [g_59_2, hC.sz, nI_leI]; rw [if_pos (by omega)]
    | succ d ih =>
      intro q m hd hm hq hat
      obtain ⟨m, rfl⟩ : ∃ k, m = k + 1 := ⟨m - 1, by omega⟩
      by_cases hin : T.length ≤ q
      · left
        refine ⟨?_, btAt_end hat hin⟩
        simp (disch := omega) only [g_59_2, hC.sz, nI_leI]; rw [if_pos hin]
      · obtain ⟨e, h1, h2, h3, h4⟩ := c93 hC hT (p := q) (by omega)
        have hmax : zmax (nI q + 1) (nI e) = nI e := by rw [nI_1, zmax_nI (by omega) (by omega), Nat.max_eq_right (by omega)]
        by_cases h : mA T q = 96
        · have h3' : wl isBt T q e := by rw [h] at h3; exact h3
          by_cases hen : e = q + n
          · right
            subst hen
            refine ⟨q, btAt_found hat h h3', h2, ?_⟩
            simp (disch := omega) only [g_59_2, hC.sz, nI_leI, hC.at, h, h4, not_true_eq_false, if_false]
            rw [if_neg hin, pk_sub (by omega), show q + n - q = n by omega, if_neg (fun h => h rfl)]
          · have hs : g_59_2 (m + 1) C (nI a) (nI n) (nI q) = g_59_2 m C (nI a) (nI n) (nI e) := by
              simp (disch := omega) only [g_59_2, hC.sz, nI_leI, hC.at, h, h4, not_true_eq_false, if_false]
              rw [if_neg hin, pk_sub (by omega), if_pos (by rw [nI_eq (by omega) (by omega)]; omega), hmax]
            rw [hs]
            exact ih e m (by omega) (by omega) h2 (btAt_row hat h h3' hen)
        · have hs : g_59_2 (m + 1) C (nI a) (nI n) (nI q) = g_59_2 m C (nI a) (nI n) (nI e) := by
            simp (disch := omega) only [g_59_2, hC.sz, nI_leI, hC.at, h, h4, not_false_eq_true, if_true]
            rw [if_neg hin, hmax]
          rw [hs]
          exact ih e m (by omega) (by omega) h2 (btAt_jump hat h h3 h1)
  have hst : btAt T n a a := ⟨Nat.le_refl _, fun y hy hb => by have := hb.1; omega, fun h => absurd h h96⟩
  have := loop (T.length - a) a (T.length - a + 1) (Nat.le_refl _) (by omega) ha hst
  unfold f_59
  rw [hC.sz, nI_toInt (by omega), nI_toInt (by omega), show ((T.length : Int) - (a : Int)).toNat + 1 = T.length - a + 1 by omega]
  exact this
