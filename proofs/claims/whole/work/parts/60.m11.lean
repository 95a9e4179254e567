/-! the mathematics; written by wip/whole/m2parts.py -/
def wl (P : Int32 → Bool) (T : List Int32) (q e : Nat) : Prop := q ≤ e ∧ (∀ j, q ≤ j → j < e → P (mA T j) = true) ∧ P (mA T e) = false
theorem wl_uniq {P : Int32 → Bool} {T : List Int32} {q e e' : Nat} (h : wl P T q e) (h' : wl P T q e') : e = e' := by
  rcases Nat.lt_trichotomy e e' with hl | hl | hl
  · have := h'.2.1 e h.1 hl; rw [h.2.2] at this; exact absurd this (by decide)
  · exact hl
  · have := h.2.1 e' h'.1 hl; rw [h'.2.2] at this; exact absurd this (by decide)
theorem wl_here {P : Int32 → Bool} {T : List Int32} {q : Nat} (h : P (mA T q) = false) : wl P T q q := ⟨Nat.le_refl _, fun j h1 h2 => by omega, h⟩
theorem wl_step {P : Int32 → Bool} {T : List Int32} {q e : Nat} (h : P (mA T q) = true) (g : wl P T (q + 1) e) : wl P T q e :=
  ⟨by have := g.1; omega, fun j h1 h2 => by
    by_cases hj : j = q
    · rw [hj]; exact h
    · exact g.2.1 j (by omega) h2, g.2.2⟩
theorem wl_ex {P : Int32 → Bool} {T : List Int32} (hP : P (-1) = false) : ∀ d q, q + d = T.length → ∃ e, wl P T q e ∧ e ≤ T.length := by
  intro d
  induction d with
  | zero => intro q hq; exact ⟨q, wl_here (by rw [mA_out (by omega)]; exact hP), by omega⟩
  | succ d ih =>
    intro q hq
    by_cases h : P (mA T q) = true
    · obtain ⟨e, he, hl⟩ := ih (q + 1) (by omega); exact ⟨e, wl_step h he, hl⟩
    · exact ⟨q, wl_here (Bool.eq_false_iff.mpr h), by omega⟩
theorem wl_le {P : Int32 → Bool} {T : List Int32} (hP : P (-1) = false) {q e : Nat} (hq : q ≤ T.length) (h : wl P T q e) : e ≤ T.length := by
  obtain ⟨e', h', hl⟩ := wl_ex (T := T) hP (T.length - q) q (by omega)
  rw [wl_uniq h h']; exact hl
theorem c93 {C : zr_Z} {T : List Int32} (hC : mC C T) (hT : gT T) {p : Nat} (hp : p < T.length) :
    ∃ e, p < e ∧ e ≤ T.length ∧ wl (fun c => decide (c = mA T p)) T p e ∧ f_93 C (nI p) = nI e := by
  have hl := hT.1
  have hP : (fun c => decide (c = mA T p)) (-1) = false := by
    have : ¬ mA T p = -1 := by rw [mA_ne hT]; omega
    exact decide_eq_false (fun h => this h.symm)
  have loop : ∀ d i n, i + d = T.length → d < n → ∃ e, i ≤ e ∧ e ≤ T.length ∧ wl (fun c => decide (c = mA T p)) T i e ∧ g_93 n C (nI p) (nI i) = nI e := by
    intro d
    induction d with
    | zero =>
      intro i n hi hn
      obtain ⟨n, rfl⟩ : ∃ k, n = k + 1 := ⟨n - 1, by omega⟩
      refine ⟨i, Nat.le_refl _, by omega, wl_here (by rw [mA_out (by omega)]; exact hP), ?_⟩
      simp (disch := omega) only [g_93, hC.sz, nI_leI]; rw [if_pos (by omega)]
    | succ d ih =>
      intro i n hi hn
      obtain ⟨n, rfl⟩ : ∃ k, n = k + 1 := ⟨n - 1, by omega⟩
      by_cases h : mA T i = mA T p
      · obtain ⟨e, h1, h2, h3, h4⟩ := ih (i + 1) n (by omega) (by omega)
        refine ⟨e, by omega, h2, wl_step (decide_eq_true h) h3, ?_⟩
        simp (disch := omega) only [g_93, hC.sz, nI_leI, hC.at, h, not_true_eq_false, if_false, nI_1]; rw [if_neg (by omega)]; exact h4
      · refine ⟨i, Nat.le_refl _, by omega, wl_here (decide_eq_false h), ?_⟩
        simp (disch := omega) only [g_93, hC.sz, nI_leI, hC.at, h, not_false_eq_true, if_true, ite_self]
  obtain ⟨e, h1, h2, h3, h4⟩ := loop (T.length - p) p (T.length - p + 1) (by omega) (by omega)
  refine ⟨e, ?_, h2, h3, ?_⟩
  · rcases Nat.lt_or_eq_of_le h1 with h | h
    · exact h
    · have := h3.2.2
      rw [← h] at this
      exact absurd (of_decide_eq_false this) (fun h => h rfl)
  · unfold f_93; rw [hC.sz, nI_toInt (by omega), nI_toInt (by omega), show ((T.length : Int) - (p : Int)).toNat + 1 = T.length - p + 1 by omega]; exact h4
theorem c88 {C : zr_Z} {T : List Int32} (hC : mC C T) (hT : gT T) {p : Nat} (hp : p ≤ T.length + 1) :
    ∃ e, wl k_190 T p e ∧ e ≤ T.length + 1 ∧ f_88 C (nI p) = nI e := by
  have hl := hT.1
  have loop : ∀ d i n, i ≤ T.length + 1 → T.length - i ≤ d → d < n → ∃ e, e ≤ T.length + 1 ∧ wl k_190 T i e ∧ g_88 n C (nI p) (nI i) = nI e := by
    intro d
    induction d with
    | zero =>
      intro i n hi hd hn
      obtain ⟨n, rfl⟩ : ∃ k, n = k + 1 := ⟨n - 1, by omega⟩
      refine ⟨i, hi, wl_here (by rw [mA_out (by omega)]; rfl), ?_⟩
      simp (disch := omega) only [g_88, hC.sz, nI_leI]; rw [if_pos (by omega)]
    | succ d ih =>
      intro i n hi hd hn
      obtain ⟨n, rfl⟩ : ∃ k, n = k + 1 := ⟨n - 1, by omega⟩
      by_cases hin : T.length ≤ i
      · refine ⟨i, hi, wl_here (by rw [mA_out (by omega)]; rfl), ?_⟩
        simp (disch := omega) only [g_88, hC.sz, nI_leI]; rw [if_pos hin]
      · by_cases h : k_190 (mA T i) = true
        · obtain ⟨e, h2, h3, h4⟩ := ih (i + 1) n (by omega) (by omega) (by omega)
          refine ⟨e, h2, wl_step h h3, ?_⟩
          simp (disch := omega) only [g_88, hC.sz, nI_leI, hC.at, h, if_true, nI_1]; rw [if_neg hin]; exact h4
        · refine ⟨i, hi, wl_here (Bool.eq_false_iff.mpr h), ?_⟩
          simp (disch := omega) only [g_88, hC.sz, nI_leI, hC.at, Bool.eq_false_iff.mpr h, Bool.false_eq_true, if_false, ite_self]
  obtain ⟨e, h2, h3, h4⟩ := loop (T.length - p) p (T.length - p + 1) hp (Nat.le_refl _) (by omega)
  refine ⟨e, h3, h2, ?_⟩
  unfold f_88; rw [hC.sz, nI_toInt (by omega), nI_toInt (by omega), show ((T.length : Int) - (p : Int)).toNat + 1 = T.length - p + 1 by omega]; exact h4
def mMail (T : List Int32) (p x : Nat) : Prop := ∃ a, wl k_190 T (p + 1) a ∧ p + 1 < a ∧ mA T a = 64 ∧ wl k_190 T (a + 1) x ∧ k_197 (mA T (a + 1)) = true ∧ k_197 (mA T (x - 1)) = true ∧ mA T x = 62
theorem mMail_uniq {T : List Int32} {p x y : Nat} (h : mMail T p x) (g : mMail T p y) : x = y := by
  obtain ⟨a, h1, -, -, h4, -⟩ := h
  obtain ⟨b, g1, -, -, g4, -⟩ := g
  obtain rfl := wl_uniq h1 g1
  exact wl_uniq h4 g4
theorem c87 {C : zr_Z} {T : List Int32} (hC : mC C T) (hT : gT T) {p : Nat} (hp : p < T.length) :
    (f_87 C (nI p) = -1 ∧ ∀ x, ¬ mMail T p x) ∨ (∃ x, mMail T p x ∧ x < T.length ∧ f_87 C (nI p) = nI (x + 1)) := by
  have hl := hT.1
  obtain ⟨a, h1, h2, h3⟩ := c88 hC hT (p := p + 1) (by omega)
  have hpa := h1.1
  unfold f_87
  simp only [nI_1, h3]
  by_cases e1 : a = p + 1
  · left; subst e1
    rw [if_pos rfl]
    refine ⟨rfl, fun x ⟨b, g1, g2, _⟩ => ?_⟩
    have := wl_uniq h1 g1; omega
  · rw [if_neg (by rw [nI_eq (by omega) (by omega)]; exact e1), hC.at (by omega)]
    by_cases e2 : mA T a = 64
    · have hal := mA_lt e2 (by decide)
      rw [if_pos e2]
      obtain ⟨x, g1, g2, g3⟩ := c88 hC hT (p := a + 1) (by omega)
      have hax := g1.1
      rw [g3, nI_sub1 (by omega), hC.at (by omega), hC.at (by omega), hC.at (by omega)]
      by_cases e3 : (k_197 (mA T (a + 1)) && k_197 (mA T (x - 1))) = true
      · rw [if_pos e3]
        rw [Bool.and_eq_true] at e3
        by_cases e4 : mA T x = 62
        · right
          refine ⟨x, ⟨a, h1, by omega, e2, g1, e3.1, e3.2, e4⟩, mA_lt e4 (by decide), ?_⟩
          rw [if_neg (fun h => h e4), nI_1]
        · left
          rw [if_pos e4]
          refine ⟨rfl, fun y ⟨b, q1, q2, q3, q4, q5, q6, q7⟩ => ?_⟩
          obtain rfl := wl_uniq h1 q1
          obtain rfl := wl_uniq g1 q4
          exact e4 q7
      · left
        rw [if_neg e3]
        refine ⟨rfl, fun y ⟨b, q1, q2, q3, q4, q5, q6, q7⟩ => ?_⟩
        obtain rfl := wl_uniq h1 q1
        obtain rfl := wl_uniq g1 q4
        rw [q5, q6] at e3; exact e3 rfl
    · left
      rw [if_neg e2]
      refine ⟨rfl, fun y ⟨b, q1, q2, q3, _⟩ => ?_⟩
      obtain rfl := wl_uniq h1 q1
      exact e2 q3
def mAddr (T : List Int32) (p x : Nat) : Prop := ∃ a, k_196 (mA T (p + 1)) = true ∧ wl k_201 T (p + 2) a ∧ p + 2 < a ∧ a ≤ p + 33 ∧ mA T a = 58 ∧ wl k_191 T (a + 1) x ∧ mA T x = 62
theorem mAddr_uniq {T : List Int32} {p x y : Nat} (h : mAddr T p x) (g : mAddr T p y) : x = y := by
  obtain ⟨a, -, h1, -, -, -, h4, -⟩ := h
  obtain ⟨b, -, g1, -, -, -, g4, -⟩ := g
  obtain rfl := wl_uniq h1 g1
  exact wl_uniq h4 g4
theorem c86b {C : zr_Z} {T : List Int32} (hC : mC C T) (hT : gT T) (p : Int32) {i : Nat} (hi : i ≤ T.length + 1) {n : Nat} (hn : T.length - i < n) :
    ∃ x, wl k_191 T i x ∧ x ≤ T.length + 1 ∧ g_86_75 n C p (nI i) = if ¬ mA T x = 62 then -1 else nI (x + 1) := by
  have hl := hT.1
  have loop : ∀ d i n, i ≤ T.length + 1 → T.length - i ≤ d → d < n → ∃ e, wl k_191 T i e ∧ e ≤ T.length + 1 ∧ g_86_75 n C p (nI i) = if ¬ mA T e = 62 then -1 else nI (e + 1) := by
    intro d
    induction d with
    | zero =>
      intro i n hi hd hn
      obtain ⟨n, rfl⟩ : ∃ k, n = k + 1 := ⟨n - 1, by omega⟩
      refine ⟨i, wl_here (by rw [mA_out (by omega)]; decide), hi, ?_⟩
      simp (disch := omega) only [g_86_75, hC.sz, nI_leI, hC.at, nI_1]; rw [if_pos (by omega)]
    | succ d ih =>
      intro i n hi hd hn
      obtain ⟨n, rfl⟩ : ∃ k, n = k + 1 := ⟨n - 1, by omega⟩
      by_cases hin : T.length ≤ i
      · refine ⟨i, wl_here (by rw [mA_out (by omega)]; decide), hi, ?_⟩
        simp (disch := omega) only [g_86_75, hC.sz, nI_leI, hC.at, nI_1]; rw [if_pos (by omega)]
      · by_cases h : k_191 (mA T i) = true
        · obtain ⟨e, h3, h2, h4⟩ := ih (i + 1) n (by omega) (by omega) (by omega)
          refine ⟨e, wl_step h h3, h2, ?_⟩
          simp (disch := omega) only [g_86_75, hC.sz, nI_leI, hC.at, h, if_true, nI_1]; rw [if_neg hin]; exact h4
        · refine ⟨i, wl_here (Bool.eq_false_iff.mpr h), hi, ?_⟩
          simp (disch := omega) only [g_86_75, hC.sz, nI_leI, hC.at, Bool.eq_false_iff.mpr h, Bool.false_eq_true, if_false, ite_self, nI_1]
  exact loop (T.length - i) i n hi (Nat.le_refl _) hn
theorem c86 {C : zr_Z} {T : List Int32} (hC : mC C T) (hT : gT T) {p : Nat} (hp : p < T.length) :
    (f_86 C (nI p) = -1 ∧ ∀ x, ¬ mAddr T p x) ∨ (∃ x, mAddr T p x ∧ x < T.length ∧ f_86 C (nI p) = nI (x + 1)) := by
  have hl := hT.1
  have h32 : nI p + 32 = nI (p + 32) := nI_add p 32
  unfold f_86
  rw [nI_1, nI_2, hC.at (by omega)]
  by_cases e1 : ¬ k_196 (mA T (p + 1)) = true
  · left; rw [if_neg e1]; exact ⟨rfl, fun x ⟨a, q1, _⟩ => e1 q1⟩
  have e1 := Decidable.not_not.mp e1
  have hp1 : p + 1 < T.length := Nat.lt_of_not_le (fun h => by rw [mA_out h] at e1; exact absurd e1 (by decide))
  rw [if_pos e1, hC.sz, nI_toInt (by omega), nI_toInt (by omega)]
  have loop : ∀ d i n, T.length - i ≤ d → d < n → p + 2 ≤ i → i ≤ p + 33 → (∀ j, p + 2 ≤ j → j < i → k_201 (mA T j) = true) → i ≤ T.length →
      ∃ a, p + 2 ≤ a ∧ a ≤ p + 33 ∧ a ≤ T.length ∧ (a = p + 33 ∨ wl k_201 T (p + 2) a) ∧ (∀ j, p + 2 ≤ j → j < a → k_201 (mA T j) = true) ∧ g_86_22 n C (nI p) (nI i) = if nI a = nI (p + 2) then -1 else if mA T a = 58 then g_86_75 (T.length - (a + 1) + 1) C (nI p) (nI (a + 1)) else -1 := by
    intro d
    induction d with
    | zero =>
      intro i n hd hn hp2 hp33 hall hil
      obtain ⟨n, rfl⟩ : ∃ k, n = k + 1 := ⟨n - 1, by omega⟩
      have hk : k_201 (mA T i) = false := by rw [mA_out (by omega)]; decide
      refine ⟨i, hp2, hp33, hil, Or.inr ⟨hp2, hall, hk⟩, hall, ?_⟩
      simp (disch := omega) only [g_86_22, h32, nI_ltI, nI_2, hC.at, nI_1, hC.sz, hk, Bool.false_eq_true, if_false, ite_self]
      rw [nI_toInt (by omega), nI_toInt (by omega), show ((T.length : Int) - ((i + 1 : Nat) : Int)).toNat + 1 = T.length - (i + 1) + 1 by omega]
    | succ d ih =>
      intro i n hd hn hp2 hp33 hall hil
      obtain ⟨n, rfl⟩ : ∃ k, n = k + 1 := ⟨n - 1, by omega⟩
      by_cases h33 : i = p + 33
      · refine ⟨i, hp2, hp33, hil, Or.inl h33, hall, ?_⟩
        simp (disch := omega) only [g_86_22, h32, nI_ltI, nI_2, hC.at, nI_1, hC.sz]
        rw [if_pos (by omega), nI_toInt (by omega), nI_toInt (by omega), show ((T.length : Int) - ((i + 1 : Nat) : Int)).toNat + 1 = T.length - (i + 1) + 1 by omega]
      by_cases h : k_201 (mA T i) = true
      · have hilt : i < T.length := Nat.lt_of_not_le (fun h' => by rw [mA_out h'] at h; exact absurd h (by decide))
        obtain ⟨a, q1, q2, q3, q4, q5, q6⟩ := ih (i + 1) n (by omega) (by omega) (by omega) (by omega) (fun j h1 h2 => by
          by_cases hj : j = i
          · rw [hj]; exact h
          · exact hall j h1 (by omega)) (by omega)
        refine ⟨a, q1, q2, q3, q4, q5, ?_⟩
        rw [← q6]
        simp (disch := omega) only [g_86_22, h32, nI_ltI, hC.at, h, if_true, nI_1]
        rw [if_neg (by omega)]
      · refine ⟨i, hp2, by omega, hil, Or.inr ⟨hp2, hall, Bool.eq_false_iff.mpr h⟩, hall, ?_⟩
        simp (disch := omega) only [g_86_22, h32, nI_ltI, nI_2, hC.at, nI_1, hC.sz, Bool.eq_false_iff.mpr h, Bool.false_eq_true, if_false]
        rw [if_neg (by omega), nI_toInt (by omega), nI_toInt (by omega), show ((T.length : Int) - ((i + 1 : Nat) : Int)).toNat + 1 = T.length - (i + 1) + 1 by omega]
  obtain ⟨a, q1, q2, q3, q4, q5, q6⟩ := loop (T.length - (p + 2)) (p + 2) (((T.length : Int) - ((p + 2 : Nat) : Int)).toNat + 1) (Nat.le_refl _) (by omega) (Nat.le_refl _) (by omega) (fun j h1 h2 => by omega) (by omega)
  rw [q6]
  have huni : ∀ b, wl k_201 T (p + 2) b → b ≤ p + 33 → mA T b = 58 → b = a := by
    intro b hb hb33 h58
    rcases q4 with h | h
    · rcases Nat.lt_or_ge b a with hlt | hge
      · have := q5 b hb.1 hlt
        rw [hb.2.2] at this; exact absurd this (by decide)
      · omega
    · exact wl_uniq hb h
  by_cases e2 : a = p + 2
  · left
    rw [e2, if_pos rfl]
    refine ⟨rfl, fun x ⟨b, g1, g2, g3, g4, g5, g6, g7⟩ => ?_⟩
    have := huni b g2 g4 g5; omega
  · rw [if_neg (by rw [nI_eq (by omega) (by omega)]; exact e2)]
    by_cases e3 : mA T a = 58
    · have hal := mA_lt e3 (by decide)
      rw [if_pos e3]
      have hwa : wl k_201 T (p + 2) a := ⟨q1, q5, by rw [e3]; decide⟩
      obtain ⟨x, g1, g2, g3⟩ := c86b hC hT (nI p) (i := a + 1) (by omega) (n := T.length - (a + 1) + 1) (by omega)
      rw [g3]
      by_cases e4 : mA T x = 62
      · right; exact ⟨x, ⟨a, e1, hwa, by omega, q2, e3, g1, e4⟩, mA_lt e4 (by decide), if_neg (fun h => h e4)⟩
      · left
        rw [if_pos e4]
        refine ⟨rfl, fun y ⟨b, r1, r2, r3, r4, r5, r6, r7⟩ => ?_⟩
        obtain rfl := huni b r2 r4 r5
        obtain rfl := wl_uniq g1 r6
        exact e4 r7
    · left
      rw [if_neg e3]
      refine ⟨rfl, fun y ⟨b, r1, r2, r3, r4, r5, r6, r7⟩ => ?_⟩
      obtain rfl := huni b r2 r4 r5
      exact e3 r5
def mRaw (T : List Int32) (p : Nat) : Bool := (k_196 (mA T (p + 1)) || (decide (mA T (p + 1) = 33) || (decide (mA T (p + 1) = 63) || (decide (mA T (p + 1) = 47) && k_196 (mA T (p + 2)))))) && decide (62 ∈ T.drop (p + 1))
theorem c89 {C : zr_Z} {T : List Int32} (hC : mC C T) (hT : gT T) {p : Nat} (hp : p < T.length) : f_89 C (nI p) = mRaw T p := by
  have hl := hT.1
  have loop : ∀ d i n, i + d = T.length → d < n → (if g_90 n C 62 (nI (p + 1)) (nI i) = -1 then ¬ 62 ∈ T.drop i else 62 ∈ T.drop i) := by
    intro d
    induction d with
    | zero =>
      intro i n hi hn
      obtain ⟨n, rfl⟩ : ∃ k, n = k + 1 := ⟨n - 1, by omega⟩
      have : g_90 (n + 1) C 62 (nI (p + 1)) (nI i) = -1 := by
        simp (disch := omega) only [g_90, hC.sz, nI_leI]; rw [if_pos (by omega)]
      rw [if_pos this, List.drop_eq_nil_of_le (by omega)]; simp
    | succ d ih =>
      intro i n hi hn
      obtain ⟨n, rfl⟩ : ∃ k, n = k + 1 := ⟨n - 1, by omega⟩
      have hil : i < T.length := by omega
      have hm : mA T i = T[i] := by unfold mA; rw [List.getD_eq_getElem?_getD, List.getElem?_eq_getElem hil]; rfl
      rw [List.drop_eq_getElem_cons hil]
      by_cases h : mA T i = 62
      · have : g_90 (n + 1) C 62 (nI (p + 1)) (nI i) = nI i := by
          simp (disch := omega) only [g_90, hC.sz, nI_leI, hC.at, h, not_true_eq_false, if_false]; rw [if_neg (by omega)]
        rw [this, if_neg (ne_m1 (by omega))]
        rw [hm] at h; rw [h]; simp
      · have : g_90 (n + 1) C 62 (nI (p + 1)) (nI i) = g_90 n C 62 (nI (p + 1)) (nI (i + 1)) := by
          simp (disch := omega) only [g_90, hC.sz, nI_leI, hC.at, h, not_false_eq_true, if_true, nI_1]; rw [if_neg (by omega)]
        rw [this]
        have := ih (i + 1) n (by omega) (by omega)
        rw [hm] at h
        have hne : ¬ 62 = T[i] := fun e => h e.symm
        by_cases hg : g_90 n C 62 (nI (p + 1)) (nI (i + 1)) = -1
        · rw [if_pos hg] at this ⊢; simp only [List.mem_cons, hne, false_or]; exact this
        · rw [if_neg hg] at this ⊢; exact List.mem_cons_of_mem _ this
  unfold f_89 mRaw
  rw [nI_1, nI_2, hC.at (by omega), hC.at (by omega)]
  congr 1
  have := loop (T.length - (p + 1)) (p + 1) (T.length - (p + 1) + 1) (by omega) (by omega)
  have hf : f_90 C 62 (nI (p + 1)) = g_90 (T.length - (p + 1) + 1) C 62 (nI (p + 1)) (nI (p + 1)) := by
    unfold f_90; rw [hC.sz, nI_toInt (by omega), nI_toInt (by omega), show ((T.length : Int) - ((p + 1 : Nat) : Int)).toNat + 1 = T.length - (p + 1) + 1 by omega]
  rw [← hf] at this
  by_cases hg : f_90 C 62 (nI (p + 1)) = -1
  · rw [if_pos hg] at this
    rw [decide_eq_true hg, decide_eq_false this]; rfl
  · rw [if_neg hg] at this
    rw [decide_eq_false hg, decide_eq_true this]; rfl
