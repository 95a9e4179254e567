/-! the mathematics; written by wip/whole/m2parts.py -/
def mC0 (T : List Int32) : zr_Z := (fun _ => T, fun _ => 0, fun _ _ => 0, fun _ => 0, fun _ => 0)
def mR0 (T : List Int32) : zr_Z := (fun _ => [], fun _ => 0, fun j i => if j = 173 then zr_names.getD i 0 else T.getD i (-1), fun _ => nI T.length, fun _ => 0)
def mrf (T : List Int32) (p : Nat) : Option (Nat × Int32) := match o_63 (mC0 T) (nI p) with
  | some (r, C') => if r = -1 then none else some (r.toNatClampNeg, zc C' 0)
  | none => none
theorem mC0_ok (T : List Int32) : mC (mC0 T) T := rfl
theorem mR0_ok (T : List Int32) : mR (mR0 T) T := ⟨rfl, fun i _ => rfl⟩
theorem mN0_ok (T : List Int32) : mN (mR0 T) := fun i _ => rfl
theorem zc_zsc (Z : zr_Z) (j : Nat) (x : Int32) : zc (zsc Z j x) j = x := by unfold zc zsc va_up; exact if_pos rfl
theorem mrf_ref {R : zr_Z} {T : List Int32} (hR : mR R T) (hT : gT T) (hN : mN R) {p : Nat} (hp : p ≤ 1800) :
    (mrf T p = none ∧ ∃ R', o_113 R (nI p) = some (false, R') ∧ scq R R') ∨
    (∃ e v R', mrf T p = some (e, v) ∧ p + 1 < e ∧ e ≤ T.length ∧ mA T p = 38 ∧ mA T (e - 1) = 59 ∧ (∀ t, p ≤ t → t < e → rfc (mA T t) = true) ∧ o_113 R (nI p) = some (true, R') ∧ scq R R' ∧ zf R' 50 = nI e ∧ zf R' 51 = v) := by
  have hl := hT.1
  rcases ref_lock (mC0_ok T) hR hT hN hp with ⟨R', h1, h2, h3⟩ | ⟨e, v, R', h1, h2, h3, h4, h5, h6, h7, h8, h9, h10⟩
  · left; refine ⟨?_, R', h2, h3⟩
    unfold mrf; rw [h1]; dsimp only; rw [if_pos rfl]
  · right; refine ⟨e, v, R', ?_, h1, h2, h3, h4, h5, h7, h8, h9, h10⟩
    unfold mrf; rw [h6]; dsimp only; rw [if_neg (ne_m1 (by omega)), nI_clamp (by omega), zc_zsc]
theorem mrf_class {C : zr_Z} {T : List Int32} (hC : mC C T) (hT : gT T) {p : Nat} (hp : p ≤ 1800) :
    o_63 C (nI p) = some (match mrf T p with | none => (-1, C) | some (e, v) => (nI e, zsc C 0 v)) := by
  have hl := hT.1
  rcases mrf_ref (mR0_ok T) hT (mN0_ok T) hp with ⟨g1, S', g2, g3⟩ | ⟨e', v', S', g1, g2, g3, g4, g5, g6, g7, g8, g9, g10⟩
  · rcases ref_lock hC (mR0_ok T) hT (mN0_ok T) hp with ⟨R', h1, h2, h3⟩ | ⟨e, v, R', h1, h2, h3, h4, h5, h6, h7, h8, h9, h10⟩
    · rw [g1, h1]
    · rw [g2] at h7
      exact Bool.noConfusion (congrArg Prod.fst (Option.some.inj h7))
  · rcases ref_lock hC (mR0_ok T) hT (mN0_ok T) hp with ⟨R', h1, h2, h3⟩ | ⟨e, v, R', h1, h2, h3, h4, h5, h6, h7, h8, h9, h10⟩
    · rw [g7] at h2
      exact Bool.noConfusion (congrArg Prod.fst (Option.some.inj h2))
    · rw [g7] at h7
      have hS : S' = R' := congrArg Prod.snd (Option.some.inj h7)
      subst hS
      have he : e' = e := by
        have := g9.symm.trans h9
        rwa [nI_eq (by omega) (by omega)] at this
      have hv : v' = v := g10.symm.trans h10
      rw [g1, h6, he, hv]
theorem mrf_some {T : List Int32} (hT : gT T) {p : Nat} (hp : p ≤ 1800) {e : Nat} {v : Int32} (h : mrf T p = some (e, v)) :
    p + 1 < e ∧ e ≤ T.length ∧ mA T p = 38 ∧ mA T (e - 1) = 59 ∧ (∀ t, p ≤ t → t < e → rfc (mA T t) = true) := by
  rcases mrf_ref (mR0_ok T) hT (mN0_ok T) hp with ⟨g1, -⟩ | ⟨e', v', S', g1, g2, g3, g4, g5, g6, -⟩
  · rw [g1] at h; exact absurd h (by simp)
  · rw [g1] at h
    have := Option.some.inj h
    obtain rfl : e' = e := congrArg Prod.fst this
    exact ⟨g2, g3, g4, g5, g6⟩
theorem mrf_none {T : List Int32} (hT : gT T) {p : Nat} (hp : p ≤ 1800) (h : ¬ mA T p = 38) : mrf T p = none := by
  cases hm : mrf T p with
  | none => rfl
  | some ev => exact absurd (mrf_some hT hp hm).2.2.1 h
def mun (T : List Int32) (b : Nat) : Nat → Nat → List Int32
  | 0, _ => []
  | n + 1, i => if b ≤ i then [] else if mesc T i = true then mA T (i + 1) :: mun T b n (i + 2) else match mrf T i with
    | some (e, v) => (if k_200 v = true then 65533 else v) :: mun T b n e
    | none => mA T i :: mun T b n (i + 1)
def munesc (T : List Int32) (a b : Nat) : List Int32 := mun T b (b - a) a
theorem mun_len {T : List Int32} (hT : gT T) (b : Nat) (hb : b ≤ 1600) : ∀ n i, mrch T b i → (∀ (h : i < b), rfc (mA T b) = false) → (mun T b n i).length ≤ b - i := by
  intro n
  induction n with
  | zero => intro i _ _; exact Nat.zero_le _
  | succ n ih =>
    intro i hr hf
    rw [mun]
    by_cases hbi : b ≤ i
    · rw [if_pos hbi]; exact Nat.zero_le _
    · rw [if_neg hbi]
      rcases mrch_inv hr with h | ⟨h, hr'⟩
      · omega
      by_cases he : mesc T i = true
      · rw [if_pos he, List.length_cons]
        have e2 : mst T i = 2 := by unfold mst; rw [if_pos he]
        rw [e2] at hr'
        have := mrch_le hr'
        have := ih (i + 2) hr' (fun _ => hf h)
        omega
      · have e1 : mst T i = 1 := by unfold mst; rw [if_neg he]
        rw [e1] at hr'
        rw [if_neg he]
        cases hm : mrf T i with
        | none =>
          dsimp only; rw [List.length_cons]
          have := ih (i + 1) hr' (fun _ => hf h)
          omega
        | some ev =>
          obtain ⟨e, v⟩ := ev
          dsimp only; rw [List.length_cons]
          obtain ⟨g1, g2, g3, g4, g5⟩ := mrf_some hT (by omega) hm
          have hle : e ≤ b := Nat.le_of_not_lt (fun hlt => by
            have := g5 b (by omega) hlt
            rw [hf h] at this; exact absurd this (by decide))
          have hsk : ∀ d t, t + d = e → i ≤ t → mrch T b t → mrch T b e := by
            intro d
            induction d with
            | zero => intro t ht _ h; rw [← (by omega : t = e)]; exact h
            | succ d ihd =>
              intro t ht hit h
              have hne : ¬ mesc T t = true := by
                intro hh
                unfold mesc at hh
                rw [Bool.and_eq_true, decide_eq_true_eq] at hh
                have := g5 t hit (by omega)
                rw [hh.1] at this; exact absurd this (by decide)
              have e1 : mst T t = 1 := by unfold mst; rw [if_neg hne]
              rcases mrch_inv h with h | ⟨h, h'⟩
              · omega
              · rw [e1] at h'; exact ihd (t + 1) (by omega) (by omega) h'
          have := ih e (hsk (e - i) i (by omega) (Nat.le_refl _) hr) (fun _ => hf h)
          omega
theorem mrch_skip {T : List Int32} {b i e : Nat} (hr : mrch T b i) (hie : i ≤ e) (heb : e ≤ b) (hc : ∀ t, i ≤ t → t < e → rfc (mA T t) = true) : mrch T b e := by
  have hsk : ∀ d t, t + d = e → i ≤ t → mrch T b t → mrch T b e := by
    intro d
    induction d with
    | zero => intro t ht _ h; rw [← (by omega : t = e)]; exact h
    | succ d ihd =>
      intro t ht hit h
      have hne : ¬ mesc T t = true := by
        intro hh
        unfold mesc at hh
        rw [Bool.and_eq_true, decide_eq_true_eq] at hh
        have := hc t hit (by omega)
        rw [hh.1] at this; exact absurd this (by decide)
      have e1 : mst T t = 1 := by unfold mst; rw [if_neg hne]
      rcases mrch_inv h with h | ⟨h, h'⟩
      · omega
      · rw [e1] at h'; exact ihd (t + 1) (by omega) (by omega) h'
  exact hsk (e - i) i (by omega) (Nat.le_refl _) hr
def cadd (C C' : zr_Z) (l : List Int32) : Prop := C'.1 = va_up C.1 131 (C.1 131 ++ l) ∧ (∀ j, ¬ j = 0 → zc C' j = zc C j) ∧ C'.2.2 = C.2.2
theorem mup_same {α : Type} (f : Nat → α) (k : Nat) (v : α) : va_up f k v k = v := if_pos rfl
theorem mup_oth {α : Type} (f : Nat → α) {k j : Nat} (v : α) (h : ¬ j = k) : va_up f k v j = f j := if_neg h
theorem mup_up {α : Type} (f : Nat → α) (k : Nat) (v w : α) : va_up (va_up f k v) k w = va_up f k w := by
  funext j; unfold va_up; by_cases h : j = k
  · rw [if_pos h, if_pos h]
  · rw [if_neg h, if_neg h, if_neg h]
theorem mup_self {α : Type} (f : Nat → α) (k : Nat) : va_up f k (f k) = f := by
  funext j; unfold va_up; by_cases h : j = k
  · rw [if_pos h, h]
  · rw [if_neg h]
theorem cadd_nil (C : zr_Z) : cadd C C [] := ⟨by rw [List.append_nil, mup_self], fun _ _ => rfl, rfl⟩
theorem zadd_1 {C : zr_Z} {c : Int32} (h : (C.1 131).length < 3900) : (zadd C 131 c).1 = va_up C.1 131 (C.1 131 ++ [c]) := by
  unfold zadd radd; dsimp only; rw [if_pos (show (C.1 131).length < zr_most 131 from h)]
theorem cadd_cons {C C1 C' : zr_Z} {c : Int32} {l : List Int32} (h : (C.1 131).length < 3900) (h1 : C1.1 = C.1 ∧ (∀ j, ¬ j = 0 → zc C1 j = zc C j) ∧ C1.2.2 = C.2.2) (g : cadd (zadd C1 131 c) C' l) : cadd C C' (c :: l) := by
  refine ⟨?_, fun j hj => (g.2.1 j hj).trans (h1.2.1 j hj), g.2.2.trans h1.2.2⟩
  rw [g.1, zadd_1 (by rw [h1.1]; exact h), mup_up, mup_same, h1.1, List.append_assoc]; rfl
theorem cadd_len {C C1 : zr_Z} {c : Int32} {n : Nat} (h : (C.1 131).length + (n + 1) ≤ 3900) (h1 : C1.1 = C.1) : ((zadd C1 131 c).1 131).length + n ≤ 3900 := by
  rw [zadd_1 (by rw [h1]; omega), mup_same, h1, List.length_append]; simp only [List.length_cons, List.length_nil]; omega
theorem mC_zadd {C : zr_Z} {T : List Int32} (h : mC C T) {id : Nat} (hid : ¬ 61 = id) (c : Int32) : mC (zadd C id c) T := by
  unfold mC zadd; dsimp only; rw [mup_oth _ _ hid]; exact h
theorem c66_loop {T : List Int32} (hT : gT T) (a : Int32) (b : Nat) (hb : b ≤ 1600) : ∀ n i m C, mC C T → mrch T b i → (∀ (h : i < b), rfc (mA T b) = false) → b - i ≤ n → n < m → (C.1 131).length + (mun T b n i).length ≤ 3900 →
    ∃ C', g_66_3 m C a (nI b) (nI i) = some C' ∧ cadd C C' (mun T b n i) := by
  have hl := hT.1
  have stop : ∀ i m C, b ≤ i → i ≤ 1700 → ∃ C', g_66_3 (m + 1) C a (nI b) (nI i) = some C' ∧ cadd C C' [] := by
    intro i m C h h'
    refine ⟨C, ?_, cadd_nil C⟩
    rw [g_66_3, if_pos ((nI_leI (by omega) (by omega)).mpr h)]
  intro n
  induction n with
  | zero =>
    intro i m C hC hr hf hn hm hroom
    obtain ⟨m, rfl⟩ : ∃ k, m = k + 1 := ⟨m - 1, by omega⟩
    have := mrch_le hr
    rw [mun]; exact stop i m C (by omega) (by omega)
  | succ n ih =>
    intro i m C hC hr hf hn hm hroom
    obtain ⟨m, rfl⟩ : ∃ k, m = k + 1 := ⟨m - 1, by omega⟩
    have hile := mrch_le hr
    rw [mun] at hroom ⊢
    by_cases hbi : b ≤ i
    · rw [if_pos hbi]; exact stop i m C hbi (by omega)
    rw [if_neg hbi] at hroom ⊢
    rcases mrch_inv hr with h | ⟨h, hr'⟩
    · omega
    have hnb : ¬ nI b ≤ nI i := fun h => hbi ((nI_leI (by omega) (by omega)).mp h)
    rw [g_66_3, if_neg hnb, mrf_class hC hT (by omega)]
    simp only [Option.bind_some]
    have hm1 : ∀ i, i ≤ 1800 → (-1 : Int32) ≤ nI i := by
      intro i hi
      rw [Int32.le_iff_toInt_le, nI_toInt (by omega)]
      have : (-1 : Int32).toInt = -1 := by decide
      omega
    by_cases he : mesc T i = true
    · have e2 : mst T i = 2 := by unfold mst; rw [if_pos he]
      rw [e2] at hr'
      have := mrch_le hr'
      have he' := he
      unfold mesc at he'
      rw [Bool.and_eq_true, decide_eq_true_eq] at he'
      rw [if_pos he] at hroom ⊢
      rw [mrf_none hT (by omega) (by rw [he'.1]; decide)]
      dsimp only
      rw [List.length_cons] at hroom
      obtain ⟨C', g1, g2⟩ := ih (i + 2) m (zadd C 131 (mA T (i + 1))) (mC_zadd hC (by decide) _) hr' (fun _ => hf h) (by omega) (by omega) (cadd_len (by omega) rfl)
      refine ⟨C', ?_, cadd_cons (by omega) ⟨rfl, fun _ _ => rfl, rfl⟩ g2⟩
      simp (disch := omega) only [hC.at, nI_1, nI_2, nI_leI]
      rw [if_neg (fun h => h he'.1), if_neg (by omega), if_pos he'.2]; exact g1
    · have e1 : mst T i = 1 := by unfold mst; rw [if_neg he]
      rw [e1] at hr'
      rw [if_neg he] at hroom ⊢
      cases hmr : mrf T i with
      | none =>
        rw [hmr] at hroom
        dsimp only at hroom ⊢
        rw [List.length_cons] at hroom
        obtain ⟨C', g1, g2⟩ := ih (i + 1) m (zadd C 131 (mA T i)) (mC_zadd hC (by decide) _) hr' (fun _ => hf h) (by omega) (by omega) (cadd_len (by omega) rfl)
        refine ⟨C', ?_, cadd_cons (by omega) ⟨rfl, fun _ _ => rfl, rfl⟩ g2⟩
        simp (disch := omega) only [hC.at, nI_1, nI_2, nI_leI, hm1 i (by omega), if_true]
        by_cases h92 : mA T i = 92
        · rw [if_neg (fun h => h h92)]
          by_cases hb1 : b ≤ i + 1
          · rw [if_pos hb1]; exact g1
          · rw [if_neg hb1, if_neg (fun hk => he (by unfold mesc; rw [h92, hk]; rfl))]; exact g1
        · rw [if_pos h92]; exact g1
      | some ev =>
        obtain ⟨e, v⟩ := ev
        obtain ⟨q1, q2, q3, q4, q5⟩ := mrf_some hT (by omega) hmr
        have hle : e ≤ b := Nat.le_of_not_lt (fun hlt => by
          have := q5 b (by omega) hlt
          rw [hf h] at this; exact absurd this (by decide))
        rw [hmr] at hroom
        dsimp only at hroom ⊢
        rw [List.length_cons] at hroom
        have hC1 : mC (zsc C 0 v) T := hC
        obtain ⟨C', g1, g2⟩ := ih e m (zadd (zsc C 0 v) 131 (if k_200 v = true then 65533 else v)) (mC_zadd hC1 (by decide) _) (mrch_skip hr (by omega) hle q5) (fun _ => hf h) (by omega) (by omega) (cadd_len (C := C) (by omega) rfl)
        refine ⟨C', ?_, cadd_cons (C1 := zsc C 0 v) (by omega) ⟨rfl, fun j hj => by unfold zc zsc; exact mup_oth _ _ hj, rfl⟩ g2⟩
        simp (disch := omega) only [hC1.at, zc_zsc, olet]
        rw [if_pos (by rw [q3]; decide), if_neg (by rw [nI_leI (by omega) (by omega)]; omega)]
        exact g1
theorem c66 {C : zr_Z} {T : List Int32} (hC : mC C T) (hT : gT T) {a b : Nat} (hb : b ≤ 1600) (hr : mrch T b a) (hf : a < b → rfc (mA T b) = false) (hroom : (C.1 131).length + (munesc T a b).length ≤ 3900) :
    ∃ C', o_66 C (nI a) (nI b) = some C' ∧ cadd C C' (munesc T a b) := by
  unfold o_66 munesc at *
  exact c66_loop hT (nI a) b hb (b - a) a oF C hC hr hf (Nat.le_refl _) (by unfold oF; have := mrch_le hr; omega) hroom
