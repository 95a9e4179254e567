/-! the mathematics; written by wip/whole/m2parts.py -/
def mnf (T : List Int32) : Nat → Nat → Bool → List Int32 → List Int32
  | 0, _, _, acc => acc
  | n + 1, i, w, acc => if k_194 (mA T i) = true then mnf T n (i + 1) true acc else mnf T n (i + 1) false (acc ++ (if w = true ∧ ¬ acc = [] then [32] else []) ++ [k_192 (mA T i)])
def mnorm (T : List Int32) (a b : Nat) : List Int32 := mnf T (b - a) a false []
theorem mnf_len (T : List Int32) : ∀ n i w acc, (mnf T n i w acc).length ≤ acc.length + n + (if w = true then 1 else 0) := by
  intro n
  induction n with
  | zero => intro i w acc; rw [mnf]; omega
  | succ n ih =>
    intro i w acc
    rw [mnf]
    by_cases h : k_194 (mA T i) = true
    · rw [if_pos h]
      have := ih (i + 1) true acc
      rw [if_pos rfl] at this
      by_cases hw : w = true
      · rw [if_pos hw]; omega
      · rw [if_neg hw]; omega
    · rw [if_neg h]
      have := ih (i + 1) false (acc ++ (if w = true ∧ ¬ acc = [] then [32] else []) ++ [k_192 (mA T i)])
      have e0 : (if false = true then 1 else 0) = 0 := rfl
      rw [e0] at this
      simp only [List.length_append, List.length_cons, List.length_nil] at this
      by_cases hw : w = true
      · rw [if_pos hw]
        have h1 : (if w = true ∧ ¬ acc = [] then [32] else [] : List Int32).length ≤ 1 := by split <;> simp
        omega
      · have h1 : (if w = true ∧ ¬ acc = [] then [32] else [] : List Int32).length = 0 := by rw [if_neg (fun h => hw h.1)]; rfl
        rw [if_neg hw]
        omega
theorem mnf_ge (T : List Int32) : ∀ n i w acc, acc.length ≤ (mnf T n i w acc).length := by
  intro n
  induction n with
  | zero => intro i w acc; exact Nat.le_refl _
  | succ n ih =>
    intro i w acc
    rw [mnf]
    split
    · exact ih _ _ _
    · refine Nat.le_trans ?_ (ih _ _ _)
      simp only [List.length_append, List.length_cons, List.length_nil]; omega
theorem mnorm_len (T : List Int32) (a b : Nat) : (mnorm T a b).length ≤ b - a := by
  have := mnf_len T (b - a) a false []
  simpa [mnorm] using this
theorem zadd87 {C : zr_Z} {c : Int32} (h : (C.1 87).length < 100) : zadd C 87 c = (va_up C.1 87 (C.1 87 ++ [c]), C.2) := by
  unfold zadd radd; rw [if_pos (show (C.1 87).length < zr_most 87 from h)]
theorem up_eq {C : zr_Z} (k : Nat) : (va_up C.1 k (C.1 k), C.2) = C := by rw [mup_self]
theorem c22_loop {T : List Int32} (a : Int32) (b : Nat) (hb : b ≤ 1500) : ∀ d i n (w : Bool) C, mC C T → i + d = b → d < n → (mnf T d i w (C.1 87)).length ≤ 100 →
    g_22_13 n C a (nI b) (bI w) (nI i) = (va_up C.1 87 (mnf T d i w (C.1 87)), C.2) := by
  intro d
  induction d with
  | zero =>
    intro i n w C hC hi hn hl
    obtain ⟨n, rfl⟩ : ∃ k, n = k + 1 := ⟨n - 1, by omega⟩
    rw [g_22_13, if_pos ((nI_leI (by omega) (by omega)).mpr (by omega)), mnf, up_eq]
  | succ d ih =>
    intro i n w C hC hi hn hl
    obtain ⟨n, rfl⟩ : ∃ k, n = k + 1 := ⟨n - 1, by omega⟩
    have hz : ((zs C 87) ≤ 0) ↔ C.1 87 = [] := by
      have hlen : (C.1 87).length ≤ 100 := Nat.le_trans (mnf_ge T _ _ _ _) hl
      unfold zs; rw [← nI_0, nI_leI (by omega) (by omega)]
      exact ⟨fun h => List.length_eq_zero_iff.mp (by omega), fun h => by rw [h]; exact Nat.le_refl _⟩
    rw [g_22_13, if_neg (by rw [nI_leI (by omega) (by omega)]; omega), hC.at (by omega), nI_1]
    rw [mnf] at hl ⊢
    by_cases hw : k_194 (mA T i) = true
    · rw [if_pos hw] at hl ⊢
      rw [if_pos hw]
      exact ih (i + 1) n true C hC (by omega) (by omega) hl
    · rw [if_neg hw] at hl ⊢
      rw [if_neg hw]
      have hge := mnf_ge T d (i + 1) false (C.1 87 ++ (if w = true ∧ ¬ C.1 87 = [] then [32] else []) ++ [k_192 (mA T i)])
      have hge := Nat.le_trans hge hl
      simp only [List.length_append, List.length_cons, List.length_nil] at hge
      have one : ∀ l, C.1 87 ++ (if w = true ∧ ¬ C.1 87 = [] then [32] else []) ++ [k_192 (mA T i)] = C.1 87 ++ l → ∀ D, D = (va_up C.1 87 (C.1 87 ++ l), C.2) →
          g_22_13 n D a (nI b) 0 (nI (i + 1)) = (va_up C.1 87 (mnf T d (i + 1) false (C.1 87 ++ (if w = true ∧ ¬ C.1 87 = [] then [32] else []) ++ [k_192 (mA T i)])), C.2) := by
        intro l hl' D hD
        have hD87 : D.1 87 = C.1 87 ++ l := by rw [hD]; dsimp only; exact mup_same _ _ _
        have hDC : mC D T := by rw [hD]; unfold mC; dsimp only; rw [mup_oth _ _ (by decide)]; exact hC
        have := ih (i + 1) n false D hDC (by omega) (by omega) (by rw [hD87, ← hl']; exact hl)
        rw [hD87, ← hl'] at this
        refine Eq.trans this ?_
        rw [hD]; dsimp only; rw [mup_up]
      by_cases hww : w = true ∧ ¬ C.1 87 = []
      · rw [if_pos hww] at hge
        simp only [List.length_cons, List.length_nil] at hge
        obtain ⟨rfl, hne⟩ := hww
        rw [if_neg (by decide), if_neg (fun h => hne (hz.mp h))]
        refine one ([32] ++ [k_192 (mA T i)]) (by rw [if_pos ⟨rfl, hne⟩, List.append_assoc]) _ ?_
        have e1 : zadd C 87 32 = (va_up C.1 87 (C.1 87 ++ [32]), C.2) := zadd87 (by omega)
        rw [e1, zadd87 (by show (va_up C.1 87 (C.1 87 ++ [32]) 87).length < 100; rw [mup_same, List.length_append]; simp only [List.length_cons, List.length_nil]; omega)]
        dsimp only; rw [mup_same, mup_up, List.append_assoc]
      · rw [if_neg hww] at hge
        simp only [List.length_nil] at hge
        have hfin := one [k_192 (mA T i)] (by rw [if_neg hww, List.append_nil]) _ (zadd87 (c := k_192 (mA T i)) (C := C) (by omega))
        cases w with
        | false => rw [if_pos (show bI false = 0 from rfl)]; exact hfin
        | true =>
          have he : C.1 87 = [] := Decidable.byContradiction (fun h => hww ⟨rfl, h⟩)
          rw [if_neg (by decide), if_pos (hz.mpr he)]; exact hfin
theorem c22 {C : zr_Z} {T : List Int32} (hC : mC C T) {a b : Nat} (hab : a ≤ b) (hb : b ≤ 1500) (h100 : b - a ≤ 100) : f_22 C (nI a) (nI b) = (va_up C.1 87 (mnorm T a b), C.2) := by
  have hcut : zcut C 87 0 = (va_up C.1 87 [], C.2) := by
    unfold zcut rcut; rw [if_neg (by decide)]; rfl
  unfold f_22
  rw [hcut, nI_toInt (by omega), nI_toInt (by omega)]
  have hl := mnorm_len T a b
  have h87 : (va_up C.1 87 ([] : List Int32)) 87 = [] := mup_same _ _ _
  have := c22_loop (T := T) (nI a) b hb (b - a) a (((b : Int) - (a : Int)).toNat + 1) false (va_up C.1 87 [], C.2) (by unfold mC; dsimp only; rw [mup_oth _ _ (by decide)]; exact hC) (by omega) (by omega) (by dsimp only; rw [h87]; unfold mnorm at hl; omega)
  refine Eq.trans this ?_
  dsimp only; rw [h87, mup_up]; rfl
def dends : Nat → List (List Int32) → List Int32
  | _, [] => []
  | s, w :: D => nI (s + w.length) :: dends (s + w.length) D
def DEF (C R : zr_Z) (D : List (List Int32)) : Prop :=
  D.length ≤ 20 ∧ (∀ w ∈ D, w.length ≤ 100) ∧ C.1 83 = D.flatten ∧ C.1 85 = dends 0 D ∧
  zf R 7 = nI D.length ∧ (∀ d, d < D.length → rv R 140 d = nI (D.getD d []).length) ∧ (∀ d k, d < D.length → k < (D.getD d []).length → rv R 139 (100 * d + k) = (D.getD d []).getD k 0)
def dfind (w : List Int32) : Nat → List (List Int32) → Int32
  | _, [] => -1
  | d, v :: D => if v = w then nI d else dfind w (d + 1) D
theorem f23_eq {C : zr_Z} {s : Nat} {v w pre post : List Int32} (h83 : C.1 83 = pre ++ v ++ post) (hs : pre.length = s) (h87 : C.1 87 = w) (hb : (pre ++ v ++ post).length ≤ 2000) (hw : w.length ≤ 100) :
    f_23 C (nI s) (nI (s + v.length)) = decide (v = w) := by
  have hlen : s + v.length ≤ 2000 := by simp only [List.length_append] at hb; omega
  have hz : zs C 87 = nI w.length := by unfold zs; rw [h87]
  have h83at : ∀ i, i < v.length → zt C 83 (nI s + nI i) = v.getD i (-1) := by
    intro i hi
    rw [nI_add]; unfold zt; rw [h83, rat_mA (by omega)]; unfold mA
    rw [List.append_assoc, List.getD_eq_getElem?_getD, List.getElem?_append_right (by omega), List.getElem?_append_left (by omega), List.getD_eq_getElem?_getD]
    congr 2; omega
  have h87at : ∀ i, i < 1000 → zt C 87 (nI i) = w.getD i (-1) := by
    intro i hi; unfold zt; rw [h87, rat_mA (by omega)]; rfl
  unfold f_23
  rw [pk_sub (by omega), hz, show s + v.length - s = v.length by omega]
  by_cases hl : v.length = w.length
  · rw [hl, if_pos rfl, nI_toInt (by omega)]
    have loop : ∀ d i n, i + d = w.length → d < n → g_23_17 n C (nI s) (nI (s + w.length)) (nI i) = decide (v.drop i = w.drop i) := by
      intro d
      induction d with
      | zero =>
        intro i n hi hn
        obtain ⟨n, rfl⟩ : ∃ k, n = k + 1 := ⟨n - 1, by omega⟩
        rw [g_23_17, hz, if_pos ((nI_leI (by omega) (by omega)).mpr (by omega)), List.drop_eq_nil_of_le (by omega), List.drop_eq_nil_of_le (by omega)]; rfl
      | succ d ih =>
        intro i n hi hn
        obtain ⟨n, rfl⟩ : ∃ k, n = k + 1 := ⟨n - 1, by omega⟩
        have hiv : i < v.length := by omega
        have hiw : i < w.length := by omega
        rw [g_23_17, hz, if_neg (by rw [nI_leI (by omega) (by omega)]; omega), h83at i hiv, h87at i (by omega), nI_1, ih (i + 1) n (by omega) (by omega)]
        rw [List.drop_eq_getElem_cons hiv, List.drop_eq_getElem_cons hiw]
        have e1 : v.getD i (-1) = v[i] := by rw [List.getD_eq_getElem?_getD, List.getElem?_eq_getElem hiv]; rfl
        have e2 : w.getD i (-1) = w[i] := by rw [List.getD_eq_getElem?_getD, List.getElem?_eq_getElem hiw]; rfl
        rw [e1, e2]
        by_cases he : v[i] = w[i]
        · rw [if_pos he]
          refine decide_eq_decide.mpr ⟨fun h => by rw [he, h], fun h => (List.cons.inj h).2⟩
        · rw [if_neg he]; symm; rw [decide_eq_false_iff_not]; intro h; exact he (List.cons.inj h).1
    have := loop w.length 0 (((w.length : Int) - (0 : Int32).toInt).toNat + 1) (by omega) (by have : (0 : Int32).toInt = 0 := rfl; omega)
    rw [nI_0, List.drop_zero, List.drop_zero] at this
    exact this
  · rw [if_neg (by rw [nI_eq (by omega) (by omega)]; exact hl)]
    symm; rw [decide_eq_false_iff_not]; rintro rfl; exact hl rfl
theorem dends_len : ∀ (D : List (List Int32)) s, (dends s D).length = D.length := by
  intro D
  induction D with
  | nil => intro s; rfl
  | cons w D ih => intro s; simp only [dends, List.length_cons, ih]
theorem flat_len : ∀ (D : List (List Int32)), (∀ w ∈ D, w.length ≤ 100) → D.flatten.length ≤ 100 * D.length := by
  intro D
  induction D with
  | nil => intro _; exact Nat.le_refl _
  | cons w D ih =>
    intro h
    have := h w (List.mem_cons_self ..)
    have := ih (fun w hw => h w (List.mem_cons_of_mem _ hw))
    simp only [List.flatten_cons, List.length_append, List.length_cons]; omega
theorem c20 {C R : zr_Z} {T : List Int32} {D : List (List Int32)} (hC : mC C T) (hD : DEF C R D) {a b : Nat} (hab : a ≤ b) (hb : b ≤ 1500) (h100 : b - a ≤ 100) :
    f_20 C (nI a) (nI b) = (dfind (mnorm T a b) 0 D, (va_up C.1 87 (mnorm T a b), C.2)) := by
  have hwl := mnorm_len T a b
  unfold f_20
  rw [c22 hC hab hb h100]
  generalize hE : (va_up C.1 87 (mnorm T a b), C.2) = E
  have e83 : E.1 83 = D.flatten := by rw [← hE]; dsimp only; rw [mup_oth _ _ (by decide)]; exact hD.2.2.1
  have e85 : E.1 85 = dends 0 D := by rw [← hE]; dsimp only; rw [mup_oth _ _ (by decide)]; exact hD.2.2.2.1
  have e87 : E.1 87 = mnorm T a b := by rw [← hE]; dsimp only; exact mup_same _ _ _
  have hfl := flat_len D hD.2.1
  have hDl := hD.1
  have hz : zs E 85 = nI D.length := by unfold zs; rw [e85, dends_len]
  have loop : ∀ (D2 D1 : List (List Int32)) n, D1 ++ D2 = D → D2.length < n → ∀ s, D1.flatten.length = s → E.1 85 = dends 0 D1 ++ dends s D2 →
      g_20_11 n E (nI a) (nI b) (nI s) (nI D1.length) = (dfind (mnorm T a b) D1.length D2, E) := by
    intro D2
    induction D2 with
    | nil =>
      intro D1 n hDD hn s hs h85
      obtain ⟨n, rfl⟩ : ∃ k, n = k + 1 := ⟨n - 1, by omega⟩
      rw [List.append_nil] at hDD
      rw [g_20_11, hz, if_pos ((nI_leI (by omega) (by rw [hDD]; omega)).mpr (by rw [hDD]; exact Nat.le_refl _)), dfind]
    | cons v D2 ih =>
      intro D1 n hDD hn s hs h85
      obtain ⟨n, rfl⟩ : ∃ k, n = k + 1 := ⟨n - 1, by omega⟩
      have hDl' : D.length = D1.length + (D2.length + 1) := by rw [← hDD]; simp
      have hend : zt E 85 (nI D1.length) = nI (s + v.length) := by
        unfold zt; rw [h85, rat_mA (by omega)]; unfold mA
        rw [List.getD_eq_getElem?_getD, List.getElem?_append_right (by rw [dends_len]; exact Nat.le_refl _), dends_len, Nat.sub_self, dends]; rfl
      have hfl2 : E.1 83 = D1.flatten ++ v ++ D2.flatten := by
        rw [e83, ← hDD, List.flatten_append, List.flatten_cons, List.append_assoc]
      rw [g_20_11, hz, if_neg (by rw [nI_leI (by omega) (by omega)]; omega), hend, f23_eq hfl2 hs e87 (by rw [← hfl2, e83]; omega) (by omega), nI_1, dfind]
      by_cases hv : v = mnorm T a b
      · rw [if_pos hv, if_pos (decide_eq_true hv)]
      · rw [if_neg hv, if_neg (by rw [decide_eq_false hv]; decide)]
        have hlen1 : (D1 ++ [v]).length = D1.length + 1 := by simp
        have := ih (D1 ++ [v]) n (by rw [← hDD, List.append_assoc]; rfl) (by simp only [List.length_cons] at hn; omega) (s + v.length) (by rw [List.flatten_append, List.length_append, hs]; simp) (by
          rw [h85, dends]
          have key : ∀ (D1 : List (List Int32)) s0, dends s0 (D1 ++ [v]) = dends s0 D1 ++ [nI (s0 + D1.flatten.length + v.length)] := by
            intro D1
            induction D1 with
            | nil => intro s0; simp [dends]
            | cons u D1 ihk => intro s0; simp only [List.cons_append, dends, ihk, List.flatten_cons, List.length_append]; rw [show s0 + u.length + D1.flatten.length + v.length = s0 + (u.length + D1.flatten.length) + v.length by omega]
          rw [key, Nat.zero_add, hs, List.append_assoc]; rfl)
        rw [hlen1] at this
        exact this
  have := loop D [] (((zs E 85).toInt - (0 : Int32).toInt).toNat + 1) rfl (by rw [hz, nI_toInt (by omega)]; have : (0 : Int32).toInt = 0 := rfl; omega) 0 rfl e85
  rw [nI_0] at this
  exact this
