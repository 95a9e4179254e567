/-! the mathematics; written by wip/whole/m2parts.py -/
def wnd (nd : Nd) : Nat :=
  if nd.1 = 0 then csts nd.2.2.2.1 else if nd.1 = 1 then 1 else if nd.1 = 2 then 6 else if nd.1 = 3 then 13 + csts nd.2.2.2.1 else if nd.1 = 4 then 9 else if nd.1 = 5 then 17
  else if nd.1 = 6 ∨ nd.1 = 7 then 23 + csts nd.2.2.2.1 + (if nd.2.2.2.2.1 = [] then 0 else 9 + csts nd.2.2.2.2.1) else 0
def wN (N : List Nd) : Nat := (N.map wnd).sum
theorem wN_app (N M : List Nd) : wN (N ++ M) = wN N + wN M := by unfold wN; rw [List.map_append, List.sum_append]
theorem wN_set : ∀ (N : List Nd) (i : Nat) (nd x : Nd), N[i]? = some nd → wN (N.set i x) + wnd nd = wN N + wnd x := by
  intro N
  induction N with
  | nil => intro i nd x h; exact absurd h (by simp)
  | cons a N ih =>
    intro i nd x h
    cases i with
    | zero =>
      rw [List.getElem?_cons_zero, Option.some.injEq] at h
      rw [h, List.set_cons_zero]
      unfold wN; rw [List.map_cons, List.map_cons, List.sum_cons, List.sum_cons]; omega
    | succ i =>
      rw [List.getElem?_cons_succ] at h
      have := ih i nd x h
      rw [List.set_cons_succ]
      have e : ∀ M : List Nd, wN (a :: M) = wnd a + wN M := fun M => by unfold wN; rw [List.map_cons, List.sum_cons]
      rw [e, e]; omega
theorem csts_one (c : Int32) : csts [c] = cst c := by unfold csts; rw [List.map_cons, List.sum_cons]; rfl
theorem wnd_let {nd : Nd} (h : nd.1 = 0 ∨ nd.1 = 3) (c : Int32) : wnd (ndL nd c) = wnd nd + cst c := by
  unfold wnd ndL
  dsimp only
  rcases h with h | h
  · rw [if_pos h, if_pos h, csts_app, csts_one]
  · rw [h, if_neg (by decide), if_neg (by decide), if_neg (by decide), if_pos rfl, if_neg (by decide), if_neg (by decide), if_neg (by decide), if_pos rfl, csts_app, csts_one]; omega
theorem wnd_new {t : Tok} {st : List Nat} (h : tok_ok t) : wnd (nNd t st) ≤ ow t := by
  unfold wnd nNd ow
  dsimp only
  by_cases h0 : t.1 = 0
  · rw [if_pos h0, if_pos h0, if_pos h0, csts_one]; exact Nat.le_refl _
  rw [if_neg h0, if_neg h0, if_neg h0]
  by_cases h1 : t.1 = 1
  · rw [if_pos h1, if_pos h1]; exact Nat.le_refl _
  rw [if_neg h1, if_neg h1]
  by_cases h2 : t.1 = 2
  · rw [if_pos h2, if_pos h2]; exact Nat.le_refl _
  rw [if_neg h2, if_neg h2]
  by_cases h3 : t.1 = 3
  · rw [if_pos h3, if_pos h3, h.2 (by rw [h3]; decide)]; exact Nat.le_refl _
  rw [if_neg h3, if_neg h3]
  exact Nat.le_refl _
def PRE (N : List Nd) (A : Nat → List Nat) : Prop := A 0 = [] ∧ ∀ k nd, N[k]? = some nd → nd.2.1 = hdI (A k) ∧ nd.2.2.1 = (A k).length + 1 ∧ (A k).length < 20 ∧ (0 ≤ nd.1 ∧ nd.1 ≤ 7) ∧ A (k + 1) <:+ (if nd.1 < 4 then A k else k :: A k)
def GI (S : GS) (A : Nat → List Nat) (w : Nat) : Prop := PRE S.1 A ∧ A S.1.length = S.2.1 ∧ (∀ i, S.2.2 = some i → ∃ nd : Nd, S.1[i]? = some nd ∧ (nd.1 = 0 ∨ nd.1 = 3)) ∧ wN S.1 ≤ w
theorem PRE_up {N : List Nd} {A : Nat → List Nat} (h : PRE N A) {l : List Nat} (hl : l <:+ A N.length) : PRE N (va_up A N.length l) := by
  have hlt : ∀ (k : Nat) (nd : Nd), N[k]? = some nd → k < N.length := fun k nd hk => (List.getElem?_eq_some_iff.mp hk).1
  refine ⟨?_, fun k nd hk => ?_⟩
  · by_cases h0 : 0 = N.length
    · rw [← h0] at hl; rw [← h0, mup_same]; rw [h.1] at hl; exact List.suffix_nil.mp hl
    · rw [mup_oth _ _ h0]; exact h.1
  · have hk' := hlt k nd hk
    obtain ⟨a, b, c, d, e⟩ := h.2 k nd hk
    rw [mup_oth A l (show ¬ k = N.length by omega)]
    refine ⟨a, b, c, d, ?_⟩
    by_cases h1 : k + 1 = N.length
    · rw [h1, mup_same]; rw [h1] at e; exact hl.trans e
    · rw [mup_oth _ _ h1]; exact e
theorem GI_step {S : GS} {A : Nat → List Nat} {w : Nat} {t : Tok} (h : GI S A w) (ht : tok_ok t) (hm : mkn S t → S.2.1.length < 20) : ∃ A', GI (gst S t) A' (w + ow t) := by
  obtain ⟨hp, ha, hs, hw⟩ := h
  by_cases h9 : t.1 = 9
  · rw [gst_9 S h9]
    refine ⟨va_up A S.1.length S.2.1.tail, PRE_up hp (by rw [ha]; exact List.tail_suffix _), mup_same _ _ _, fun i hi => absurd hi (by simp), by dsimp only; omega⟩
  by_cases h10 : t.1 = 10
  · rw [gst_10 S h10]
    exact ⟨A, hp, ha, fun i hi => absurd hi (by simp), by dsimp only; omega⟩
  by_cases hl : t.1 = 0 ∧ ¬ S.2.2 = none
  · obtain ⟨i, hi⟩ : ∃ i, S.2.2 = some i := by
      cases h : S.2.2 with
      | none => exact absurd h hl.2
      | some i => exact ⟨i, rfl⟩
    have et : t = tkc t.2.1 := by
      have := ht.2 (by rw [hl.1]; decide)
      unfold tkc; rw [← hl.1]
      exact Prod.ext rfl (Prod.ext rfl (by rw [this]))
    obtain ⟨nd, hnd, hk⟩ := hs i hi
    rw [et, gst_let hi]
    refine ⟨A, ⟨hp.1, fun k x hx => ?_⟩, ?_, fun j hj => ?_, ?_⟩
    · dsimp only at hx ⊢
      cases hkn : S.1[k]? with
      | none =>
        rw [List.getElem?_eq_none_iff] at hkn
        have := (List.getElem?_eq_some_iff.mp hx).1
        rw [setL_len] at this; omega
      | some y =>
        rw [setL_at hkn, Option.some.injEq] at hx
        have := hp.2 k y hkn
        rw [← hx]
        by_cases hik : i = k
        · rw [if_pos hik]; exact this
        · rw [if_neg hik]; exact this
    · dsimp only; rw [setL_len]; exact ha
    · dsimp only at hj ⊢
      rw [Option.some.injEq] at hj; rw [← hj]
      exact ⟨ndL nd t.2.1, by rw [setL_at hnd, if_pos rfl], hk⟩
    · dsimp only
      rw [setL_get hnd]
      have e1 := wN_set S.1 i nd (ndL nd t.2.1) hnd
      rw [wnd_let hk] at e1
      have : ow (tkc t.2.1) = cst t.2.1 := rfl
      omega
  · have hmk : mkn S t := ⟨h9, h10, hl⟩
    rw [gst_new hmk]
    have h20 := hm hmk
    have hlt : ∀ (k : Nat) (nd : Nd), S.1[k]? = some nd → k < S.1.length := fun k nd hk => (List.getElem?_eq_some_iff.mp hk).1
    refine ⟨va_up A (S.1.length + 1) (if t.1 < 4 then S.2.1 else S.1.length :: S.2.1), ⟨?_, fun k x hx => ?_⟩, ?_, fun j hj => ?_, ?_⟩
    · rw [mup_oth _ _ (by omega)]; exact hp.1
    · dsimp only at hx
      rw [List.getElem?_append] at hx
      by_cases hk : k < S.1.length
      · rw [if_pos hk] at hx
        rw [mup_oth _ _ (show ¬ k = S.1.length + 1 by omega), mup_oth _ _ (show ¬ k + 1 = S.1.length + 1 by omega)]
        exact hp.2 k x hx
      · rw [if_neg hk] at hx
        obtain rfl : k = S.1.length := by
          have := (List.getElem?_eq_some_iff.mp hx).1
          simp only [List.length_singleton] at this; omega
        rw [Nat.sub_self, List.getElem?_cons_zero, Option.some.injEq] at hx
        rw [mup_oth _ _ (show ¬ S.1.length = S.1.length + 1 by omega), mup_same, ha, ← hx]
        refine ⟨rfl, rfl, h20, ?_, ?_⟩
        · rcases ht.1 with g | g | g
          · exact g
          · exact absurd g h9
          · exact absurd g h10
        · exact List.suffix_refl _
    · dsimp only; rw [List.length_append, List.length_singleton, mup_same]
    · dsimp only at hj ⊢
      by_cases h0 : t.1 = 0
      · rw [if_pos h0, Option.some.injEq] at hj
        rw [← hj]
        exact ⟨nNd t S.2.1, by rw [List.getElem?_append_right (Nat.le_refl _), Nat.sub_self]; rfl, Or.inl h0⟩
      · rw [if_neg h0] at hj
        by_cases h3 : t.1 = 3
        · rw [if_pos h3, Option.some.injEq] at hj
          rw [← hj]
          exact ⟨nNd t S.2.1, by rw [List.getElem?_append_right (Nat.le_refl _), Nat.sub_self]; rfl, Or.inr h3⟩
        · rw [if_neg h3] at hj; exact absurd hj (by simp)
    · dsimp only
      rw [wN_app]
      have e1 := wnd_new (st := S.2.1) ht
      have e2 : wN [nNd t S.2.1] = wnd (nNd t S.2.1) := by unfold wN; rw [List.map_cons, List.sum_cons]; rfl
      omega
theorem GI_fold : ∀ (l : List Tok) (S : GS) (A : Nat → List Nat) (w : Nat), GI S A w → (∀ t ∈ l, tok_ok t) → gok l S → ∃ A', GI (gfold l S) A' (w + ows l) := by
  intro l
  induction l with
  | nil => intro S A w h _ _; exact ⟨A, h⟩
  | cons t l ih =>
    intro S A w h ht hg
    obtain ⟨A1, h1⟩ := GI_step h (ht t (List.mem_cons_self ..)) hg.1
    obtain ⟨A2, h2⟩ := ih (gst S t) A1 (w + ow t) h1 (fun k hk => ht k (List.mem_cons_of_mem _ hk)) hg.2
    refine ⟨A2, ?_⟩
    have : ows (t :: l) = ow t + ows l := by unfold ows; rw [List.map_cons, List.sum_cons]
    rw [this, ← Nat.add_assoc]; exact h2
def NOK (N : List Nd) : Prop := (∃ A, PRE N A) ∧ wN N ≤ 18000 ∧ N.length ≤ 1500
theorem NOK_fold {l : List Tok} (ht : ∀ t ∈ l, tok_ok t) (hg : gok l S0) (hw : ows l ≤ 18000) (hl : l.length ≤ 1500) : NOK (gfold l S0).1 := by
  obtain ⟨A, h⟩ := GI_fold l S0 (fun _ => []) 0 ⟨⟨rfl, fun k nd hk => absurd hk (by simp)⟩, rfl, fun i hi => absurd hi (by simp), Nat.le_refl _⟩ ht hg
  refine ⟨⟨A, h.1⟩, by have := h.2.2.2; omega, ?_⟩
  have := gfold_len l S0
  simp only [List.length_nil] at this; omega
