/-! the mathematics; written by wip/whole/m2parts.py -/
theorem SK_suf {N : List Nd} : ∀ (m l : List Nat), l <:+ m → SK N m → SK N l := by
  intro m
  induction m with
  | nil => intro l h _; rw [List.suffix_nil.mp h]; trivial
  | cons i m ih =>
    intro l h hs
    rcases List.suffix_cons_iff.mp h with g | g
    · rw [g]; exact hs
    · exact ih l g hs.2
section
variable {N : List Nd} {A : Nat → List Nat}
theorem PRE_push (h : PRE N A) {k : Nat} {nd : Nd} (hk : N[k]? = some nd) (hp : (A k).Pairwise (fun a b => b < a) ∧ (∀ i ∈ A k, i < k) ∧ SK N (A k)) : (k :: A k).Pairwise (fun a b => b < a) ∧ (∀ i ∈ k :: A k, i < k + 1) ∧ SK N (k :: A k) := by
  obtain ⟨a, b, c, d, e⟩ := h.2 k nd hk
  refine ⟨List.pairwise_cons.mpr ⟨hp.2.1, hp.1⟩, fun i hi => ?_, ⟨nd, hk, a, b⟩, hp.2.2⟩
  rcases List.mem_cons.mp hi with g | g
  · omega
  · have := hp.2.1 i g; omega
theorem PRE_ok (h : PRE N A) : ∀ k, k < N.length → (A k).Pairwise (fun a b => b < a) ∧ (∀ i ∈ A k, i < k) ∧ SK N (A k) := by
  intro k
  induction k with
  | zero => intro _; rw [h.1]; exact ⟨List.Pairwise.nil, fun i hi => absurd hi (by simp), trivial⟩
  | succ k ih =>
    intro hk
    have hp := ih (by omega)
    have hx : N[k]? = some N[k] := List.getElem?_eq_getElem (by omega)
    generalize N[k] = x at hx
    have hq := PRE_push h hx hp
    have hs : A (k + 1) <:+ k :: A k := by
      have := (h.2 k x hx).2.2.2.2
      by_cases hc : x.1 < 4
      · rw [if_pos hc] at this; exact this.trans (List.suffix_cons _ _)
      · rw [if_neg hc] at this; exact this
    exact ⟨hq.1.sublist hs.sublist, fun i hi => hq.2.1 i (hs.mem hi), SK_suf _ _ hs hq.2.2⟩
theorem bhl_in (d : Nat) : ∀ (l : List Nd), (∀ (t : Nat) (x : Nd), t < bhl d l → l[t]? = some x → d < x.2.2.1) ∧ (∀ x : Nd, l[bhl d l]? = some x → x.2.2.1 ≤ d) := by
  intro l
  induction l with
  | nil => exact ⟨fun t x ht => absurd ht (by show ¬ t < 0; omega), fun x hx => absurd hx (by simp)⟩
  | cons nd l ih =>
    rw [bhl]
    by_cases hc : nd.2.2.1 ≤ d
    · rw [if_pos hc]
      refine ⟨fun t x ht => absurd ht (by omega), fun x hx => ?_⟩
      rw [List.getElem?_cons_zero, Option.some.injEq] at hx; rw [← hx]; exact hc
    · rw [if_neg hc]
      refine ⟨fun t x ht hx => ?_, fun x hx => ?_⟩
      · cases t with
        | zero => rw [List.getElem?_cons_zero, Option.some.injEq] at hx; rw [← hx]; omega
        | succ t => rw [List.getElem?_cons_succ] at hx; exact ih.1 t x (by omega) hx
      · rw [Nat.add_comm, List.getElem?_cons_succ] at hx; exact ih.2 x hx
theorem PRE_bh (h : PRE N A) {k : Nat} {nd : Nd} (hk : N[k]? = some nd) (h4 : ¬ nd.1 < 4) (hb : bh N k nd.2.2.1 < N.length) : A (bh N k nd.2.2.1) <:+ A k := by
  obtain ⟨a, b, c, d, e⟩ := h.2 k nd hk
  rw [if_neg h4] at e
  have hbh : bh N k nd.2.2.1 = k + 1 + bhl nd.2.2.1 (N.drop (k + 1)) := rfl
  have hin := bhl_in nd.2.2.1 (N.drop (k + 1))
  have hget : ∀ t, (N.drop (k + 1))[t]? = N[k + 1 + t]? := fun t => List.getElem?_drop
  have hdep : ∀ i x, k < i → i < bh N k nd.2.2.1 → N[i]? = some x → nd.2.2.1 < x.2.2.1 := by
    intro i x h1 h2 hx
    refine hin.1 (i - (k + 1)) x (by omega) ?_
    rw [hget, show k + 1 + (i - (k + 1)) = i by omega]; exact hx
  have hinn : ∀ i, k < i → i < bh N k nd.2.2.1 → k :: A k <:+ A i := by
    intro i
    induction i with
    | zero => intro h1; exact absurd h1 (by omega)
    | succ i ih =>
      intro h1 h2
      have hx : N[i + 1]? = some N[i + 1] := List.getElem?_eq_getElem (by omega)
      generalize N[i + 1] = x at hx
      have hdx := hdep (i + 1) x h1 h2 hx
      have hlx := (h.2 (i + 1) x hx).2.1
      by_cases hik : i = k
      · subst hik
        exact List.suffix_of_suffix_length_le (List.suffix_refl _) e (by rw [List.length_cons]; omega)
      · have hy : N[i]? = some N[i] := List.getElem?_eq_getElem (by omega)
        generalize N[i] = y at hy
        have hs := (h.2 i y hy).2.2.2.2
        have hi := ih (by omega) (by omega)
        have hi2 : k :: A k <:+ (if y.1 < 4 then A i else i :: A i) := by
          by_cases hc : y.1 < 4
          · rw [if_pos hc]; exact hi
          · rw [if_neg hc]; exact hi.trans (List.suffix_cons _ _)
        exact List.suffix_of_suffix_length_le hi2 hs (by rw [List.length_cons]; omega)
  have hx : N[bh N k nd.2.2.1]? = some N[bh N k nd.2.2.1] := List.getElem?_eq_getElem hb
  generalize N[bh N k nd.2.2.1] = x at hx
  have hdx : x.2.2.1 ≤ nd.2.2.1 := by
    refine hin.2 x ?_
    rw [hget]; exact hx
  have hlx := (h.2 _ x hx).2.1
  by_cases h1 : bh N k nd.2.2.1 = k + 1
  · rw [h1] at hlx ⊢
    exact List.suffix_of_suffix_length_le e (List.suffix_cons _ _) (by omega)
  · have hi := hinn (bh N k nd.2.2.1 - 1) (by omega) (by omega)
    have hy : N[bh N k nd.2.2.1 - 1]? = some N[bh N k nd.2.2.1 - 1] := List.getElem?_eq_getElem (by omega)
    generalize N[bh N k nd.2.2.1 - 1] = y at hy
    have hs := (h.2 _ y hy).2.2.2.2
    rw [show bh N k nd.2.2.1 - 1 + 1 = bh N k nd.2.2.1 by omega] at hs
    have hi2 : A k <:+ (if y.1 < 4 then A (bh N k nd.2.2.1 - 1) else (bh N k nd.2.2.1 - 1) :: A (bh N k nd.2.2.1 - 1)) := by
      have h3 := (List.suffix_cons k (A k)).trans hi
      by_cases hc : y.1 < 4
      · rw [if_pos hc]; exact h3
      · rw [if_neg hc]; exact h3.trans (List.suffix_cons _ _)
    exact List.suffix_of_suffix_length_le hs hi2 (by omega)
end
def opB (K : zr_Z → Int32 → Int32 → Option (Int32 × zr_Z)) (Z : zr_Z) (x1 x2 : Int32) : Option (Int32 × zr_Z) :=
  (Option.bind (o_175 Z x2) fun u3 => (if inq 164 x2 then (if (if (zv u3 164 x2) ≤ 3 then True else (inq 164 x2 ∧ (if (zv u3 164 x2) = 7 then True else True))) then (olet ((if (zv u3 164 x2) ≤ 3 then x1 else (if (zv u3 164 x2) = 7 then x1 else x2 : Int32) : Int32) : Int32) fun x10 => (if inq 164 x2 then (if ¬ (zv u3 164 x2) = 7 then K u3 x10 (x2 + 1) else (Option.bind (o_168 u3 x2) fun u13 => K u3 x10 u13)) else none)) else none) else none))
theorem g43_eq (n : Nat) (Z : zr_Z) (x1 x2 : Int32) (K : zr_Z → Int32 → Int32 → Option (Int32 × zr_Z)) : g_178_43 (n + 1) Z x1 x2 K = (if inq 165 x2 then (if x1 = (zv Z 165 x2) then opB K Z x1 x2 else (Option.bind (o_177 Z x1) fun u14 => (if inq 165 x1 then g_178_43 n u14 (zv u14 165 x1) x2 K else none))) else none) := by
  rw [g_178_43]; rfl
theorem g35_eq (n : Nat) (Z : zr_Z) (x1 x2 : Int32) : g_178_35 (n + 1) Z x1 x2 = (if (zf Z 45) ≤ x2 then (if x1 = (-1) then some (zf Z 49, Z) else (Option.bind (o_177 Z x1) fun u3 => (if inq 165 x1 then g_178_126 oF u3 (zv u3 165 x1) else none))) else (if inq 165 x2 then (if x1 = (zv Z 165 x2) then opB (fun Z x1 x2 => g_178_35 n Z x1 x2) Z x1 x2 else (Option.bind (o_177 Z x1) fun u18 => (if inq 165 x1 then g_178_43 oF u18 (zv u18 165 x1) x2 (fun Z x1 x2 => g_178_35 n Z x1 x2) else none))) else none)) := by
  rw [g_178_35]; rfl
