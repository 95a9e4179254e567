/-! the mathematics; written by wip/whole/m2parts.py -/
def pln (es : Bool) (nd : Nd) : List Int32 := if nd.1 = 0 ∨ nd.1 = 3 then escs es nd.2.2.2.1 else if nd.1 = 1 ∨ nd.1 = 2 then [32] else []
def plns (es : Bool) (l : List Nd) : List Int32 := l.flatMap (pln es)
theorem plns_cons (es : Bool) (nd : Nd) (l : List Nd) : plns es (nd :: l) = pln es nd ++ plns es l := List.flatMap_cons ..
def bhl (d : Nat) : List Nd → Nat
  | [] => 0
  | nd :: l => if nd.2.2.1 ≤ d then 0 else 1 + bhl d l
theorem bhl_le (d : Nat) : ∀ l : List Nd, bhl d l ≤ l.length := by
  intro l
  induction l with
  | nil => exact Nat.le_refl _
  | cons nd l ih =>
    rw [bhl, List.length_cons]
    by_cases h : nd.2.2.1 ≤ d
    · rw [if_pos h]; omega
    · rw [if_neg h]; omega
def bh (N : List Nd) (k d : Nat) : Nat := k + 1 + bhl d (N.drop (k + 1))
theorem bh_le {N : List Nd} {k d : Nat} (hk : k < N.length) : k < bh N k d ∧ bh N k d ≤ N.length := by
  have := bhl_le d (N.drop (k + 1))
  rw [List.length_drop] at this
  unfold bh; omega
theorem wN_cons (a : Nd) (M : List Nd) : wN (a :: M) = wnd a + wN M := by unfold wN; rw [List.map_cons, List.sum_cons]
theorem pln_len (es : Bool) (nd : Nd) : (pln es nd).length ≤ wnd nd := by
  unfold pln wnd
  by_cases h0 : nd.1 = 0
  · rw [if_pos (Or.inl h0), if_pos h0]; exact escs_len es _
  rw [if_neg h0]
  by_cases h1 : nd.1 = 1
  · rw [h1]; simp
  rw [if_neg h1]
  by_cases h2 : nd.1 = 2
  · rw [h2]; simp
  rw [if_neg h2]
  by_cases h3 : nd.1 = 3
  · rw [if_pos (Or.inr h3), if_pos h3]; have := escs_len es nd.2.2.2.1; omega
  rw [if_neg (by rintro (h | h); exact h0 h; exact h3 h), if_neg (by rintro (h | h); exact h1 h; exact h2 h)]; exact Nat.zero_le _
theorem plns_len (es : Bool) : ∀ l : List Nd, (plns es l).length ≤ wN l := by
  intro l
  induction l with
  | nil => exact Nat.le_refl _
  | cons nd l ih => rw [plns_cons, List.length_append, wN_cons]; have := pln_len es nd; omega
section
variable {C : zr_Z} {N : List Nd}
theorem cn_zs (h : CN C N) : zs C 115 = nI N.length := by unfold zs; rw [h.1 115 (by simp [nrows])]
theorem c41_loop (h : CN C N) {k d : Nat} {nd : Nd} (hk : N[k]? = some nd) (hd : nd.2.2.1 = d) (hdb : ∀ (i : Nat) (x : Nd), N[i]? = some x → x.2.2.1 ≤ 20) : ∀ n q m, q + n = N.length → n < m → g_41_4 m C (nI k) (nI q) = nI (q + bhl d (N.drop q)) := by
  intro n
  have hn := h.2.1
  induction n with
  | zero =>
    intro q m hq hm
    obtain ⟨m, rfl⟩ : ∃ z, m = z + 1 := ⟨m - 1, by omega⟩
    rw [g_41_4, cn_zs h, if_pos ((nI_leI (by omega) (by omega)).mpr (by omega)), List.drop_eq_nil_of_le (by omega)]; rfl
  | succ n ih =>
    intro q m hq hm
    obtain ⟨m, rfl⟩ : ∃ z, m = z + 1 := ⟨m - 1, by omega⟩
    have hql : q < N.length := by omega
    have hx : N[q]? = some N[q] := List.getElem?_eq_getElem hql
    have hdr : N.drop q = N[q] :: N.drop (q + 1) := List.drop_eq_getElem_cons hql
    generalize N[q] = x at hx hdr
    have b1 := hdb q x hx
    have b2 := hdb k nd hk
    rw [g_41_4, cn_zs h, if_neg (by rw [nI_leI (by omega) (by omega)]; omega), (cn_tell h hx).2.2.2.1, (cn_tell h hk).2.2.2.1, hdr, bhl, hd]
    by_cases hc : x.2.2.1 ≤ d
    · rw [if_pos ((nI_leI (by omega) (by omega)).mpr hc), if_pos hc]; rfl
    · rw [if_neg (by rw [nI_leI (by omega) (by omega)]; exact hc), if_neg hc, nI_1, ih (q + 1) m (by omega) (by omega)]; congr 1; omega
theorem c41 (h : CN C N) {k : Nat} {nd : Nd} (hk : N[k]? = some nd) (hdb : ∀ (i : Nat) (x : Nd), N[i]? = some x → x.2.2.1 ≤ 20) : f_41 C (nI k) = nI (bh N k nd.2.2.1) := by
  have hn := h.2.1
  have hl := (List.getElem?_eq_some_iff.mp hk).1
  unfold f_41
  rw [nI_1]
  exact c41_loop h hk rfl hdb (N.length - (k + 1)) (k + 1) _ (by omega) (by rw [nI_toInt (by omega)]; omega)
def slc (N : List Nd) (i e : Nat) : List Nd := (N.drop i).take (e - i)
theorem slc_nil (N : List Nd) {i e : Nat} (h : e ≤ i) : slc N i e = [] := by unfold slc; rw [show e - i = 0 by omega, List.take_zero]
theorem slc_cons {N : List Nd} {i e : Nat} {nd : Nd} (hi : N[i]? = some nd) (h : i < e) : slc N i e = nd :: slc N (i + 1) e := by
  obtain ⟨hl, rfl⟩ := List.getElem?_eq_some_iff.mp hi
  unfold slc
  rw [List.drop_eq_getElem_cons hl, show e - i = (e - (i + 1)) + 1 by omega, List.take_succ_cons]
theorem c109_loop (h : CN C N) {e : Nat} (he : e ≤ N.length) (k : Int32) (es : Bool) : ∀ n i m W, i + n = e → n < m → W.length + wN (slc N i e) ≤ 18000 →
    g_109_12 m (cset C W) k es (nI e) (nI i) = some (cset C (W ++ plns es (slc N i e))) := by
  intro n
  have hn := h.2.1
  induction n with
  | zero =>
    intro i m W hi hm hW
    obtain ⟨m, rfl⟩ : ∃ z, m = z + 1 := ⟨m - 1, by omega⟩
    rw [g_109_12, if_pos ((nI_leI (by omega) (by omega)).mpr (by omega)), slc_nil N (by omega)]
    show _ = some (cset C (W ++ [])); rw [List.append_nil]
  | succ n ih =>
    intro i m W hi hm hW
    obtain ⟨m, rfl⟩ : ∃ z, m = z + 1 := ⟨m - 1, by omega⟩
    have hql : i < N.length := by omega
    have hx : N[i]? = some N[i] := List.getElem?_eq_getElem hql
    generalize N[i] = x at hx
    have hs := slc_cons hx (show i < e by omega)
    rw [hs, wN_cons] at hW
    have hpl := pln_len es x
    have hgo : ∀ V, V = pln es x → g_109_12 m (cset C (W ++ V)) k es (nI e) (nI (i + 1)) = some (cset C (W ++ plns es (slc N i e))) := by
      intro V hV
      rw [ih (i + 1) m _ (by omega) (by omega) (by rw [List.length_append, hV]; omega), hs, plns_cons, hV, List.append_assoc]
    have ht := cn_tell h hx
    rw [g_109_12, if_neg (by rw [nI_leI (by omega) (by omega)]; omega), cset_zt C W (by decide), ht.2.1, nI_1]
    have hwx : x.1 = 0 ∨ x.1 = 3 → csts x.2.2.2.1 ≤ wnd x := by
      intro hh; unfold wnd
      rcases hh with g | g
      · rw [if_pos g]; exact Nat.le_refl _
      · rw [g, if_neg (by decide), if_neg (by decide), if_neg (by decide), if_pos rfl]; omega
    by_cases h0 : x.1 = 0
    · have := hwx (Or.inl h0)
      rw [if_pos h0, c110 h hx false es (by rw [if_neg (by decide)]; omega), Option.bind_some]
      refine hgo _ ?_
      unfold pln; rw [if_pos (Or.inl h0), if_neg (by decide)]
    rw [if_neg h0]
    by_cases h3 : x.1 = 3
    · have := hwx (Or.inr h3)
      rw [if_neg (fun hh => hh h3), c110 h hx false es (by rw [if_neg (by decide)]; omega), Option.bind_some]
      refine hgo _ ?_
      unfold pln; rw [if_pos (Or.inr h3), if_neg (by decide)]
    rw [if_pos h3]
    by_cases h1 : x.1 = 1
    · have : 1 ≤ wnd x := by unfold wnd; rw [h1]; simp
      rw [if_pos h1, cset_add C _ (by omega)]
      refine hgo [32] ?_
      unfold pln; rw [h1]; simp
    rw [if_neg h1]
    by_cases h2 : x.1 = 2
    · have : 1 ≤ wnd x := by unfold wnd; rw [h2]; simp
      rw [if_neg (fun hh => hh h2), cset_add C _ (by omega)]
      refine hgo [32] ?_
      unfold pln; rw [h2]; simp
    rw [if_pos h2]
    have := hgo [] (by unfold pln; rw [if_neg (by rintro (h | h); exact h0 h; exact h3 h), if_neg (by rintro (h | h); exact h1 h; exact h2 h)])
    rw [List.append_nil] at this; exact this
def dgt (v : Int32) : List Int32 := if v ≤ 9 then [48 + (v - v / 10 * 10)] else [48 + (v / 10), 48 + (v - v / 10 * 10)]
def tgt (nd : Nd) : List Int32 := if nd.2.2.2.2.2 = -1 then escs true nd.2.2.2.1 else 35 :: dgt nd.2.2.2.2.2
def ttl (nd : Nd) : List Int32 := if nd.2.2.2.2.1 = [] then [] else wbt 22 ++ escs true nd.2.2.2.2.1
theorem tgt_len (nd : Nd) : (tgt nd).length ≤ 3 + csts nd.2.2.2.1 := by
  unfold tgt
  by_cases h : nd.2.2.2.2.2 = -1
  · rw [if_pos h]; have := escs_len true nd.2.2.2.1; omega
  · rw [if_neg h, List.length_cons]; unfold dgt
    by_cases h9 : nd.2.2.2.2.2 ≤ 9
    · rw [if_pos h9, List.length_singleton]; omega
    · rw [if_neg h9]; show 2 + 1 ≤ _; omega
theorem ttl_len (nd : Nd) : (ttl nd).length ≤ (if nd.2.2.2.2.1 = [] then 0 else 9 + csts nd.2.2.2.2.1) := by
  unfold ttl
  by_cases h : nd.2.2.2.2.1 = []
  · rw [if_pos h, if_pos h]; exact Nat.le_refl _
  · rw [if_neg h, if_neg h, List.length_append]
    have := escs_len true nd.2.2.2.2.1
    have : (wbt 22).length = 9 := rfl
    omega
def opn (nd : Nd) (alt : List Int32) : List Int32 :=
  if nd.1 = 0 then escs true nd.2.2.2.1 else if nd.1 = 1 then wbt 15 else if nd.1 = 2 then wbt 16 else if nd.1 = 3 then wbt 17 ++ (escs true nd.2.2.2.1 ++ wbt 18) else if nd.1 = 4 then wbt 19 else if nd.1 = 5 then wbt 20
  else if nd.1 = 6 then wbt 21 ++ (tgt nd ++ (ttl nd ++ wbt 23)) else wbt 24 ++ (tgt nd ++ (wbt 25 ++ (alt ++ (ttl nd ++ wbt 26))))
def cls (nd : Nd) : List Int32 := if nd.1 = 4 then wbt 12 else if nd.1 = 5 then wbt 13 else if nd.1 = 6 then wbt 14 else []
theorem opn_len {nd : Nd} (alt : List Int32) (h7 : 0 ≤ nd.1 ∧ nd.1 ≤ 7) : (opn nd alt).length + (cls nd).length ≤ wnd nd + (if nd.1 = 7 then alt.length else 0) := by
  have h1 := escs_len true nd.2.2.2.1
  have h2 := tgt_len nd
  have h3 := ttl_len nd
  have hk : nd.1 = 0 ∨ nd.1 = 1 ∨ nd.1 = 2 ∨ nd.1 = 3 ∨ nd.1 = 4 ∨ nd.1 = 5 ∨ nd.1 = 6 ∨ nd.1 = 7 := by
    revert h7; generalize nd.1 = z; intro h7
    obtain ⟨j, hj, rfl⟩ := nI_of (x := z) (by intro hh; have := Int32.lt_iff_toInt_lt.mp hh; have := Int32.le_iff_toInt_le.mp h7.1; omega)
    have h8 : nI j ≤ nI 7 := h7.2
    rw [nI_leI hj (by decide)] at h8
    have : j = 0 ∨ j = 1 ∨ j = 2 ∨ j = 3 ∨ j = 4 ∨ j = 5 ∨ j = 6 ∨ j = 7 := by omega
    rcases this with g | g | g | g | g | g | g | g <;> rw [g] <;> decide
  unfold opn cls wnd
  rcases hk with g | g | g | g | g | g | g | g <;> rw [g]
  · simp +decide only [reduceIte, List.length_nil, Nat.add_zero]; exact h1
  · simp; decide
  · simp; decide
  · simp +decide only [reduceIte, List.length_append, List.length_nil]
    have : (wbt 17).length = 6 := rfl
    have : (wbt 18).length = 7 := rfl
    omega
  · simp; decide
  · simp; decide
  · simp +decide only [reduceIte, List.length_append, List.length_nil, true_or]
    have : (wbt 21).length = 9 := rfl
    have : (wbt 23).length = 2 := rfl
    have : (wbt 14).length = 4 := rfl
    omega
  · simp +decide only [reduceIte, List.length_append, List.length_nil, or_true]
    have : (wbt 24).length = 10 := rfl
    have : (wbt 25).length = 7 := rfl
    have : (wbt 26).length = 3 := rfl
    omega
end
