/-! the mathematics; written by wip/whole/m2parts.py -/
def cset (C : zr_Z) (W : List Int32) : zr_Z := (va_up C.1 134 W, C.2)
theorem cset_row (C : zr_Z) (W : List Int32) {id : Nat} (h : ¬ id = 134) : (cset C W).1 id = C.1 id := mup_oth C.1 W h
theorem cset_out (C : zr_Z) (W : List Int32) : (cset C W).1 134 = W := mup_same C.1 134 W
theorem cset_zt (C : zr_Z) (W : List Int32) {id : Nat} (h : ¬ id = 134) (i : Int32) : zt (cset C W) id i = zt C id i := by unfold zt; rw [cset_row C W h]
theorem cset_zs (C : zr_Z) (W : List Int32) {id : Nat} (h : ¬ id = 134) : zs (cset C W) id = zs C id := by unfold zs; rw [cset_row C W h]
theorem cset_zc (C : zr_Z) (W : List Int32) (j : Nat) : zc (cset C W) j = zc C j := rfl
theorem cset_cset (C : zr_Z) (W V : List Int32) : cset (cset C W) V = cset C V := by unfold cset; rw [mup_up]
theorem cset_add (C : zr_Z) {W : List Int32} (c : Int32) (h : W.length < 18000) : zadd (cset C W) 134 c = cset C (W ++ [c]) := by
  unfold zadd; rw [cset_out]
  have : radd (zr_most 134) W c = W ++ [c] := if_pos h
  rw [this]; exact cset_cset C W _
theorem cset_cut (C : zr_Z) : zcut C 134 0 = cset C [] := by
  unfold zcut cset; rw [row_cut0]
def wbt (j : Nat) : List Int32 := am_byt.getD j []
theorem c101_loop (C : zr_Z) {j : Nat} (hj : j < 27) (hb : (wbt j).length ≤ 100) : ∀ d i m W, i + d = (wbt j).length → d < m → W.length + d ≤ 18000 →
    g_101_2 m (cset C W) j (nI i) = some (cset C (W ++ (wbt j).drop i)) := by
  intro d
  have hs : sln j = nI (wbt j).length := rfl
  induction d with
  | zero =>
    intro i m W hi hm hW
    obtain ⟨m, rfl⟩ : ∃ z, m = z + 1 := ⟨m - 1, by omega⟩
    rw [g_101_2, if_pos hj, hs, if_pos ((nI_leI (by omega) (by omega)).mpr (by omega)), List.drop_eq_nil_of_le (by omega), List.append_nil]
  | succ d ih =>
    intro i m W hi hm hW
    obtain ⟨m, rfl⟩ : ∃ z, m = z + 1 := ⟨m - 1, by omega⟩
    have hil : i < (wbt j).length := by omega
    have hci : sci j (nI i) := ⟨nI_pos (by omega), by rw [nI_clamp (by omega)]; exact hil⟩
    have hch : sch j (nI i) = (wbt j)[i] := by
      unfold sch; rw [nI_clamp (by omega)]
      show (wbt j).getD i 0 = _
      rw [List.getD_eq_getElem?_getD, List.getElem?_eq_getElem hil]; rfl
    rw [g_101_2, if_pos hj, hs, if_neg (by rw [nI_leI (by omega) (by omega)]; omega), if_pos hci, hch, cset_add C _ (by omega), nI_1, ih (i + 1) m _ (by omega) (by omega) (by rw [List.length_append, List.length_singleton]; omega), List.drop_eq_getElem_cons hil, List.append_assoc, List.singleton_append]
theorem c101 (C : zr_Z) {W : List Int32} {j : Nat} (hj : j < 27) (hb : (wbt j).length ≤ 100) (hW : W.length + (wbt j).length ≤ 18000) : o_101 (cset C W) j = some (cset C (W ++ wbt j)) := by
  unfold o_101; rw [if_pos hj]
  have := c101_loop C hj hb (wbt j).length 0 oF W (by omega) (by unfold oF; omega) (by omega)
  rw [nI_0] at this; rw [this, List.drop_zero]
def esc (es : Bool) (c : Int32) : List Int32 := if es = true then (if c = 34 then wbt 9 else if c = 38 then wbt 6 else if c = 60 then wbt 7 else if c = 62 then wbt 8 else [c]) else [c]
def escs (es : Bool) (l : List Int32) : List Int32 := l.flatMap (esc es)
theorem esc_len (es : Bool) (c : Int32) : (esc es c).length ≤ cst c := by
  unfold esc cst
  cases es with
  | false => exact (cst_le c).2
  | true =>
    rw [if_pos rfl]
    by_cases h1 : c = 34
    · rw [h1]; decide
    by_cases h2 : c = 38
    · rw [h2]; decide
    by_cases h3 : c = 60
    · rw [h3]; decide
    by_cases h4 : c = 62
    · rw [h4]; decide
    rw [if_neg h1, if_neg h2, if_neg h3, if_neg h4, if_neg h2, if_neg (by rintro (h | h); exact h3 h; exact h4 h), if_neg h1]; exact Nat.le_refl _
theorem escs_len (es : Bool) : ∀ l : List Int32, (escs es l).length ≤ csts l := by
  intro l
  induction l with
  | nil => exact Nat.le_refl _
  | cons c l ih =>
    have : escs es (c :: l) = esc es c ++ escs es l := List.flatMap_cons ..
    rw [this, List.length_append]
    have h1 := esc_len es c
    have : csts (c :: l) = cst c + csts l := by unfold csts; rw [List.map_cons, List.sum_cons]
    omega
theorem escs_cons (es : Bool) (c : Int32) (l : List Int32) : escs es (c :: l) = esc es c ++ escs es l := List.flatMap_cons ..
theorem c110_loop (C : zr_Z) (k : Int32) (ti es : Bool) (w : List Int32) (hw : w.length ≤ 4000) (hf : ∀ W i, i < w.length → f_40 (cset C W) k ti (nI i) = w.getD i 0) : ∀ d i m W, i + d = w.length → d < m → W.length + csts (w.drop i) ≤ 18000 →
    g_110_34 m (cset C W) k ti es (nI w.length) (nI i) = some (cset C (W ++ escs es (w.drop i))) := by
  intro d
  induction d with
  | zero =>
    intro i m W hi hm hW
    obtain ⟨m, rfl⟩ : ∃ z, m = z + 1 := ⟨m - 1, by omega⟩
    rw [g_110_34, if_pos ((nI_leI (by omega) (by omega)).mpr (by omega)), List.drop_eq_nil_of_le (by omega)]
    show _ = some (cset C (W ++ [])); rw [List.append_nil]
  | succ d ih =>
    intro i m W hi hm hW
    obtain ⟨m, rfl⟩ : ∃ z, m = z + 1 := ⟨m - 1, by omega⟩
    have hil : i < w.length := by omega
    have hg : f_40 (cset C W) k ti (nI i) = w[i] := by
      rw [hf W i hil, List.getD_eq_getElem?_getD, List.getElem?_eq_getElem hil]; rfl
    have hd : w.drop i = w[i] :: w.drop (i + 1) := List.drop_eq_getElem_cons hil
    generalize hc : w[i] = c at hg hd
    have hcs : csts (w.drop i) = cst c + csts (w.drop (i + 1)) := by rw [hd]; unfold csts; rw [List.map_cons, List.sum_cons]
    have hel := esc_len es c
    have hc1 := (cst_le c).2
    have hgo : ∀ V, V = esc es c → g_110_34 m (cset C (W ++ V)) k ti es (nI w.length) (nI (i + 1)) = some (cset C (W ++ escs es (w.drop i))) := by
      intro V hV
      rw [ih (i + 1) m _ (by omega) (by omega) (by rw [List.length_append, hV]; omega), hd, escs_cons, hV, List.append_assoc]
    rw [g_110_34, if_neg (by rw [nI_leI (by omega) (by omega)]; omega), hg, nI_1]
    have hplain : sem 10 = true := by decide
    cases es with
    | false =>
      rw [if_neg (by decide), if_pos hplain, cset_add C _ (by omega)]; exact hgo [c] rfl
    | true =>
      rw [if_pos rfl]
      unfold o_100
      by_cases h1 : c = 34
      · rw [if_pos h1, Option.bind_some, if_pos (by decide), if_neg (by decide), c101 C (by decide) (by decide) (by rw [h1] at hcs; have : cst 34 = 6 := rfl; have : (wbt 9).length = 6 := rfl; omega), Option.bind_some]; exact hgo _ (by rw [h1]; rfl)
      rw [if_neg h1]
      by_cases h2 : c = 38
      · rw [if_pos h2, Option.bind_some, if_pos (by decide), if_neg (by decide), c101 C (by decide) (by decide) (by rw [h2] at hcs; have : cst 38 = 5 := rfl; have : (wbt 6).length = 5 := rfl; omega), Option.bind_some]; exact hgo _ (by rw [h2]; rfl)
      rw [if_neg h2]
      by_cases h3 : c = 60
      · rw [if_pos h3, Option.bind_some, if_pos (by decide), if_neg (by decide), c101 C (by decide) (by decide) (by rw [h3] at hcs; have : cst 60 = 4 := rfl; have : (wbt 7).length = 4 := rfl; omega), Option.bind_some]; exact hgo _ (by rw [h3]; rfl)
      rw [if_neg h3]
      by_cases h4 : c = 62
      · rw [if_pos h4, Option.bind_some, if_pos (by decide), if_neg (by decide), c101 C (by decide) (by decide) (by rw [h4] at hcs; have : cst 62 = 4 := rfl; have : (wbt 8).length = 4 := rfl; omega), Option.bind_some]; exact hgo _ (by rw [h4]; rfl)
      rw [if_neg h4, Option.bind_some, if_pos (by decide), if_pos hplain, cset_add C _ (by omega)]
      exact hgo [c] (by unfold esc; rw [if_pos rfl, if_neg h1, if_neg h2, if_neg h3, if_neg h4])
theorem cn_tell {C : zr_Z} {N : List Nd} {k : Nat} {nd : Nd} (h : CN C N) (hk : N[k]? = some nd) : k < 1500 ∧ zt C 115 (nI k) = nd.1 ∧ zt C 117 (nI k) = nd.2.1 ∧ zt C 119 (nI k) = nI nd.2.2.1 ∧ zt C 129 (nI k) = nd.2.2.2.2.2 ∧ zt C 123 (nI k) = nI nd.2.2.2.1.length ∧ zt C 127 (nI k) = nI nd.2.2.2.2.1.length ∧ nd.2.2.2.1.length ≤ 3900 ∧ nd.2.2.2.2.1.length ≤ 3900 := by
  have hl := (List.getElem?_eq_some_iff.mp hk).1
  have hn := h.2.1
  obtain ⟨a, b, c, d, e, f, ⟨f1, g1, g2, g3⟩, f2, g4, g5, g6⟩ := h.2.2.2 k nd hk
  have h131 := h.2.2.1
  have hz : ∀ id, zt C id (nI k) = ldq C id k := fun id => zt_ldq C id (by omega)
  refine ⟨by omega, (hz _).trans a, (hz _).trans b, (hz _).trans c, (hz _).trans d, (hz _).trans e, (hz _).trans f, ?_, ?_⟩
  · have := g3.1; omega
  · have := g6.1; omega
theorem c40 {C : zr_Z} {N : List Nd} {k : Nat} {nd : Nd} (h : CN C N) (hk : N[k]? = some nd) (ti : Bool) {i : Nat} (hi : i < (if ti = true then nd.2.2.2.2.1 else nd.2.2.2.1).length) : f_40 C (nI k) ti (nI i) = (if ti = true then nd.2.2.2.2.1 else nd.2.2.2.1).getD i 0 := by
  obtain ⟨k0, k1, k2, k3, k4, k5, k6, k7, k8⟩ := cn_tell h hk
  obtain ⟨a, b, c, d, e, f, ⟨f1, g1, g2, g3⟩, f2, g4, g5, g6⟩ := h.2.2.2 k nd hk
  have h131 := h.2.2.1
  have hz : ∀ id, zt C id (nI k) = ldq C id k := fun id => zt_ldq C id (by omega)
  unfold f_40
  cases ti with
  | false =>
    rw [if_neg (show ¬ false = true by decide)] at hi ⊢
    rw [if_neg (show ¬ false = true by decide), if_neg (show ¬ false = true by decide), if_neg (nI_pos (by omega)), k5, if_pos ((nI_ltI (by omega) (by omega)).mpr hi), hz 121, g2, nI_add, zt_ldq _ _ (by omega)]
    exact g3.2 i hi
  | true =>
    rw [if_pos (show true = true from rfl)] at hi ⊢
    rw [if_pos (show true = true from rfl), if_pos (show true = true from rfl), if_neg (nI_pos (by omega)), k6, if_pos ((nI_ltI (by omega) (by omega)).mpr hi), hz 125, g5, nI_add, zt_ldq _ _ (by omega)]
    exact g6.2 i hi
theorem cn_set {C : zr_Z} {N : List Nd} (h : CN C N) (W : List Int32) : CN (cset C W) N := by
  obtain ⟨a, b, c, d⟩ := h
  have hq : ∀ id i, ¬ id = 134 → ldq (cset C W) id i = ldq C id i := fun id i hid => by rw [ldq_eq, ldq_eq, cset_row C W hid]
  refine ⟨fun id hid => by rw [cset_row C W (by revert hid; revert id; decide)]; exact a id hid, b, by rw [cset_row C W (by decide)]; exact c, fun k nd hk => ?_⟩
  have := d k nd hk
  unfold ND1 at this ⊢
  rw [hq 115 _ (by decide), hq 117 _ (by decide), hq 119 _ (by decide), hq 129 _ (by decide), hq 123 _ (by decide), hq 127 _ (by decide), hq 121 _ (by decide), hq 125 _ (by decide), cset_row C W (by decide)]
  exact this
theorem c110 {C : zr_Z} {N : List Nd} {k : Nat} {nd : Nd} {W : List Int32} (h : CN C N) (hk : N[k]? = some nd) (ti es : Bool) (hW : W.length + csts (if ti = true then nd.2.2.2.2.1 else nd.2.2.2.1) ≤ 18000) :
    o_110 (cset C W) (nI k) ti es = some (cset C (W ++ escs es (if ti = true then nd.2.2.2.2.1 else nd.2.2.2.1))) := by
  obtain ⟨k0, k1, k2, k3, k4, k5, k6, k7, k8⟩ := cn_tell h hk
  unfold o_110 olet
  have hx : (if ti = true then zt (cset C W) 127 (nI k) else zt (cset C W) 123 (nI k)) = nI (if ti = true then nd.2.2.2.2.1 else nd.2.2.2.1).length := by
    cases ti with
    | false => rw [if_neg (by decide), if_neg (by decide), cset_zt C W (by decide), k5]
    | true => rw [if_pos rfl, if_pos rfl, cset_zt C W (by decide), k6]
  rw [hx]
  have hl : (if ti = true then nd.2.2.2.2.1 else nd.2.2.2.1).length ≤ 3900 := by cases ti with
    | false => exact k7
    | true => exact k8
  have := c110_loop C (nI k) ti es (if ti = true then nd.2.2.2.2.1 else nd.2.2.2.1) (by omega) (fun V i hi => c40 (cn_set h V) hk ti hi) _ 0 oF W (Nat.zero_add _) (by unfold oF; omega) (by rw [List.drop_zero]; exact hW)
  rw [nI_0, List.drop_zero] at this; exact this
