/-! the mathematics; written by wip/whole/m2parts.py -/
section
variable {C : zr_Z} {N : List Nd} {k : Nat} {nd : Nd} {W : List Int32}
theorem c107 (h : CN C N) (hk : N[k]? = some nd) (hW : W.length + 3 + csts nd.2.2.2.1 ≤ 18000) : o_107 (cset C W) (nI k) = some (cset C (W ++ tgt nd)) := by
  obtain ⟨k0, k1, k2, k3, k4, k5, k6, k7, k8⟩ := cn_tell h hk
  unfold o_107 tgt olet
  rw [cset_zt C W (by decide), k4]
  by_cases hm : nd.2.2.2.2.2 = -1
  · rw [if_neg (fun hh => hh hm), if_pos hm, c110 h hk false true (by rw [if_neg (by decide)]; omega), Option.bind_some, if_neg (by decide)]
  · rw [if_pos hm, if_neg hm]
    unfold dgt
    by_cases h9 : nd.2.2.2.2.2 ≤ 9
    · rw [if_pos h9, if_pos h9, cset_add C _ (by omega), cset_add C _ (by rw [List.length_append, List.length_singleton]; omega), List.append_assoc]; rfl
    · rw [if_neg h9, if_neg h9, cset_add C _ (by omega), cset_add C _ (by rw [List.length_append, List.length_singleton]; omega), cset_add C _ (by rw [List.length_append, List.length_append, List.length_singleton, List.length_singleton]; omega), List.append_assoc, List.append_assoc]; rfl
theorem c108 (h : CN C N) (hk : N[k]? = some nd) (hW : W.length + (if nd.2.2.2.2.1 = [] then 0 else 9 + csts nd.2.2.2.2.1) ≤ 18000) : o_108 (cset C W) (nI k) = some (cset C (W ++ ttl nd)) := by
  obtain ⟨k0, k1, k2, k3, k4, k5, k6, k7, k8⟩ := cn_tell h hk
  unfold o_108 ttl
  rw [cset_zt C W (by decide), k6]
  by_cases hm : nd.2.2.2.2.1 = []
  · rw [hm, if_pos (show nI ([] : List Int32).length ≤ 0 by decide), if_pos rfl, List.append_nil]
  · rw [if_neg hm] at hW
    have hlen : ¬ nd.2.2.2.2.1.length = 0 := fun hh => hm (List.eq_nil_of_length_eq_zero hh)
    have h22 : (wbt 22).length = 9 := rfl
    rw [if_neg (by rw [← nI_0, nI_leI (by omega) (by omega)]; omega), if_neg hm, c101 C (by decide) (by decide) (by rw [h22]; omega), Option.bind_some, c110 h hk true true (by rw [if_pos rfl, List.length_append, h22]; omega), Option.bind_some, if_pos rfl, List.append_assoc]
def altN (N : List Nd) (k : Nat) (nd : Nd) : List Int32 := plns true (slc N (k + 1) (bh N k nd.2.2.1))
theorem c106 (h : CN C N) (hk : N[k]? = some nd) (hdb : ∀ (i : Nat) (x : Nd), N[i]? = some x → x.2.2.1 ≤ 20) (h7 : 0 ≤ nd.1 ∧ nd.1 ≤ 7) (hW : W.length + wnd nd + (if nd.1 = 7 then wN (slc N (k + 1) (bh N k nd.2.2.1)) else 0) ≤ 18000) :
    o_106 (cset C W) (nI k) = some (cset C (W ++ opn nd (altN N k nd))) := by
  obtain ⟨k0, k1, k2, k3, k4, k5, k6, k7, k8⟩ := cn_tell h hk
  have hkl := (List.getElem?_eq_some_iff.mp hk).1
  unfold o_106
  rw [cset_zt C W (by decide), k1]
  have hkk : nd.1 = 0 ∨ nd.1 = 1 ∨ nd.1 = 2 ∨ nd.1 = 3 ∨ nd.1 = 4 ∨ nd.1 = 5 ∨ nd.1 = 6 ∨ nd.1 = 7 := by
    revert h7; generalize nd.1 = z; intro h7
    obtain ⟨j, hj, rfl⟩ := nI_of (x := z) (by intro hh; have := Int32.lt_iff_toInt_lt.mp hh; have := Int32.le_iff_toInt_le.mp h7.1; omega)
    have h8 : nI j ≤ nI 7 := h7.2
    rw [nI_leI hj (by decide)] at h8
    have : j = 0 ∨ j = 1 ∨ j = 2 ∨ j = 3 ∨ j = 4 ∨ j = 5 ∨ j = 6 ∨ j = 7 := by omega
    rcases this with g | g | g | g | g | g | g | g <;> rw [g] <;> decide
  have one : ∀ (V : List Int32) (j : Nat), j < 27 → (wbt j).length ≤ 100 → V.length + (wbt j).length ≤ 18000 → o_101 (cset C V) j = some (cset C (V ++ wbt j)) := fun V j h1 h2 h3 => c101 C h1 h2 h3
  rcases hkk with g | g | g | g | g | g | g | g
  · have hw : wnd nd = csts nd.2.2.2.1 := by unfold wnd; rw [if_pos g]
    have ho : opn nd (altN N k nd) = escs true nd.2.2.2.1 := by unfold opn; rw [if_pos g]
    rw [ho, if_pos g, c110 h hk false true (by rw [if_neg (by decide)]; omega), Option.bind_some, if_neg (by decide)]
  · have hw : wnd nd = 1 := by unfold wnd; rw [g]; simp +decide only [reduceIte]
    have ho : opn nd (altN N k nd) = wbt 15 := by unfold opn; rw [g]; simp +decide only [reduceIte]
    rw [ho, g, if_neg (by decide), if_pos rfl, one W 15 (by decide) (by decide) (by show W.length + 1 ≤ _; omega), Option.bind_some]
  · have hw : wnd nd = 6 := by unfold wnd; rw [g]; simp +decide only [reduceIte]
    have ho : opn nd (altN N k nd) = wbt 16 := by unfold opn; rw [g]; simp +decide only [reduceIte]
    rw [ho, g, if_neg (by decide), if_neg (by decide), if_pos rfl, one W 16 (by decide) (by decide) (by show W.length + 6 ≤ _; omega), Option.bind_some]
  · have hw : wnd nd = 13 + csts nd.2.2.2.1 := by unfold wnd; rw [g]; simp +decide only [reduceIte]
    have ho : opn nd (altN N k nd) = wbt 17 ++ (escs true nd.2.2.2.1 ++ wbt 18) := by unfold opn; rw [g]; simp +decide only [reduceIte]
    have e17 : (wbt 17).length = 6 := rfl
    have e18 : (wbt 18).length = 7 := rfl
    have := escs_len true nd.2.2.2.1
    rw [ho, g, if_neg (by decide), if_neg (by decide), if_neg (by decide), if_pos rfl, one W 17 (by decide) (by decide) (by omega), Option.bind_some, c110 h hk false true (by rw [if_neg (by decide), List.length_append]; omega), Option.bind_some, if_neg (by decide), one _ 18 (by decide) (by decide) (by rw [List.length_append, List.length_append]; omega), Option.bind_some, List.append_assoc, List.append_assoc]
  · have hw : wnd nd = 9 := by unfold wnd; rw [g]; simp +decide only [reduceIte]
    have ho : opn nd (altN N k nd) = wbt 19 := by unfold opn; rw [g]; simp +decide only [reduceIte]
    rw [ho, g, if_neg (by decide), if_neg (by decide), if_neg (by decide), if_neg (by decide), if_pos rfl, one W 19 (by decide) (by decide) (by show W.length + 4 ≤ _; omega), Option.bind_some]
  · have hw : wnd nd = 17 := by unfold wnd; rw [g]; simp +decide only [reduceIte]
    have ho : opn nd (altN N k nd) = wbt 20 := by unfold opn; rw [g]; simp +decide only [reduceIte]
    rw [ho, g, if_neg (by decide), if_neg (by decide), if_neg (by decide), if_neg (by decide), if_neg (by decide), if_pos rfl, one W 20 (by decide) (by decide) (by show W.length + 8 ≤ _; omega), Option.bind_some]
  · have hw : wnd nd = 23 + csts nd.2.2.2.1 + (if nd.2.2.2.2.1 = [] then 0 else 9 + csts nd.2.2.2.2.1) := by unfold wnd; rw [g]; simp +decide only [reduceIte]
    have ho : opn nd (altN N k nd) = wbt 21 ++ (tgt nd ++ (ttl nd ++ wbt 23)) := by unfold opn; rw [g]; simp +decide only [reduceIte]
    have e21 : (wbt 21).length = 9 := rfl
    have e23 : (wbt 23).length = 2 := rfl
    have ht := tgt_len nd
    have hl := ttl_len nd
    rw [ho, g, if_neg (by decide), if_neg (by decide), if_neg (by decide), if_neg (by decide), if_neg (by decide), if_neg (by decide), if_pos rfl, one W 21 (by decide) (by decide) (by omega), Option.bind_some, c107 h hk (by rw [List.length_append]; omega), Option.bind_some,
      c108 h hk (by rw [List.length_append, List.length_append]; omega), Option.bind_some, one _ 23 (by decide) (by decide) (by rw [List.length_append, List.length_append, List.length_append]; omega), Option.bind_some, List.append_assoc, List.append_assoc, List.append_assoc]
  · have hw : wnd nd = 23 + csts nd.2.2.2.1 + (if nd.2.2.2.2.1 = [] then 0 else 9 + csts nd.2.2.2.2.1) := by unfold wnd; rw [g]; simp +decide only [reduceIte]
    have ho : opn nd (altN N k nd) = wbt 24 ++ (tgt nd ++ (wbt 25 ++ (altN N k nd ++ (ttl nd ++ wbt 26)))) := by unfold opn; rw [g]; simp +decide only [reduceIte]
    rw [if_pos g] at hW
    have e24 : (wbt 24).length = 10 := rfl
    have e25 : (wbt 25).length = 7 := rfl
    have e26 : (wbt 26).length = 3 := rfl
    have ht := tgt_len nd
    have hl := ttl_len nd
    have ha := plns_len true (slc N (k + 1) (bh N k nd.2.2.1))
    have hb := bh_le (d := nd.2.2.1) hkl
    have hn := h.2.1
    have e109 : ∀ V : List Int32, V.length + wN (slc N (k + 1) (bh N k nd.2.2.1)) ≤ 18000 → o_109 (cset C V) (nI k) true = some (cset C (V ++ altN N k nd)) := by
      intro V hV
      unfold o_109
      have e41 : f_41 (cset C V) (nI k) = nI (bh N k nd.2.2.1) := c41 (cn_set h V) hk hdb
      rw [e41, show oF = 999999 + 1 from rfl, g_109_12, if_neg (by rw [nI_leI (by omega) (by omega)]; omega), cset_zt C V (by decide), k1, g, if_neg (by decide), if_pos (by decide), if_neg (by decide), if_pos (by decide), nI_1,
        c109_loop h hb.2 (nI k) true (bh N k nd.2.2.1 - (k + 1)) (k + 1) 999999 V (by omega) (by omega) hV]
      rfl
    rw [ho, g, if_neg (by decide), if_neg (by decide), if_neg (by decide), if_neg (by decide), if_neg (by decide), if_neg (by decide), if_neg (by decide), if_pos rfl, one W 24 (by decide) (by decide) (by omega), Option.bind_some, c107 h hk (by rw [List.length_append]; omega), Option.bind_some,
      one _ 25 (by decide) (by decide) (by rw [List.length_append, List.length_append]; omega), Option.bind_some, e109 _ (by rw [List.length_append, List.length_append, List.length_append]; omega), Option.bind_some,
      c108 h hk (by rw [List.length_append, List.length_append, List.length_append, List.length_append]; unfold altN; omega), Option.bind_some, one _ 26 (by decide) (by decide) (by rw [List.length_append, List.length_append, List.length_append, List.length_append, List.length_append]; unfold altN; omega), Option.bind_some, List.append_assoc, List.append_assoc, List.append_assoc, List.append_assoc, List.append_assoc]
def clsS (N : List Nd) : List Nat → List Int32
  | [] => []
  | i :: st => (match N[i]? with | some nd => cls nd | none => []) ++ clsS N st
theorem clsS_app (N : List Nd) : ∀ l m : List Nat, clsS N (l ++ m) = clsS N l ++ clsS N m := by
  intro l
  induction l with
  | nil => intro m; rfl
  | cons i l ih => intro m; rw [List.cons_append, clsS, clsS, ih, List.append_assoc]
theorem hdI_ne {l : List Nat} {i : Nat} {st : List Nat} (hp : (i :: (l ++ st)).Pairwise (fun a b => b < a)) (hb : i < 1500) : ¬ nI i = hdI st := by
  cases st with
  | nil =>
    show ¬ nI i = -1
    intro hh
    have : ¬ nI i < 0 := nI_pos (by omega)
    rw [hh] at this; exact this (by decide)
  | cons j st =>
    have : j < i := (List.pairwise_cons.mp hp).1 j (by simp)
    show ¬ nI i = nI j
    rw [nI_eq (by omega) (by omega)]; omega
theorem c105_loop (h : CN C N) {st : List Nat} (ho : Int32) : ∀ l m d W, l.length < m → d + l.length ≤ 20 → (l ++ st).Pairwise (fun a b => b < a) → (∀ i ∈ l, i < 1500) → SK N (l ++ st) → W.length + (clsS N l).length ≤ 18000 →
    g_105_5 m (cset C W) (hdI st) ho (hdI (l ++ st)) (nI d) = some (hdI st, cset C (W ++ clsS N l)) := by
  intro l
  induction l with
  | nil =>
    intro m d W hm hd hp hb hs hW
    obtain ⟨m, rfl⟩ : ∃ z, m = z + 1 := ⟨m - 1, by omega⟩
    rw [g_105_5, List.nil_append]
    have e : W ++ clsS N [] = W := List.append_nil W
    rw [e]
    by_cases hc : (20 : Int32) ≤ nI d
    · rw [if_pos hc]
    · rw [if_neg hc, if_pos rfl]
  | cons i l ih =>
    intro m d W hm hd hp hb hs hW
    obtain ⟨m, rfl⟩ : ∃ z, m = z + 1 := ⟨m - 1, by omega⟩
    rw [List.cons_append] at hp hs ⊢
    rw [List.length_cons] at hm hd
    have hi := hb i (List.mem_cons_self ..)
    obtain ⟨⟨nd, hn1, hn2, hn3⟩, hs'⟩ := hs
    obtain ⟨k0, k1, k2, k3, k4, k5, k6, k7, k8⟩ := cn_tell h hn1
    have hc20 : ¬ (20 : Int32) ≤ nI d := by
      rw [show (20 : Int32) = nI 20 from rfl, nI_leI (by omega) (by omega)]; omega
    have hcl : clsS N (i :: l) = cls nd ++ clsS N l := by rw [clsS, hn1]
    rw [hcl, List.length_append] at hW
    rw [g_105_5, if_neg hc20]
    show (if nI i = hdI st then _ else _) = _
    rw [if_neg (hdI_ne hp hi)]
    have hz : ∀ V id, ¬ id = 134 → zt (cset C V) id (nI i) = zt C id (nI i) := fun V id hid => cset_zt C V hid _
    show (if ¬ zt (cset C W) 115 (nI i) = 4 then _ else _) = _
    rw [hz W 115 (by decide), k1, nI_1]
    have hgo : ∀ V, V = cls nd → g_105_5 m (cset C (W ++ V)) (hdI st) ho (hdI (l ++ st)) (nI (d + 1)) = some (hdI st, cset C (W ++ clsS N (i :: l))) := by
      intro V hV
      rw [ih m (d + 1) _ (by omega) (by omega) (List.pairwise_cons.mp hp).2 (fun j hj => hb j (List.mem_cons_of_mem _ hj)) hs' (by rw [List.length_append, hV]; omega), hcl, hV, List.append_assoc]
    have hnx : ∀ V, zt (cset C V) 117 (nI i) = hdI (l ++ st) := fun V => by rw [hz V 117 (by decide), k2, hn2]
    by_cases h4 : nd.1 = 4
    · have e : cls nd = wbt 12 := by unfold cls; rw [if_pos h4]
      rw [if_neg (fun hh => hh h4), c101 C (by decide) (by decide) (by rw [← e]; omega), Option.bind_some]
      show g_105_5 m (cset C (W ++ wbt 12)) (hdI st) ho (zt (cset C (W ++ wbt 12)) 117 (nI i)) (nI (d + 1)) = _
      rw [hnx]; exact hgo _ e.symm
    rw [if_pos h4]
    by_cases h5 : nd.1 = 5
    · have e : cls nd = wbt 13 := by unfold cls; rw [if_neg h4, if_pos h5]
      show (if ¬ zt (cset C W) 115 (nI i) = 5 then _ else _) = _
      rw [hz W 115 (by decide), k1, if_neg (fun hh => hh h5), c101 C (by decide) (by decide) (by rw [← e]; omega), Option.bind_some]
      show g_105_5 m (cset C (W ++ wbt 13)) (hdI st) ho (zt (cset C (W ++ wbt 13)) 117 (nI i)) (nI (d + 1)) = _
      rw [hnx]; exact hgo _ e.symm
    show (if ¬ zt (cset C W) 115 (nI i) = 5 then _ else _) = _
    rw [hz W 115 (by decide), k1, if_pos h5]
    by_cases h6 : nd.1 = 6
    · have e : cls nd = wbt 14 := by unfold cls; rw [if_neg h4, if_neg h5, if_pos h6]
      show (if ¬ zt (cset C W) 115 (nI i) = 6 then _ else _) = _
      rw [hz W 115 (by decide), k1, if_neg (fun hh => hh h6), c101 C (by decide) (by decide) (by rw [← e]; omega), Option.bind_some]
      show g_105_5 m (cset C (W ++ wbt 14)) (hdI st) ho (zt (cset C (W ++ wbt 14)) 117 (nI i)) (nI (d + 1)) = _
      rw [hnx]; exact hgo _ e.symm
    have e : cls nd = [] := by unfold cls; rw [if_neg h4, if_neg h5, if_neg h6]
    show (if ¬ zt (cset C W) 115 (nI i) = 6 then _ else _) = _
    rw [hz W 115 (by decide), k1, if_pos h6]
    show g_105_5 m (cset C W) (hdI st) ho (zt (cset C W) 117 (nI i)) (nI (d + 1)) = _
    rw [hnx]
    have := hgo [] e.symm
    rw [List.append_nil] at this; exact this
end
