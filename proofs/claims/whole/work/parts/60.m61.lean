/-! the mathematics; written by wip/whole/m2parts.py -/
section
variable {R : zr_Z} {N : List Nd} {pl k : Nat} {nd : Nd} {W : List Int32}
theorem rn_tell (h : RN R N pl) (hk : N[k]? = some nd) (hn : N.length ≤ 1500) : k < 1500 ∧ (∀ j, 164 ≤ j → j ≤ 171 → inq j (nI k)) ∧ zv R 164 (nI k) = nd.1 ∧ zv R 165 (nI k) = nd.2.1 ∧ zv R 171 (nI k) = nI nd.2.2.1 ∧ zv R 170 (nI k) = nd.2.2.2.2.2 ∧ zv R 167 (nI k) = nI nd.2.2.2.1.length ∧ zv R 169 (nI k) = nI nd.2.2.2.2.1.length := by
  have hl := (List.getElem?_eq_some_iff.mp hk).1
  obtain ⟨a, b, c, d, e, f, g⟩ := h.2.2 k nd hk
  have hz : ∀ j, zv R j (nI k) = rv R j k := fun j => zv_nI R j (by omega)
  refine ⟨by omega, fun j j1 j2 => ?_, (hz _).trans a, (hz _).trans b, (hz _).trans c, (hz _).trans d, (hz _).trans e, (hz _).trans f⟩
  have : j = 164 ∨ j = 165 ∨ j = 166 ∨ j = 167 ∨ j = 168 ∨ j = 169 ∨ j = 170 ∨ j = 171 := by omega
  have ha : zr_alen j = 4000 := by rcases this with g | g | g | g | g | g | g | g <;> rw [g] <;> rfl
  exact inq_nI (by omega) (by omega)
theorem rn_text (h : RN R N pl) (hk : N[k]? = some nd) (hn : N.length ≤ 1500) (hp : pl ≤ 19000) (ti : Bool) : ∃ f, (if ti = true then zv R 168 (nI k) else zv R 166 (nI k)) = nI f ∧ f + (if ti = true then nd.2.2.2.2.1 else nd.2.2.2.1).length ≤ 19000 ∧ ∀ i, i < (if ti = true then nd.2.2.2.2.1 else nd.2.2.2.1).length → zv R 142 (nI f + nI i) = (if ti = true then nd.2.2.2.2.1 else nd.2.2.2.1).getD i 0 := by
  have hl := (List.getElem?_eq_some_iff.mp hk).1
  obtain ⟨a, b, c, d, e, f, ⟨f1, g1, g2, g3⟩, f2, g4, g5, g6⟩ := h.2.2 k nd hk
  have hz : ∀ j, zv R j (nI k) = rv R j k := fun j => zv_nI R j (by omega)
  have hsl : ∀ (n a i : Nat), i < n → (rsl R a n).getD i 0 = rv R 142 (a + i) := by
    intro n
    induction n with
    | zero => intro a i hi; exact absurd hi (by omega)
    | succ n ih =>
      intro a i hi
      rw [rsl]
      cases i with
      | zero => rfl
      | succ i => rw [List.getD_cons_succ, ih (a + 1) i (by omega)]; congr 1; omega
  cases ti with
  | false =>
    rw [if_neg (by decide), if_neg (by decide)]
    refine ⟨f1, (hz _).trans g1, by omega, fun i hi => ?_⟩
    rw [nI_add, zv_nI R _ (by omega), ← hsl nd.2.2.2.1.length f1 i hi, g3]
  | true =>
    rw [if_pos rfl, if_pos rfl]
    refine ⟨f2, (hz _).trans g4, by omega, fun i hi => ?_⟩
    rw [nI_add, zv_nI R _ (by omega), ← hsl nd.2.2.2.2.1.length f2 i hi, g6]
theorem r167_loop (R : zr_Z) (f : Nat) (w : List Int32) (hf : f + w.length ≤ 19000) (hw : ∀ i, i < w.length → zv R 142 (nI f + nI i) = w.getD i 0) : ∀ d i m W, i + d = w.length → d < m → W.length + csts (w.drop i) ≤ 20000 →
    g_167_2 m (rset R W) (nI f) (nI w.length) (nI i) = some (rset R (W ++ escs true (w.drop i))) := by
  intro d
  induction d with
  | zero =>
    intro i m W hi hm hW
    obtain ⟨m, rfl⟩ : ∃ z, m = z + 1 := ⟨m - 1, by omega⟩
    rw [g_167_2, if_pos ((nI_leI (by omega) (by omega)).mpr (by omega)), List.drop_eq_nil_of_le (by omega)]
    show _ = some (rset R (W ++ [])); rw [List.append_nil]
  | succ d ih =>
    intro i m W hi hm hW
    obtain ⟨m, rfl⟩ : ∃ z, m = z + 1 := ⟨m - 1, by omega⟩
    have hil : i < w.length := by omega
    have hg : zv R 142 (nI f + nI i) = w[i] := by rw [hw i hil, List.getD_eq_getElem?_getD, List.getElem?_eq_getElem hil]; rfl
    have hd : w.drop i = w[i] :: w.drop (i + 1) := List.drop_eq_getElem_cons hil
    generalize w[i] = c at hg hd
    have hcs : csts (w.drop i) = cst c + csts (w.drop (i + 1)) := by rw [hd]; unfold csts; rw [List.map_cons, List.sum_cons]
    have hel := esc_len true c
    rw [g_167_2, if_neg (by rw [nI_leI (by omega) (by omega)]; omega), if_pos (by rw [nI_add]; exact inq_nI (j := 142) (i := f + i) (by show f + i < 20000; omega) (by omega)), rset_zv R W (by decide), hg, r166 R c true (by omega), Option.bind_some, nI_1,
      ih (i + 1) m _ (by omega) (by omega) (by rw [List.length_append]; omega), hd, escs_cons, List.append_assoc]
theorem r167 (h : RN R N pl) (hk : N[k]? = some nd) (hn : N.length ≤ 1500) (hp : pl ≤ 19000) (ti : Bool) (hW : W.length + csts (if ti = true then nd.2.2.2.2.1 else nd.2.2.2.1) ≤ 20000) :
    o_167 (rset R W) (if ti = true then zv R 168 (nI k) else zv R 166 (nI k)) (nI (if ti = true then nd.2.2.2.2.1 else nd.2.2.2.1).length) = some (rset R (W ++ escs true (if ti = true then nd.2.2.2.2.1 else nd.2.2.2.1))) := by
  obtain ⟨f, h1, h2, h3⟩ := rn_text h hk hn hp ti
  unfold o_167
  rw [h1]
  have := r167_loop R f _ h2 h3 _ 0 oF W (Nat.zero_add _) (by unfold oF; omega) (by rw [List.drop_zero]; exact hW)
  rw [nI_0, List.drop_zero] at this; exact this
theorem r168_loop (h : RN R N pl) (hn : N.length ≤ 1500) {d : Nat} (hk : N[k]? = some nd) (hd : nd.2.2.1 = d) (hdb : ∀ (i : Nat) (x : Nd), N[i]? = some x → x.2.2.1 ≤ 20) : ∀ n q m, q + n = N.length → n < m → g_168_4 m R (nI k) (nI q) = some (nI (q + bhl d (N.drop q))) := by
  intro n
  induction n with
  | zero =>
    intro q m hq hm
    obtain ⟨m, rfl⟩ : ∃ z, m = z + 1 := ⟨m - 1, by omega⟩
    rw [g_168_4, h.1, if_pos ((nI_leI (by omega) (by omega)).mpr (by omega)), List.drop_eq_nil_of_le (by omega)]; rfl
  | succ n ih =>
    intro q m hq hm
    obtain ⟨m, rfl⟩ : ∃ z, m = z + 1 := ⟨m - 1, by omega⟩
    have hql : q < N.length := by omega
    have hx : N[q]? = some N[q] := List.getElem?_eq_getElem hql
    have hdr : N.drop q = N[q] :: N.drop (q + 1) := List.drop_eq_getElem_cons hql
    generalize N[q] = x at hx hdr
    have b1 := hdb q x hx
    have b2 := hdb k nd hk
    have t1 := rn_tell h hx hn
    have t2 := rn_tell h hk hn
    rw [g_168_4, h.1, if_neg (by rw [nI_leI (by omega) (by omega)]; omega), if_pos (t1.2.1 171 (by omega) (by omega)), if_pos (t2.2.1 171 (by omega) (by omega)), t1.2.2.2.2.1, t2.2.2.2.2.1, hdr, bhl, hd]
    by_cases hc : x.2.2.1 ≤ d
    · rw [if_pos ((nI_leI (by omega) (by omega)).mpr hc), if_pos hc]; rfl
    · rw [if_neg (by rw [nI_leI (by omega) (by omega)]; exact hc), if_neg hc, nI_1, ih (q + 1) m (by omega) (by omega)]; congr 2; omega
theorem rn_set (h : RN R N pl) (W : List Int32) : RN (rset R W) N pl := by
  obtain ⟨a, b, c⟩ := h
  refine ⟨(rset_zf R W (by decide)).trans a, (rset_zf R W (by decide)).trans b, fun k nd hk => ?_⟩
  exact RND_keep (c k nd hk) (fun j j1 j2 => rset_rv R W (by omega) k) (fun i _ => rset_rv R W (by decide) i) (Nat.le_refl _)
theorem r168 (h : RN R N pl) (hn : N.length ≤ 1500) (hk : N[k]? = some nd) (hdb : ∀ (i : Nat) (x : Nd), N[i]? = some x → x.2.2.1 ≤ 20) : o_168 R (nI k) = some (nI (bh N k nd.2.2.1)) := by
  have hl := (List.getElem?_eq_some_iff.mp hk).1
  unfold o_168
  rw [nI_1]
  exact r168_loop h hn hk rfl hdb (N.length - (k + 1)) (k + 1) oF (by omega) (by unfold oF; omega)
theorem r169_in (h : RN R N pl) (hk : N[k]? = some nd) (hn : N.length ≤ 1500) (hp : pl ≤ 19000) (a b : Int32) (sa : Bool) (K : zr_Z → Int32 → Option zr_Z) : ∀ d i m W, i + d = nd.2.2.2.1.length → d < m → (nd.1 = 0 ∨ nd.1 = 3 → W.length + csts (nd.2.2.2.1.drop i) ≤ 20000) →
    g_169_40 m (rset R W) a b sa (nI k) (nI i) K = K (rset R (W ++ (if nd.1 = 0 ∨ nd.1 = 3 then escs sa (nd.2.2.2.1.drop i) else []))) (nI (k + 1)) := by
  intro d
  obtain ⟨f, f1, f2, f3⟩ := rn_text h hk hn hp false
  rw [if_neg (by decide)] at f1 f2 f3
  obtain ⟨t1, t2, t3, t4, t5, t6, t7, t8⟩ := rn_tell h hk hn
  induction d with
  | zero =>
    intro i m W hi hm hW
    obtain ⟨m, rfl⟩ : ∃ z, m = z + 1 := ⟨m - 1, by omega⟩
    rw [g_169_40, if_pos (t2 167 (by omega) (by omega)), rset_zv R W (by decide), t7, if_pos ((nI_leI (by omega) (by omega)).mpr (by omega)), List.drop_eq_nil_of_le (by omega), nI_1]
    have : (if nd.1 = 0 ∨ nd.1 = 3 then escs sa [] else []) = [] := by
      by_cases hc : nd.1 = 0 ∨ nd.1 = 3
      · rw [if_pos hc]; rfl
      · rw [if_neg hc]
    rw [this, List.append_nil]
  | succ d ih =>
    intro i m W hi hm hW
    obtain ⟨m, rfl⟩ : ∃ z, m = z + 1 := ⟨m - 1, by omega⟩
    have hil : i < nd.2.2.2.1.length := by omega
    have hg : zv R 142 (nI f + nI i) = nd.2.2.2.1[i] := by rw [f3 i hil, List.getD_eq_getElem?_getD, List.getElem?_eq_getElem hil]; rfl
    have hd : nd.2.2.2.1.drop i = nd.2.2.2.1[i] :: nd.2.2.2.1.drop (i + 1) := List.drop_eq_getElem_cons hil
    generalize nd.2.2.2.1[i] = c at hg hd
    have hcs : csts (nd.2.2.2.1.drop i) = cst c + csts (nd.2.2.2.1.drop (i + 1)) := by rw [hd]; unfold csts; rw [List.map_cons, List.sum_cons]
    have hel := esc_len sa c
    have hgo : (nd.1 = 0 ∨ nd.1 = 3) → (if inq 166 (nI k) then (if inq 142 ((zv (rset R W) 166 (nI k)) + nI i) then (Option.bind (o_166 (rset R W) (zv (rset R W) 142 ((zv (rset R W) 166 (nI k)) + nI i)) sa) fun u7 => g_169_40 m u7 a b sa (nI k) (nI i + 1) K) else none) else none) = K (rset R (W ++ (if nd.1 = 0 ∨ nd.1 = 3 then escs sa (nd.2.2.2.1.drop i) else []))) (nI (k + 1)) := by
      intro hc
      have hW := hW hc
      rw [if_pos (t2 166 (by omega) (by omega)), rset_zv R W (by decide), f1, if_pos (by rw [nI_add]; exact inq_nI (j := 142) (i := f + i) (by show f + i < 20000; omega) (by omega)), rset_zv R W (by decide), hg, r166 R c sa (by omega), Option.bind_some, nI_1,
        ih (i + 1) m _ (by omega) (by omega) (fun _ => by rw [List.length_append]; omega), if_pos hc, if_pos hc, hd, escs_cons, List.append_assoc]
    rw [g_169_40, if_pos (t2 167 (by omega) (by omega)), rset_zv R W (by decide), t7, if_neg (by rw [nI_leI (by omega) (by omega)]; omega), if_pos (t2 164 (by omega) (by omega))]
    by_cases h0 : nd.1 = 0
    · rw [show zv (rset R W) 164 (nI k) = nd.1 from (rset_zv R W (by decide) _).trans t3, if_pos h0]; exact hgo (Or.inl h0)
    rw [show zv (rset R W) 164 (nI k) = nd.1 from (rset_zv R W (by decide) _).trans t3, if_neg h0, if_pos (t2 164 (by omega) (by omega))]
    by_cases h3 : nd.1 = 3
    · rw [if_neg (fun hh => hh h3)]; exact hgo (Or.inr h3)
    · rw [if_pos h3, if_neg (by rintro (g | g); exact h0 g; exact h3 g), List.append_nil, nI_1]
theorem r169_loop (h : RN R N pl) (hn : N.length ≤ 1500) (hp : pl ≤ 19000) {e : Nat} (he : e ≤ N.length) (a : Int32) (sa : Bool) : ∀ n i m W, i + n = e → n < m → W.length + wN (slc N i e) ≤ 18000 →
    g_169_3 m (rset R W) a (nI e) sa (nI i) = some (rset R (W ++ plns sa (slc N i e))) := by
  intro n
  induction n with
  | zero =>
    intro i m W hi hm hW
    obtain ⟨m, rfl⟩ : ∃ z, m = z + 1 := ⟨m - 1, by omega⟩
    rw [g_169_3, if_pos ((nI_leI (by omega) (by omega)).mpr (by omega)), slc_nil N (by omega)]
    show _ = some (rset R (W ++ [])); rw [List.append_nil]
  | succ n ih =>
    intro i m W hi hm hW
    obtain ⟨m, rfl⟩ : ∃ z, m = z + 1 := ⟨m - 1, by omega⟩
    have hql : i < N.length := by omega
    have hx : N[i]? = some N[i] := List.getElem?_eq_getElem hql
    generalize N[i] = x at hx
    have hs := slc_cons hx (show i < e by omega)
    rw [hs, wN_cons] at hW
    have hpl := pln_len sa x
    obtain ⟨t1, t2, t3, t4, t5, t6, t7, t8⟩ := rn_tell h hx hn
    have htl : x.2.2.2.1.length ≤ 19000 := by
      obtain ⟨f, f1, f2, f3⟩ := rn_text h hx hn hp false
      rw [if_neg (by decide)] at f2; omega
    have hz : ∀ V, zv (rset R V) 164 (nI i) = x.1 := fun V => (rset_zv R V (by decide) _).trans t3
    have hgo : ∀ V, V ++ (if x.1 = 0 ∨ x.1 = 3 then escs sa x.2.2.2.1 else []) = pln sa x → V.length ≤ 1 → (x.1 = 0 ∨ x.1 = 3 → V = []) → g_169_40 oF (rset R (W ++ V)) a (nI e) sa (nI i) 0 (fun Z x4 => g_169_3 m Z a (nI e) sa x4) = some (rset R (W ++ plns sa (slc N i e))) := by
      intro V hV hV1 hV2
      have := r169_in h hx hn hp a (nI e) sa (fun Z x4 => g_169_3 m Z a (nI e) sa x4) x.2.2.2.1.length 0 oF (W ++ V) (by omega) (by unfold oF; omega) (fun hc => by
        rw [hV2 hc, List.append_nil, List.drop_zero]
        have : csts x.2.2.2.1 ≤ wnd x := by
          unfold wnd
          rcases hc with g | g
          · rw [if_pos g]; exact Nat.le_refl _
          · rw [g]; simp +decide only [reduceIte]; omega
        omega)
      rw [nI_0] at this
      rw [this, List.drop_zero, List.append_assoc, hV, ih (i + 1) m _ (by omega) (by omega) (by rw [List.length_append]; omega), hs, plns_cons, List.append_assoc]
    rw [g_169_3, if_neg (by rw [nI_leI (by omega) (by omega)]; omega), if_pos (t2 164 (by omega) (by omega)), hz]
    by_cases h1 : x.1 = 1
    · have : pln sa x = [32] := by unfold pln; rw [h1]; simp
      have hw : 1 ≤ wnd x := by unfold wnd; rw [h1]; simp
      rw [if_pos h1, r164 R _ (by omega), Option.bind_some]
      exact hgo [32] (by rw [this, h1]; simp) (by simp) (by rw [h1]; simp)
    rw [if_neg h1, if_pos (t2 164 (by omega) (by omega))]
    by_cases h2 : x.1 = 2
    · have : pln sa x = [32] := by unfold pln; rw [h2]; simp
      have hw : 1 ≤ wnd x := by unfold wnd; rw [h2]; simp
      rw [if_neg (fun hh => hh h2), r164 R _ (by omega), Option.bind_some]
      exact hgo [32] (by rw [this, h2]; simp) (by simp) (by rw [h2]; simp)
    rw [if_pos h2]
    have := hgo [] (by
      unfold pln
      by_cases hc : x.1 = 0 ∨ x.1 = 3
      · rw [if_pos hc, if_pos hc]; rfl
      · rw [if_neg hc, if_neg hc, if_neg (by rintro (g | g); exact h1 g; exact h2 g)]; rfl) (by simp) (fun _ => rfl)
    rw [List.append_nil] at this; exact this
theorem r172 (R : zr_Z) {W : List Int32} (v : Int32) (hW : W.length + 2 ≤ 30000) : o_172 (rset R W) v = some (rset R (W ++ dgt v)) := by
  unfold o_172 dgt
  by_cases h : v ≤ 9
  · rw [if_pos h, if_pos h, r164 R _ (by omega), Option.bind_some]
  · rw [if_neg h, if_neg h, r164 R _ (by omega), Option.bind_some, r164 R _ (by rw [List.length_append, List.length_singleton]; omega), Option.bind_some, List.append_assoc]; rfl
theorem r173 (h : RN R N pl) (hk : N[k]? = some nd) (hn : N.length ≤ 1500) (hp : pl ≤ 19000) (hW : W.length + 4 + csts nd.2.2.2.1 ≤ 20000) : o_173 (rset R W) (nI k) = some (rset R (W ++ (tgt nd ++ [34]))) := by
  obtain ⟨t1, t2, t3, t4, t5, t6, t7, t8⟩ := rn_tell h hk hn
  have hel := escs_len true nd.2.2.2.1
  unfold o_173 tgt
  rw [if_pos (t2 170 (by omega) (by omega)), rset_zv R W (by decide), t6]
  by_cases hm : nd.2.2.2.2.2 = -1
  · have := r167 (W := W) h hk hn hp false (by rw [if_neg (by decide)]; omega)
    rw [if_neg (by decide), if_neg (by decide)] at this
    rw [if_pos hm, if_pos hm, if_pos (t2 166 (by omega) (by omega)), if_pos (t2 167 (by omega) (by omega)), rset_zv R W (by decide), rset_zv R W (by decide), t7, this, Option.bind_some, r164 R _ (by rw [List.length_append]; omega), Option.bind_some, List.append_assoc]
  · have e1 : (dgt nd.2.2.2.2.2).length ≤ 2 := by
      unfold dgt
      by_cases h9 : nd.2.2.2.2.2 ≤ 9
      · rw [if_pos h9]; simp
      · rw [if_neg h9]; simp
    rw [if_neg hm, if_neg hm, r164 R _ (by omega), Option.bind_some, if_pos (t2 170 (by omega) (by omega)), rset_zv R _ (by decide), t6, r172 R _ (by rw [List.length_append, List.length_singleton]; omega), Option.bind_some, r164 R _ (by rw [List.length_append, List.length_append, List.length_singleton]; omega), Option.bind_some, List.append_assoc, List.append_assoc]; rfl
def ttr (nd : Nd) : List Int32 := if nd.2.2.2.2.1 = [] then [] else (wbt 22).tail ++ (escs true nd.2.2.2.2.1 ++ [34])
theorem ttr_eq (nd : Nd) : [34] ++ ttr nd = ttl nd ++ [34] := by
  unfold ttr ttl
  by_cases h : nd.2.2.2.2.1 = []
  · rw [if_pos h, if_pos h]; rfl
  · rw [if_neg h, if_neg h, ← List.append_assoc, ← List.append_assoc]; rfl
theorem ttr_len (nd : Nd) : (ttr nd).length = (ttl nd).length := by
  have := congrArg List.length (ttr_eq nd)
  rw [List.length_append, List.length_append, List.length_singleton] at this; omega
theorem r174 (h : RN R N pl) (hk : N[k]? = some nd) (hn : N.length ≤ 1500) (hp : pl ≤ 19000) (hW : W.length + (if nd.2.2.2.2.1 = [] then 0 else 9 + csts nd.2.2.2.2.1) ≤ 20000) : o_174 (rset R W) (nI k) = some (rset R (W ++ ttr nd)) := by
  obtain ⟨t1, t2, t3, t4, t5, t6, t7, t8⟩ := rn_tell h hk hn
  have hel := escs_len true nd.2.2.2.2.1
  have htl : nd.2.2.2.2.1.length ≤ 19000 := by
    obtain ⟨f, f1, f2, f3⟩ := rn_text h hk hn hp true
    rw [if_pos rfl] at f2; omega
  unfold o_174 ttr
  rw [if_pos (t2 169 (by omega) (by omega)), rset_zv R W (by decide), t8]
  by_cases hm : nd.2.2.2.2.1 = []
  · rw [hm, if_pos (show nI ([] : List Int32).length ≤ 0 by decide), if_pos rfl, List.append_nil]
  · rw [if_neg hm] at hW
    have hlen : ¬ nd.2.2.2.2.1.length = 0 := fun hh => hm (List.eq_nil_of_length_eq_zero hh)
    have e1 : (dec8 8 17281490063291424).length = 7 := by decide
    have e2 : dec8 8 17281490063291424 ++ [34] = (wbt 22).tail := by decide
    have := r167 (W := W ++ dec8 8 17281490063291424 ++ [34]) h hk hn hp true (by rw [if_pos rfl, List.length_append, List.length_append, e1, List.length_singleton]; omega)
    rw [if_pos rfl, if_pos rfl] at this
    rw [if_neg (by rw [← nI_0, nI_leI (by omega) (by omega)]; omega), if_neg hm, r171 R _ (by decide) (by omega), Option.bind_some, r164 R _ (by rw [List.length_append, e1]; omega), Option.bind_some, if_pos (t2 168 (by omega) (by omega)), if_pos (t2 169 (by omega) (by omega)), rset_zv R _ (by decide), rset_zv R _ (by decide), t8,
      this, Option.bind_some, r164 R _ (by rw [List.length_append, List.length_append, List.length_append, e1, List.length_singleton]; omega), Option.bind_some, ← e2]
    simp only [List.append_assoc]
end
