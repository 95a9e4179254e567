/-! the mathematics; written by wip/whole/m2parts.py -/
theorem hdI_m1 {i : Nat} {st : List Nat} (hi : i < 1500) : ¬ hdI (i :: st) = -1 := by
  show ¬ nI i = -1
  intro hh
  have : ¬ nI i < 0 := nI_pos (by omega)
  rw [hh] at this; exact this (by decide)
theorem cls_len (nd : Nd) : (cls nd).length ≤ 9 := by
  unfold cls
  by_cases h4 : nd.1 = 4
  · rw [if_pos h4]; decide
  rw [if_neg h4]
  by_cases h5 : nd.1 = 5
  · rw [if_pos h5]; decide
  rw [if_neg h5]
  by_cases h6 : nd.1 = 6
  · rw [if_pos h6]; decide
  · rw [if_neg h6]; decide
section
variable {R : zr_Z} {N : List Nd} {pl k : Nat} {nd : Nd}
theorem r_close (h : RN R N pl) (hn : N.length ≤ 1500) {st : List Nat} (hk : N[k]? = some nd) (hh : nd.2.1 = hdI st) (K : zr_Z → Int32 → Int32 → Option (Int32 × zr_Z)) : ∀ l m W, l.length < m → (l ++ st).Pairwise (fun a b => b < a) → (∀ i ∈ l, i < 1500) → SK N (l ++ st) → W.length + (clsS N l).length ≤ 18000 →
    g_178_43 m (rset R W) (hdI (l ++ st)) (nI k) K = opB K (rset R (W ++ clsS N l)) (hdI st) (nI k) := by
  have tk := rn_tell h hk hn
  intro l
  induction l with
  | nil =>
    intro m W hm hp hb hs hW
    obtain ⟨m, rfl⟩ : ∃ z, m = z + 1 := ⟨m - 1, by omega⟩
    have e : W ++ clsS N [] = W := List.append_nil W
    rw [g43_eq, List.nil_append, if_pos (tk.2.1 165 (by omega) (by omega)), rset_zv R W (by decide), tk.2.2.2.1, if_pos hh.symm, e]
  | cons i l ih =>
    intro m W hm hp hb hs hW
    obtain ⟨m, rfl⟩ : ∃ z, m = z + 1 := ⟨m - 1, by omega⟩
    rw [List.cons_append] at hp hs ⊢
    rw [List.length_cons] at hm
    have hi := hb i (List.mem_cons_self ..)
    obtain ⟨⟨x, hn1, hn2, hn3⟩, hs'⟩ := hs
    have ti := rn_tell h hn1 hn
    have hcl : clsS N (i :: l) = cls x ++ clsS N l := by rw [clsS, hn1]
    rw [hcl, List.length_append] at hW
    have e0 : hdI (i :: (l ++ st)) = nI i := rfl
    rw [e0, g43_eq, if_pos (tk.2.1 165 (by omega) (by omega)), rset_zv R W (by decide), tk.2.2.2.1, hh, if_neg (hdI_ne hp hi), r177 h hn1 hn (by omega), Option.bind_some, if_pos (ti.2.1 165 (by omega) (by omega)), rset_zv R _ (by decide), ti.2.2.2.1, hn2,
      ih m _ (by omega) (List.pairwise_cons.mp hp).2 (fun j hj => hb j (List.mem_cons_of_mem _ hj)) hs' (by rw [List.length_append]; omega), hcl, List.append_assoc]
theorem r_end (h : RN R N pl) (hn : N.length ≤ 1500) : ∀ l m W, l.length < m → (∀ i ∈ l, i < 1500) → SK N l → W.length + (clsS N l).length ≤ 18000 →
    g_178_126 m (rset R W) (hdI l) = some (nI (W ++ clsS N l).length, rset R (W ++ clsS N l)) := by
  intro l
  induction l with
  | nil =>
    intro m W hm hb hs hW
    obtain ⟨m, rfl⟩ : ∃ z, m = z + 1 := ⟨m - 1, by omega⟩
    have e : W ++ clsS N [] = W := List.append_nil W
    rw [g_178_126, if_pos (show hdI [] = -1 from rfl), rset_n, e]
  | cons i l ih =>
    intro m W hm hb hs hW
    obtain ⟨m, rfl⟩ : ∃ z, m = z + 1 := ⟨m - 1, by omega⟩
    rw [List.length_cons] at hm
    have hi := hb i (List.mem_cons_self ..)
    obtain ⟨⟨x, hn1, hn2, hn3⟩, hs'⟩ := hs
    have ti := rn_tell h hn1 hn
    have hcl : clsS N (i :: l) = cls x ++ clsS N l := by rw [clsS, hn1]
    rw [hcl, List.length_append] at hW
    have e0 : hdI (i :: l) = nI i := rfl
    rw [g_178_126, if_neg (hdI_m1 hi), e0, r177 h hn1 hn (by omega), Option.bind_some, if_pos (ti.2.1 165 (by omega) (by omega)), rset_zv R _ (by decide), ti.2.2.2.1, hn2,
      ih m _ (by omega) (fun j hj => hb j (List.mem_cons_of_mem _ hj)) hs' (by rw [List.length_append]; omega), hcl, List.append_assoc]
def nstk (nd : Nd) (k : Nat) (st : List Nat) : List Nat := if nd.1 = 4 ∨ nd.1 = 5 ∨ nd.1 = 6 then k :: st else st
def nxt (N : List Nd) (nd : Nd) (k : Nat) : Nat := if nd.1 = 7 then bh N k nd.2.2.1 else k + 1
theorem r_open (h : RN R N pl) (hk : N[k]? = some nd) (hn : N.length ≤ 1500) (hp : pl ≤ 19000) (hdb : ∀ (i : Nat) (x : Nd), N[i]? = some x → x.2.2.1 ≤ 20) (h7 : 0 ≤ nd.1 ∧ nd.1 ≤ 7) {W : List Int32} {st : List Nat} (hW : W.length + wnd nd + (if nd.1 = 7 then wN (slc N (k + 1) (bh N k nd.2.2.1)) else 0) ≤ 18000) (K : zr_Z → Int32 → Int32 → Option (Int32 × zr_Z)) :
    opB K (rset R W) (hdI st) (nI k) = K (rset R (W ++ opn nd (altN N k nd))) (hdI (nstk nd k st)) (nI (nxt N nd k)) := by
  obtain ⟨t1, t2, t3, t4, t5, t6, t7, t8⟩ := rn_tell h hk hn
  unfold opB olet
  rw [r175 h hk hn hp hdb h7 hW, Option.bind_some]
  have hz : zv (rset R (W ++ opn nd (altN N k nd))) 164 (nI k) = nd.1 := (rset_zv R _ (by decide) _).trans t3
  have hq := t2 164 (by omega) (by omega)
  dsimp only
  rw [hz, if_pos hq, if_pos hq, if_pos (by
    by_cases hc : nd.1 ≤ 3
    · rw [if_pos hc]; trivial
    · rw [if_neg hc]; refine ⟨hq, ?_⟩; by_cases h : nd.1 = 7
      · rw [if_pos h]; trivial
      · rw [if_neg h]; trivial)]
  unfold nstk nxt
  have e168 : o_168 (rset R (W ++ opn nd (altN N k nd))) (nI k) = some (nI (bh N k nd.2.2.1)) := r168 (rn_set h _) hn hk hdb
  rcases kinds8 h7 with g | g | g | g | g | g | g | g
  · rw [g]; simp +decide only [reduceIte, nI_1]
  · rw [g]; simp +decide only [reduceIte, nI_1]
  · rw [g]; simp +decide only [reduceIte, nI_1]
  · rw [g]; simp +decide only [reduceIte, nI_1]
  · rw [g]; simp +decide only [reduceIte, nI_1, true_or, or_true]; rfl
  · rw [g]; simp +decide only [reduceIte, nI_1, true_or, or_true]; rfl
  · rw [g]; simp +decide only [reduceIte, nI_1, true_or, or_true]; rfl
  · rw [e168, g]; simp +decide only [reduceIte, nI_1, Option.bind_some]
theorem clsS_sub (N : List Nd) (l m : List Nat) : (clsS N (l ++ m)).length = (clsS N l).length + (clsS N m).length := by rw [clsS_app, List.length_append]
theorem wN_drop {N : List Nd} {k : Nat} {nd : Nd} (hk : N[k]? = some nd) : wN (N.drop k) = wnd nd + wN (N.drop (k + 1)) := by
  obtain ⟨hl, rfl⟩ := List.getElem?_eq_some_iff.mp hk
  rw [List.drop_eq_getElem_cons hl, wN_cons]
theorem wN_slc (N : List Nd) {i e : Nat} (h : i ≤ e) : wN (N.drop i) = wN (slc N i e) + wN (N.drop e) := by
  rw [← wN_app]; unfold slc
  conv => lhs; rw [← List.take_append_drop (e - i) (N.drop i)]
  rw [List.drop_drop, show i + (e - i) = e by omega]
variable {C : zr_Z} {A : Nat → List Nat}
theorem write_loop (hC : CN C N) (h5 : ¬ zc C 5 = 0) (h : RN R N pl) (hpre : PRE N A) (hp : pl ≤ 19000) : ∀ d k st m m' W, N.length ≤ k + d → k ≤ N.length → d < m → d < m' → st.Pairwise (fun a b => b < a) → (∀ i ∈ st, i < k) → SK N st → st.length ≤ 20 → (k < N.length → A k <:+ st) → W.length + wN (N.drop k) + (clsS N st).length ≤ 18000 →
    ∃ V, g_104_12 m (cset C W) (hdI st) (nI k) = some (cset C V) ∧ g_178_35 m' (rset R W) (hdI st) (nI k) = some (nI V.length, rset R V) ∧ V.length ≤ 18000 := by
  have hn := hC.2.1
  have h44 : ∀ V, f_44 (cset C V) = nI N.length := fun V => by
    unfold f_44; rw [cset_zc, if_neg h5, cset_zs C V (by decide), cn_zs hC]
  have hdb : ∀ (i : Nat) (x : Nd), N[i]? = some x → x.2.2.1 ≤ 20 := fun i x hx => by
    have := hpre.2 i x hx; omega
  intro d
  induction d with
  | zero =>
    intro k st m m' W hd hk hm hm' hp1 hp2 hs h20 hA hW
    obtain ⟨m, rfl⟩ : ∃ z, m = z + 1 := ⟨m - 1, by omega⟩
    obtain ⟨m', rfl⟩ : ∃ z, m' = z + 1 := ⟨m' - 1, by omega⟩
    have e0 : N.length ≤ k := by omega
    have c1 := c105_loop hC (st := []) (hdI st) st oF 0 W (by unfold oF; omega) (by omega) (by rw [List.append_nil]; exact hp1) (fun i hi => by have := hp2 i hi; omega) (by rw [List.append_nil]; exact hs) (by omega)
    rw [nI_0, List.append_nil] at c1
    refine ⟨W ++ clsS N st, ?_, ?_, by rw [List.length_append]; omega⟩
    · rw [g_104_12, h44, if_pos ((nI_leI (by omega) (by omega)).mpr e0)]
      unfold o_105
      rw [show (-1 : Int32) = hdI [] from rfl, c1, Option.bind_some]
    · rw [g35_eq, rset_zf R W (by decide), h.1, if_pos ((nI_leI (by omega) (by omega)).mpr e0)]
      cases st with
      | nil =>
        have e : W ++ clsS N [] = W := List.append_nil W
        rw [if_pos (show hdI [] = -1 from rfl), rset_n, e]
      | cons i st =>
        have hi : i < 1500 := by have := hp2 i (List.mem_cons_self ..); omega
        obtain ⟨⟨x, hn1, hn2, hn3⟩, hs'⟩ := hs
        have ti := rn_tell h hn1 hn
        have hcl : clsS N (i :: st) = cls x ++ clsS N st := by rw [clsS, hn1]
        rw [hcl, List.length_append] at hW
        rw [if_neg (hdI_m1 hi), show hdI (i :: st) = nI i from rfl, r177 h hn1 hn (by omega), Option.bind_some, if_pos (ti.2.1 165 (by omega) (by omega)), rset_zv R _ (by decide), ti.2.2.2.1, hn2,
          r_end h hn st oF _ (by rw [List.length_cons] at h20; unfold oF; omega) (fun j hj => by have := hp2 j (List.mem_cons_of_mem _ hj); omega) hs' (by rw [List.length_append]; omega), hcl, List.append_assoc]
  | succ d ih =>
    intro k st m m' W hd hk hm hm' hp1 hp2 hs h20 hA hW
    by_cases hkl : N.length ≤ k
    · exact ih k st m m' W (by omega) hk (by omega) (by omega) hp1 hp2 hs h20 hA hW
    obtain ⟨m, rfl⟩ : ∃ z, m = z + 1 := ⟨m - 1, by omega⟩
    obtain ⟨m', rfl⟩ : ∃ z, m' = z + 1 := ⟨m' - 1, by omega⟩
    have hx : N[k]? = some N[k] := List.getElem?_eq_getElem (by omega)
    generalize N[k] = x at hx
    obtain ⟨a, b, c, h7, e⟩ := hpre.2 k x hx
    obtain ⟨l, hl⟩ := hA (by omega)
    have ok := PRE_ok hpre k (by omega)
    have tk := rn_tell h hx hn
    have ck := cn_tell hC hx
    rw [← hl] at hp1 hs hW
    rw [clsS_sub] at hW
    have hwd := wN_drop hx
    have hlb : ∀ i ∈ l, i < 1500 := fun i hi => by have := hp2 i (by rw [← hl]; exact List.mem_append_left _ hi); omega
    have hll : l.length ≤ 20 := by rw [← hl, List.length_append] at h20; omega
    have hbh := bh_le (d := x.2.2.1) (show k < N.length by omega)
    have hslc := wN_slc N (show k + 1 ≤ bh N k x.2.2.1 by omega)
    have hWo : (W ++ clsS N l).length + wnd x + (if x.1 = 7 then wN (slc N (k + 1) (bh N k x.2.2.1)) else 0) ≤ 18000 := by
      rw [List.length_append]
      by_cases g7 : x.1 = 7
      · rw [if_pos g7]; omega
      · rw [if_neg g7]; omega
    have hol := opn_len (altN N k x) h7
    have hal := plns_len true (slc N (k + 1) (bh N k x.2.2.1))
    have hnx : k + 1 ≤ nxt N x k ∧ nxt N x k ≤ N.length := by
      unfold nxt
      by_cases g7 : x.1 = 7
      · rw [if_pos g7]; omega
      · rw [if_neg g7]; omega
    have hpush := PRE_push hpre hx ok
    have hns : nstk x k (A k) <:+ k :: A k := by
      unfold nstk
      by_cases g : x.1 = 4 ∨ x.1 = 5 ∨ x.1 = 6
      · rw [if_pos g]; exact List.suffix_refl _
      · rw [if_neg g]; exact List.suffix_cons _ _
    have hnl : (nstk x k (A k)).length ≤ 20 := by have := hns.length_le; rw [List.length_cons] at this; omega
    obtain ⟨V, v1, v2, v3⟩ := ih (nxt N x k) (nstk x k (A k)) m m' (W ++ clsS N l ++ opn x (altN N k x)) (by omega) hnx.2 (by omega) (by omega) (hpush.1.sublist hns.sublist) (fun i hi => by have := hpush.2.1 i (hns.mem hi); omega) (SK_suf _ _ hns hpush.2.2) hnl
      (fun hlt => by
        unfold nxt nstk at *
        by_cases g7 : x.1 = 7
        · rw [if_pos g7] at hlt
          rw [if_pos g7, if_neg (by rw [g7]; decide)]; exact PRE_bh hpre hx (by rw [g7]; decide) hlt
        · rw [if_neg g7]
          rcases kinds8 h7 with g | g | g | g | g | g | g | g
          · rw [g] at e ⊢; exact e
          · rw [g] at e ⊢; exact e
          · rw [g] at e ⊢; exact e
          · rw [g] at e ⊢; exact e
          · rw [g] at e ⊢; exact e
          · rw [g] at e ⊢; exact e
          · rw [g] at e ⊢; exact e
          · exact absurd g g7)
      (by
        rw [List.length_append, List.length_append]
        unfold nxt nstk
        by_cases g7 : x.1 = 7
        · rw [if_pos g7, if_neg (by rw [g7]; decide)]
          rw [if_pos g7] at hol
          unfold altN at hol ⊢
          omega
        · rw [if_neg g7] at hol ⊢
          by_cases g : x.1 = 4 ∨ x.1 = 5 ∨ x.1 = 6
          · rw [if_pos g, clsS, hx, List.length_append]; dsimp only; omega
          · rw [if_neg g]; omega)
    refine ⟨V, ?_, ?_, v3⟩
    · have c1 := c105_loop hC (st := A k) (hdI st) l oF 0 W (by unfold oF; omega) (by omega) hp1 hlb hs (by omega)
      rw [nI_0, hl] at c1
      rw [g_104_12, h44, if_neg (by rw [nI_leI (by omega) (by omega)]; omega), cset_zt C W (by decide), ck.2.2.1, a]
      unfold o_105
      rw [c1, Option.bind_some]
      show (Option.bind (o_106 (cset C (W ++ clsS N l)) (nI k)) _) = _
      rw [c106 hC hx hdb h7 hWo, Option.bind_some]
      unfold olet
      have hz : ∀ V, zt (cset C V) 115 (nI k) = x.1 := fun V => (cset_zt C V (by decide) _).trans ck.2.1
      have e41 : ∀ V, f_41 (cset C V) (nI k) = nI (bh N k x.2.2.1) := fun V => c41 (cn_set hC V) hx hdb
      rw [hz, e41, ← v1]
      have hmax : zmax (nI k + 1) (if ¬ x.1 = 7 then 0 else nI (bh N k x.2.2.1)) = nI (nxt N x k) := by
        unfold zmax nxt
        rw [nI_1]
        by_cases g7 : x.1 = 7
        · rw [if_neg (show ¬ ¬ x.1 = 7 from fun hh => hh g7), if_pos g7]
          by_cases hlt : k + 1 < bh N k x.2.2.1
          · rw [if_pos ((nI_ltI (by omega) (by omega)).mpr hlt)]
          · rw [if_neg (by rw [nI_ltI (by omega) (by omega)]; exact hlt)]; congr 1; omega
        · rw [if_pos (show ¬ x.1 = 7 from g7), if_neg g7, if_neg (by rw [← nI_0, nI_ltI (by omega) (by omega)]; omega)]
      rw [hmax]
      have hst : (if x.1 = 4 then nI k else if x.1 = 5 then nI k else if ¬ x.1 = 6 then hdI (A k) else nI k) = hdI (nstk x k (A k)) := by
        unfold nstk
        by_cases g4 : x.1 = 4
        · rw [if_pos g4, if_pos (Or.inl g4)]; rfl
        by_cases g5 : x.1 = 5
        · rw [if_neg g4, if_pos g5, if_pos (Or.inr (Or.inl g5))]; rfl
        by_cases g6 : x.1 = 6
        · rw [if_neg g4, if_neg g5, if_neg (fun hh => hh g6), if_pos (Or.inr (Or.inr g6))]; rfl
        · rw [if_neg g4, if_neg g5, if_pos g6, if_neg (by rintro (g | g | g); exact g4 g; exact g5 g; exact g6 g)]
      show g_104_12 m _ (if x.1 = 4 then nI k else if x.1 = 5 then nI k else if ¬ x.1 = 6 then hdI (A k) else nI k) _ = _
      rw [hst]
    · rw [g35_eq, rset_zf R W (by decide), h.1, if_neg (by rw [nI_leI (by omega) (by omega)]; omega), if_pos (tk.2.1 165 (by omega) (by omega)), rset_zv R W (by decide), tk.2.2.2.1, a]
      cases l with
      | nil =>
        rw [List.nil_append] at hl
        have ew : W ++ clsS N [] = W := List.append_nil W
        rw [ew] at hWo v2
        rw [← hl, if_pos rfl, r_open h hx hn hp hdb h7 hWo]
        exact v2
      | cons i l =>
        have hi := hlb i (List.mem_cons_self ..)
        rw [List.cons_append] at hp1 hs hl
        obtain ⟨⟨y, hn1, hn2, hn3⟩, hs'⟩ := hs
        have ti := rn_tell h hn1 hn
        have hcl : clsS N (i :: l) = cls y ++ clsS N l := by rw [clsS, hn1]
        rw [hcl] at hWo v2
        rw [hcl, List.length_append] at hW
        rw [List.length_cons] at hll
        rw [← hl, show hdI (i :: (l ++ A k)) = nI i from rfl, if_neg (hdI_ne hp1 hi), r177 h hn1 hn (by omega), Option.bind_some, if_pos (ti.2.1 165 (by omega) (by omega)), rset_zv R _ (by decide), ti.2.2.2.1, hn2,
          r_close h hn hx a _ l oF _ (by unfold oF; omega) (List.pairwise_cons.mp hp1).2 (fun j hj => hlb j (List.mem_cons_of_mem _ hj)) hs' (by rw [List.length_append]; omega), List.append_assoc, r_open h hx hn hp hdb h7 hWo]
        exact v2
end
