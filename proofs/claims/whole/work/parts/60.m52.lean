/-! the mathematics; written by wip/whole/m2parts.py -/
theorem gst_len (S : GS) (t : Tok) : (gst S t).1.length ≤ S.1.length + 1 := by
  by_cases h9 : t.1 = 9
  · rw [gst_9 S h9]; exact Nat.le_succ _
  by_cases h10 : t.1 = 10
  · rw [gst_10 S h10]; exact Nat.le_succ _
  by_cases hm : mkn S t
  · rw [gst_new hm, List.length_append]; exact Nat.le_refl _
  · unfold gst; rw [if_neg h9, if_neg h10]
    have : t.1 = 0 ∧ ¬ S.2.2 = none := Classical.byContradiction (fun hh => hm ⟨h9, h10, hh⟩)
    rw [if_pos this.1]
    cases hc : S.2.2 with
    | none => exact absurd hc this.2
    | some i => dsimp only; rw [setL_len]; exact Nat.le_succ _
theorem gfold_len : ∀ (l : List Tok) (S : GS), (gfold l S).1.length ≤ S.1.length + l.length := by
  intro l
  induction l with
  | nil => intro S; exact Nat.le_refl _
  | cons t l ih =>
    intro S
    have h1 := ih (gst S t)
    have h2 := gst_len S t
    rw [gfold, List.length_cons]; omega
theorem gst_open (S : GS) (t : Tok) : S.2.1.length + (if t.1 = 4 ∨ t.1 = 5 ∨ t.1 = 6 ∨ t.1 = 7 then 1 else 0) ≤ (gst S t).2.1.length + (if t.1 = 9 then 1 else 0) := by
  by_cases h9 : t.1 = 9
  · rw [gst_9 S h9, if_pos h9, if_neg (by rw [h9]; decide), List.length_tail]; omega
  by_cases h10 : t.1 = 10
  · rw [gst_10 S h10, if_neg h9, if_neg (by rw [h10]; decide)]; exact Nat.le_refl _
  rw [if_neg h9]
  by_cases hm : mkn S t
  · rw [gst_new hm]
    by_cases h4 : t.1 < 4
    · rw [if_pos h4, if_neg (by rintro (g | g | g | g) <;> rw [g] at h4 <;> exact absurd h4 (by decide))]; exact Nat.le_refl _
    · rw [if_neg h4]; show _ ≤ S.2.1.length + 1 + 0
      split <;> omega
  · have : t.1 = 0 ∧ ¬ S.2.2 = none := Classical.byContradiction (fun hh => hm ⟨h9, h10, hh⟩)
    rw [if_neg (by rw [this.1]; decide)]
    unfold gst; rw [if_neg h9, if_neg h10, if_pos this.1]
    cases hc : S.2.2 with
    | none => exact absurd hc this.2
    | some i => exact Nat.le_refl _
theorem gfold_open : ∀ (l : List Tok) (S : GS), S.2.1.length + nop l ≤ (gfold l S).2.1.length + ncl l := by
  intro l
  induction l with
  | nil => intro S; exact Nat.le_refl _
  | cons t l ih =>
    intro S
    have h1 := ih (gst S t)
    have h2 := gst_open S t
    have e1 : nop (t :: l) = (if t.1 = 4 ∨ t.1 = 5 ∨ t.1 = 6 ∨ t.1 = 7 then 1 else 0) + nop l := by unfold nop; rw [List.map_cons, List.sum_cons]
    have e2 : ncl (t :: l) = (if t.1 = 9 then 1 else 0) + ncl l := by unfold ncl; rw [List.map_cons, List.sum_cons]
    rw [gfold, e1, e2]; omega
def STEP (R0 R : zr_Z) (S : GS) (pl : Nat) (R' : zr_Z) (l : List Tok) (pl' : Nat) : Prop := RS R' (gfold l S) pl' ∧ pl ≤ pl' ∧ pl' ≤ pl + l.length ∧ RG R R' pl ∧ FT R R' (gok l S)
theorem STEP.nil {R0 R : zr_Z} {S : GS} {pl : Nat} (h : RS R S pl) : STEP R0 R S pl R [] pl := ⟨h, Nat.le_refl _, Nat.le_refl _, RG.refl R pl, FT.refl R trivial⟩
theorem STEP.app {R0 R R1 R2 : zr_Z} {S : GS} {pl pl1 pl2 : Nat} {l m : List Tok} (h : STEP R0 R S pl R1 l pl1) (g : STEP R0 R1 (gfold l S) pl1 R2 m pl2) : STEP R0 R S pl R2 (l ++ m) pl2 := by
  obtain ⟨h1, h2, h3, h4, h5⟩ := h
  obtain ⟨g1, g2, g3, g4, g5⟩ := g
  refine ⟨by rw [gfold_app]; exact g1, by omega, by rw [List.length_append]; omega, h4.trans g4 h2, (h5.trans g5).iff ?_⟩
  rw [gok_app]
theorem step_let {R0 R : zr_Z} {S : GS} {pl : Nat} (c : Int32) (h : RS R S pl) (hn : S.1.length < 1600) (hp : pl < 20000) :
    ∃ R', o_151 R c (oI S.2.2) (hdI S.2.1) = some (oI (gfold [tkc c] S).2.2, R') ∧ STEP R0 R S pl R' [tkc c] (pl + 1) ∧ (gfold [tkc c] S).2.1 = S.2.1 := by
  obtain ⟨R', h1, h2, h3, h4⟩ := r151 c h hn hp
  refine ⟨R', h1, ⟨h2, by omega, Nat.le_refl _, h3, h4.iff ⟨fun hh => ⟨hh, trivial⟩, fun hh => hh.1⟩⟩, ?_⟩
  show (gst S (tkc c)).2.1 = S.2.1
  by_cases hm : mkn S (tkc c)
  · rw [gst_new hm]; dsimp only; rw [if_pos (show (tkc c).1 < 4 from (by decide : (0 : Int32) < 4))]
  · have : ¬ S.2.2 = none := fun hh => hm ⟨by show ¬ (0 : Int32) = 9; decide, by show ¬ (0 : Int32) = 10; decide, fun h' => h'.2 hh⟩
    cases hc : S.2.2 with
    | none => exact absurd hc this
    | some i => rw [gst_let hc]
theorem run_loop {R0 : zr_Z} {x r cnt : Nat} {c : Int32} {u : Int32} (hx : x < 8000) (hr : r < 1500) (hcnt : cnt ≤ 1500) : ∀ d i R S pl m, i + d = cnt → d < m → RS R S pl → S.1.length + d < 1600 → pl + d < 20000 → rv R 154 r = nI cnt → rv R 144 x = c → rv R 150 x = u → ∀ K : zr_Z → Int32 → Int32 → Int32 → Int32 → Option zr_Z,
    ∃ R' pl', g_152_65 m R (hdI S.2.1) (oI S.2.2) (nI r) (nI x) (nI i) K = K R' (hdI (gfold (List.replicate d (tkc c)) S).2.1) (oI (gfold (List.replicate d (tkc c)) S).2.2) (nI (r + 1)) u ∧ STEP R0 R S pl R' (List.replicate d (tkc c)) pl' := by
  intro d
  induction d with
  | zero =>
    intro i R S pl m hi hm h hn hp h1 h2 h3 K
    obtain ⟨m, rfl⟩ : ∃ z, m = z + 1 := ⟨m - 1, by omega⟩
    refine ⟨R, pl, ?_, STEP.nil h⟩
    rw [g_152_65, if_pos (inq_nI (by show r < 1500; omega) (by omega)), zv_nI _ _ (by omega), h1, if_pos ((nI_leI (by omega) (by omega)).mpr (by omega)), if_pos (inq_nI (by show x < 8000; omega) (by omega)), zv_nI _ _ (by omega), h3, nI_1]; rfl
  | succ d ih =>
    intro i R S pl m hi hm h hn hp h1 h2 h3 K
    obtain ⟨m, rfl⟩ : ∃ z, m = z + 1 := ⟨m - 1, by omega⟩
    obtain ⟨R1, q1, q2, q3⟩ := step_let (R0 := R0) c h (by omega) (by omega)
    have hlen := gfold_len [tkc c] S
    have hg := q2.2.2.2.1
    obtain ⟨R', pl', w1, w2⟩ := ih (i + 1) R1 (gfold [tkc c] S) (pl + 1) m (by omega) (by omega) q2.1 (by simp only [List.length_cons, List.length_nil] at hlen; omega) (by omega) ((hg.1 154 (by decide) (by omega) r).trans h1) ((hg.1 144 (by decide) (by omega) x).trans h2) ((hg.1 150 (by decide) (by omega) x).trans h3) K
    refine ⟨R', pl', ?_, ?_⟩
    · rw [g_152_65, if_pos (inq_nI (by show r < 1500; omega) (by omega)), zv_nI _ _ (by omega), h1, if_neg (by rw [nI_leI (by omega) (by omega)]; omega), if_pos (inq_nI (by show x < 8000; omega) (by omega)), zv_nI _ _ (by omega), h2, q1]
      simp only [Option.bind_some]
      rw [nI_1, ← q3]; exact w1
    · exact q2.app w2
theorem step_born {R0 R : zr_Z} {S : GS} {pl x : Nat} {l : List Tok} {nd : Nd} {st' : List Nat} (h : RS R S pl) (hn : S.1.length < 1500) (hx : x < 8000) (hk : rv R 143 x = nd.1) (hnd : nd.2.1 = hdI S.2.1 ∧ nd.2.2.1 = S.2.1.length + 1) (hz : ∀ j, 145 ≤ j → j ≤ 148 → rv R j x = nI (rvn R j x))
    (hs1 : rvn R 145 x + rvn R 146 x ≤ pl ∧ rvn R 147 x + rvn R 148 x ≤ pl) (ht : rsl R (rvn R 145 x) (rvn R 146 x) = nd.2.2.2.1) (hu : rsl R (rvn R 147 x) (rvn R 148 x) = nd.2.2.2.2.1) (h9 : rv R 149 x = nd.2.2.2.2.2)
    (hl : gfold l S = (S.1 ++ [nd], st', none)) (hst : st' = if nd.1 < 4 then S.2.1 else S.1.length :: S.2.1) (hok : gok l S ↔ S.2.1.length < 20) :
    ∃ R1 R', o_150 R nd.1 (hdI S.2.1) = some (nI S.1.length, R1) ∧ R' = zar (zar (zar (zar (zar R1 166 (nI S.1.length) (zv R1 145 (nI x))) 167 (nI S.1.length) (zv R1 146 (nI x))) 168 (nI S.1.length) (zv R1 147 (nI x))) 169 (nI S.1.length) (zv R1 148 (nI x))) 170 (nI S.1.length) (zv R1 149 (nI x)) ∧ zv R1 150 (nI x) = rv R 150 x ∧ STEP R0 R S pl R' l pl := by
  obtain ⟨N, st, cur⟩ := S
  obtain ⟨h1, h2, h3, h4⟩ := h
  dsimp only at h1 h2 h3 h4 hn hl hst hnd hok ⊢
  obtain ⟨R1, b0, b1, b2, b3, b4, b5, b6, b7, b8, b9, b10, b11, b12, b13, b14⟩ := r150 (wh := nd.1) h1 h2 h3 (by omega)
  generalize hnn : N.length = n at *
  have v : ∀ j, j < 164 → zv R1 j (nI x) = rv R j x := fun j hj => by rw [zv_nI _ _ (by omega), b3 j (by omega)]
  refine ⟨R1, _, b0, rfl, v 150 (by omega), ?_⟩
  rw [v 145 (by omega), v 146 (by omega), v 147 (by omega), v 148 (by omega), v 149 (by omega)]
  generalize hR' : zar (zar (zar (zar (zar R1 166 (nI n) (rv R 145 x)) 167 (nI n) (rv R 146 x)) 168 (nI n) (rv R 147 x)) 169 (nI n) (rv R 148 x)) 170 (nI n) (rv R 149 x) = R'
  have ho : ∀ j, (j < 166 ∨ 170 < j) → ∀ k, rv R' j k = rv R1 j k := fun j hj k => by
    rw [← hR', rv_oth _ _ _ (by omega), rv_oth _ _ _ (by omega), rv_oth _ _ _ (by omega), rv_oth _ _ _ (by omega), rv_oth _ _ _ (by omega)]
  have hk' : ∀ j k, ¬ k = n → rv R' j k = rv R1 j k := fun j k hk => by
    rw [← hR', rv_zar _ _ _ _ (by omega), if_neg (fun hh => hk hh.2), rv_zar _ _ _ _ (by omega), if_neg (fun hh => hk hh.2), rv_zar _ _ _ _ (by omega), if_neg (fun hh => hk hh.2), rv_zar _ _ _ _ (by omega), if_neg (fun hh => hk hh.2), rv_zar _ _ _ _ (by omega), if_neg (fun hh => hk hh.2)]
  have hf : ∀ f, zf R' f = zf R1 f := fun f => by rw [← hR', zf_zar, zf_zar, zf_zar, zf_zar, zf_zar]
  have v166 : rv R' 166 n = rv R 145 x := by rw [← hR', rv_oth _ _ _ (by decide), rv_oth _ _ _ (by decide), rv_oth _ _ _ (by decide), rv_oth _ _ _ (by decide)]; exact zar_rv_x (by omega)
  have v167 : rv R' 167 n = rv R 146 x := by rw [← hR', rv_oth _ _ _ (by decide), rv_oth _ _ _ (by decide), rv_oth _ _ _ (by decide)]; exact zar_rv_x (by omega)
  have v168 : rv R' 168 n = rv R 147 x := by rw [← hR', rv_oth _ _ _ (by decide), rv_oth _ _ _ (by decide)]; exact zar_rv_x (by omega)
  have v169 : rv R' 169 n = rv R 148 x := by rw [← hR', rv_oth _ _ _ (by decide)]; exact zar_rv_x (by omega)
  have v170 : rv R' 170 n = rv R 149 x := by rw [← hR']; exact zar_rv_x (by omega)
  have hpool : ∀ k, rv R' 142 k = rv R 142 k := fun k => (ho 142 (by omega) k).trans (b3 142 (by omega) k)
  have hlast : (N ++ [nd])[n]? = some nd := by rw [← hnn, List.getElem?_append_right (Nat.le_refl _), Nat.sub_self]; rfl
  refine ⟨?_, Nat.le_refl _, Nat.le_add_right _ _, ⟨fun j j1 j2 k => (ho j (by omega) k).trans (b3 j j2 k), fun k _ => hpool k, fun f f1 f2 f3 f4 => (hf f).trans (b13 f f2 f3 f4)⟩, ?_⟩
  · rw [hl]
    refine ⟨⟨?_, (hf 10).trans b2, fun k nd' hkk => ?_⟩, ?_, ?_, fun i hi => absurd hi (by simp)⟩
    · rw [hf, b1]; show nI (n + 1) = nI (N ++ [nd]).length; rw [List.length_append, hnn]; rfl
    · dsimp only at hkk
      by_cases e : k < n
      · rw [List.getElem?_append_left (by omega)] at hkk
        exact RND_keep (h1.2.2 k nd' hkk) (fun j j1 j2 => (hk' j k (by omega)).trans (b4 j k (by omega))) (fun j _ => hpool j) (Nat.le_refl _)
      · have hkl := (List.getElem?_eq_some_iff.mp hkk).1
        rw [List.length_append, hnn] at hkl
        obtain rfl : k = n := by simp only [List.length_cons, List.length_nil] at hkl; omega
        obtain rfl := Option.some.inj (hlast.symm.trans hkk)
        have l1 : nd.2.2.2.1.length = rvn R 146 x := by rw [← ht, rsl_len]
        have l2 : nd.2.2.2.2.1.length = rvn R 148 x := by rw [← hu, rsl_len]
        refine ⟨(ho 164 (by omega) k).trans b5, by rw [ho 165 (by omega) k, b6, hnd.1], by rw [ho 171 (by omega) k, b12, hnd.2], v170.trans h9, by rw [v167, l1]; exact hz 146 (by omega) (by omega), by rw [v169, l2]; exact hz 148 (by omega) (by omega), ⟨rvn R 145 x, v166.trans (hz 145 (by omega) (by omega)), by omega, ?_⟩, ⟨rvn R 147 x, v168.trans (hz 147 (by omega) (by omega)), by omega, ?_⟩⟩
        · rw [l1, rsl_all hpool]; exact ht
        · rw [l2, rsl_all hpool]; exact hu
    · dsimp only
      rw [hst]
      by_cases e : nd.1 < 4
      · rw [if_pos e]; exact SK_app h2 _
      · rw [if_neg e]; exact ⟨⟨nd, hlast, hnd.1, hnd.2⟩, SK_app h2 _⟩
    · dsimp only
      rw [hst, List.length_append, hnn]
      by_cases e : nd.1 < 4
      · rw [if_pos e]; omega
      · rw [if_neg e]; show st.length + 1 ≤ n + 1; omega
  · have : FT R R1 (gok l (N, st, cur)) := b14.iff hok.symm
    unfold FT at this ⊢
    rw [hf, hf]; exact this
