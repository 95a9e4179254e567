/-! the mathematics; written by wip/whole/m2parts.py -/
theorem gst_9 (S : GS) {t : Tok} (h : t.1 = 9) : gst S t = (S.1, S.2.1.tail, none) := by unfold gst; rw [if_pos h]
theorem gst_10 (S : GS) {t : Tok} (h : t.1 = 10) : gst S t = (S.1, S.2.1, none) := by unfold gst; rw [if_neg (by rw [h]; decide), if_pos h]
theorem gst_let {S : GS} {i : Nat} (h : S.2.2 = some i) (c : Int32) : gst S (tkc c) = (setL S.1 i c, S.2.1, some i) := by
  unfold gst
  rw [if_neg (show ¬ (tkc c).1 = 9 from (by decide : ¬ (0 : Int32) = 9)), if_neg (show ¬ (tkc c).1 = 10 from (by decide : ¬ (0 : Int32) = 10)), if_pos (show (tkc c).1 = 0 from rfl), h]; rfl
theorem gst_new {S : GS} {t : Tok} (h : mkn S t) : gst S t = (S.1 ++ [nNd t S.2.1], if t.1 < 4 then S.2.1 else S.1.length :: S.2.1, if t.1 = 0 then some S.1.length else if t.1 = 3 then some S.1.length else none) := by
  unfold gst
  rw [if_neg h.1, if_neg h.2.1]
  by_cases e : t.1 = 0
  · have : S.2.2 = none := Classical.byContradiction (fun hh => h.2.2 ⟨e, hh⟩)
    rw [if_pos e, this]
  · rw [if_neg e]
theorem mkn_let {S : GS} {i : Nat} (h : S.2.2 = some i) (c : Int32) : ¬ mkn S (tkc c) := fun hh => hh.2.2 ⟨rfl, by rw [h]; simp⟩
theorem lws_cons (t : Tok) (l : List Tok) : lws (t :: l) = lw t + lws l := by unfold lws; rw [List.map_cons, List.sum_cons]
theorem SK_tail {N : List Nd} {st : List Nat} (h : SK N st) : SK N st.tail := by
  cases st with
  | nil => trivial
  | cons i st => exact h.2
theorem SK_new {N : List Nd} {st : List Nat} {t : Tok} (h : SK N st) : SK (N ++ [nNd t st]) (if t.1 < 4 then st else N.length :: st) := by
  by_cases e : t.1 < 4
  · rw [if_pos e]; exact SK_app h _
  · rw [if_neg e]
    exact ⟨⟨nNd t st, by rw [List.getElem?_append_right (Nat.le_refl _), Nat.sub_self]; rfl, rfl, rfl⟩, SK_app h _⟩
theorem kd_NK {C D : zr_Z} (h : NK C D) (p : Nat) : kd D p = kd C p ∧ vl D p = vl C p := by
  unfold kd vl; rw [h.1 66 (by omega), h.1 68 (by omega)]; exact ⟨rfl, rfl⟩
theorem build_loop {C0 : zr_Z} {T : List Int32} {nl : Nat} (hC : mC C0 T) (hT : gT T) (hIL : IL C0 T T.length nl) (h66 : (C0.1 66).length = T.length) :
    ∀ d p C S m, p + d = T.length → d < m → NK C0 C → CS C S → S.2.1.length ≤ 20 → S.1.length + d ≤ 1500 → (C.1 131).length + lws (ctk C0 T p d) ≤ 3900 →
    (gok (ctk C0 T p d) S ∧ ∃ C', g_46_15 m C (hdI S.2.1) (oI S.2.2) (nI p) = some (true, C') ∧ CN C' (gfold (ctk C0 T p d) S).1 ∧ NK C0 C') ∨ (¬ gok (ctk C0 T p d) S ∧ ∃ C', g_46_15 m C (hdI S.2.1) (oI S.2.2) (nI p) = some (false, C') ∧ NK C0 C') := by
  intro d
  have hl := hT.1
  induction d with
  | zero =>
    intro p C S m hp hm hN hS h20 hn hr
    obtain ⟨m, rfl⟩ : ∃ z, m = z + 1 := ⟨m - 1, by omega⟩
    refine Or.inl ⟨trivial, C, ?_, hS.1, hN⟩
    have : zs C 66 = nI T.length := by unfold zs; rw [hN.1 66 (by omega), h66]
    rw [g_46_15, this, if_pos ((nI_leI (by omega) (by omega)).mpr (by omega))]
  | succ d ih =>
    intro p C S m hp hm hN hS h20 hn hr
    obtain ⟨m, rfl⟩ : ∃ z, m = z + 1 := ⟨m - 1, by omega⟩
    have hz : zs C 66 = nI T.length := by unfold zs; rw [hN.1 66 (by omega), h66]
    have hk : zt C 66 (nI p) = kd C0 p := by rw [zt_ldq _ _ (by omega), ldq_eq]; exact (kd_NK hN p).1
    have hv : zt C 68 (nI p) = vl C0 p := by rw [zt_ldq _ _ (by omega), ldq_eq]; exact (kd_NK hN p).2
    rw [g_46_15, hz, if_neg (by rw [nI_leI (by omega) (by omega)]; omega), hk, hv, nI_1]
    rw [ctk] at hr ⊢
    have hmC : mC C T := (hN.1 61 (by omega)).trans hC
    by_cases e9 : kd C0 p = 9
    · rw [if_neg (fun hh => hh e9), hd_hold hS.1 hS.2.1]
      have ht : ctok C0 T p = [tk0 9] := by rw [ctok_eq, e9]; rfl
      rw [ht, List.singleton_append] at hr ⊢
      have hg : gst S (tk0 9) = (S.1, S.2.1.tail, none) := gst_9 S rfl
      have hmk : ¬ mkn S (tk0 9) := fun hh => hh.1 rfl
      have := ih (p + 1) C (S.1, S.2.1.tail, none) m (by omega) (by omega) hN ⟨hS.1, SK_tail hS.2.1, fun i hi => absurd hi (by simp)⟩ (by rw [List.length_tail]; show S.2.1.length - 1 ≤ 20; omega) (by show S.1.length + d ≤ 1500; omega) (by rw [lws_cons] at hr; omega)
      rw [gfold, gok, hg]
      rcases this with ⟨a, b⟩ | ⟨a, b⟩
      · exact Or.inl ⟨⟨fun hh => absurd hh hmk, a⟩, b⟩
      · exact Or.inr ⟨fun hh => a hh.2, b⟩
    rw [if_pos e9]
    by_cases e10 : kd C0 p = 10
    · rw [if_neg (fun hh => hh e10)]
      have ht : ctok C0 T p = [tk0 10] := by rw [ctok_eq, e10]; rfl
      rw [ht, List.singleton_append] at hr ⊢
      have hg : gst S (tk0 10) = (S.1, S.2.1, none) := gst_10 S rfl
      have hmk : ¬ mkn S (tk0 10) := fun hh => hh.2.1 rfl
      have := ih (p + 1) C (S.1, S.2.1, none) m (by omega) (by omega) hN ⟨hS.1, hS.2.1, fun i hi => absurd hi (by simp)⟩ h20 (by show S.1.length + d ≤ 1500; omega) (by rw [lws_cons] at hr; omega)
      rw [gfold, gok, hg]
      rcases this with ⟨a, b⟩ | ⟨a, b⟩
      · exact Or.inl ⟨⟨fun hh => absurd hh hmk, a⟩, b⟩
      · exact Or.inr ⟨fun hh => a hh.2, b⟩
    rw [if_pos e10]
    by_cases e8 : kd C0 p = 8
    · have ht : ctok C0 T p = [] := by rw [ctok_eq, if_pos e8]
      rw [ht, List.nil_append] at hr ⊢
      rw [if_pos (by rw [e8]; decide), if_pos e8]
      exact ih (p + 1) C S m (by omega) (by omega) hN hS h20 (by omega) hr
    have hnew : ∀ t : Tok, ctok C0 T p = [t] → t.1 = kd C0 p → ((kd C0 p = 0 ∧ t = tkc (vl C0 p)) ∨ ((kd C0 p = 6 ∨ kd C0 p = 7) ∧ ∃ i, i < nl ∧ vl C0 p = nI i ∧ t = (kd C0 p, ldq C0 72 i, ldT C0 T i, ldU C0 T i)) ∨ (¬ kd C0 p = 0 ∧ ¬ kd C0 p = 6 ∧ ¬ kd C0 p = 7 ∧ t = tk0 (kd C0 p))) → mkn S t →
        (gok (t :: ctk C0 T (p + 1) d) S ∧ ∃ C', (if (f_47 C (hdI S.2.1)) ≤ 20 then (Option.bind (o_48 C (kd C0 p) (hdI S.2.1) (vl C0 p)) fun u7 => (olet ((if (kd C0 p) = 0 then u7.1 else (if ¬ (kd C0 p) = 3 then (-1) else u7.1 : Int32) : Int32) : Int32) fun x12 => (olet ((if (kd C0 p) < 4 then (hdI S.2.1) else u7.1 : Int32) : Int32) fun x16 => g_46_15 m u7.2 x16 x12 (nI (p + 1))))) else some (false, C)) = some (true, C') ∧ CN C' (gfold (t :: ctk C0 T (p + 1) d) S).1 ∧ NK C0 C') ∨
        (¬ gok (t :: ctk C0 T (p + 1) d) S ∧ ∃ C', (if (f_47 C (hdI S.2.1)) ≤ 20 then (Option.bind (o_48 C (kd C0 p) (hdI S.2.1) (vl C0 p)) fun u7 => (olet ((if (kd C0 p) = 0 then u7.1 else (if ¬ (kd C0 p) = 3 then (-1) else u7.1 : Int32) : Int32) : Int32) fun x12 => (olet ((if (kd C0 p) < 4 then (hdI S.2.1) else u7.1 : Int32) : Int32) fun x16 => g_46_15 m u7.2 x16 x12 (nI (p + 1))))) else some (false, C)) = some (false, C') ∧ NK C0 C') := by
      intro t ht htk hcase hmk
      rw [hd_depth hS.1 hS.2.1]
      by_cases hdp : S.2.1.length < 20
      · rw [if_pos (by rw [show (20 : Int32) = nI 20 from rfl, nI_leI (by omega) (by omega)]; omega)]
        rw [ht, List.singleton_append, lws_cons] at hr
        have hlq : ∀ id x, id < 115 → ldq C id x = ldq C0 id x := fun id x hid => by rw [ldq_eq, ldq_eq, hN.1 id (by omega)]
        have eT : ∀ i, ldT C T i = ldT C0 T i := fun i => by unfold ldT; rw [hlq 70 _ (by decide), hlq 74 _ (by decide), hlq 76 _ (by decide)]
        have eU : ∀ i, ldU C T i = ldU C0 T i := fun i => by unfold ldU; rw [hlq 78 _ (by decide), hlq 80 _ (by decide)]
        have hLD : ∀ i, i < nl → LD1 C T i := fun i hi => by
          have := hIL.2.2.1 i hi
          unfold LD1 at this ⊢
          rw [hlq 70 _ (by decide), hlq 74 _ (by decide), hlq 76 _ (by decide), hlq 78 _ (by decide), hlq 80 _ (by decide)]; exact this
        obtain ⟨C', g1, g2, g3, g4, g5⟩ := cn_new (K := kd C0 p) (va := vl C0 p) (t := t) (nl := nl) hmC hT hS.1 hS.2.1 (by omega) (by have := hIL.2.1; omega) hLD (by
          rcases hcase with g | ⟨g, i, i1, i2, i3⟩ | g
          · exact Or.inl g
          · exact Or.inr (Or.inl ⟨g, i, i1, i2, by rw [eT, eU, hlq 72 _ (by decide)]; exact i3⟩)
          · exact Or.inr (Or.inr g)) (by omega)
        rw [g1]
        simp only [Option.bind_some, olet]
        have hS' : CS C' (gst S t) := by
          rw [gst_new hmk]
          refine ⟨g2, SK_new hS.2.1, fun i hi => ?_⟩
          dsimp only at hi
          by_cases a0 : t.1 = 0
          · rw [if_pos a0] at hi
            obtain rfl := Option.some.inj hi
            exact g5 (Or.inl (htk ▸ a0))
          · rw [if_neg a0] at hi
            by_cases a3 : t.1 = 3
            · rw [if_pos a3] at hi
              obtain rfl := Option.some.inj hi
              exact g5 (Or.inr (htk ▸ a3))
            · rw [if_neg a3] at hi; exact absurd hi (by simp)
        have e1 : (if kd C0 p < 4 then hdI S.2.1 else nI S.1.length) = hdI (gst S t).2.1 := by
          rw [gst_new hmk, htk]
          by_cases a : kd C0 p < 4
          · rw [if_pos a, if_pos a]
          · rw [if_neg a, if_neg a]; rfl
        have e2 : (if kd C0 p = 0 then nI S.1.length else if ¬ kd C0 p = 3 then -1 else nI S.1.length) = oI (gst S t).2.2 := by
          rw [gst_new hmk, htk]
          by_cases a : kd C0 p = 0
          · rw [if_pos a, if_pos a]; rfl
          · rw [if_neg a, if_neg a]
            by_cases b : kd C0 p = 3
            · rw [if_neg (fun hh => hh b), if_pos b]; rfl
            · rw [if_pos b, if_neg b]; rfl
        have hlen : (gst S t).1.length = S.1.length + 1 := by rw [gst_new hmk, List.length_append]; rfl
        have hstl : (gst S t).2.1.length ≤ 20 := by
          rw [gst_new hmk]
          by_cases a : t.1 < 4
          · rw [if_pos a]; exact h20
          · rw [if_neg a]; show S.2.1.length + 1 ≤ 20; omega
        have := ih (p + 1) C' (gst S t) m (by omega) (by omega) (hN.trans g3) hS' hstl (by omega) (by omega)
        rw [e1, e2]
        rw [gfold, gok]
        rcases this with ⟨a, b⟩ | ⟨a, b⟩
        · exact Or.inl ⟨⟨fun _ => hdp, a⟩, b⟩
        · exact Or.inr ⟨fun hh => a hh.2, b⟩
      · rw [if_neg (by rw [show (20 : Int32) = nI 20 from rfl, nI_leI (by omega) (by omega)]; omega)]
        exact Or.inr ⟨fun hh => hdp (hh.1 hmk), C, rfl, hN⟩
    by_cases e0 : kd C0 p = 0
    · have ht : ctok C0 T p = [tkc (vl C0 p)] := by rw [ctok_eq, if_neg e8, if_pos e0]
      rw [if_neg (fun hh => hh e0)]
      cases hc : S.2.2 with
      | none =>
        show (_ ∧ ∃ C', (if (-1 : Int32) = -1 then _ else _) = _ ∧ _) ∨ _
        rw [show oI none = -1 from rfl, if_pos rfl, if_neg e8]
        have := hnew (tkc (vl C0 p)) ht (by rw [e0]; rfl) (Or.inl ⟨e0, rfl⟩) ⟨by show ¬ (0 : Int32) = 9; decide, by show ¬ (0 : Int32) = 10; decide, fun hh => hh.2 hc⟩
        rw [ht, List.singleton_append]; exact this
      | some i =>
        rw [show oI (some i) = nI i from rfl]
        have hcur := hS.2.2 i hc
        obtain ⟨nd, f, q1, q2, q3⟩ := hcur
        have hil := (List.getElem?_eq_some_iff.mp q1).1
        rw [if_neg (ne_m1 (by omega))]
        rw [ht, List.singleton_append] at hr ⊢
        rw [lws_cons] at hr
        have hlw : lw (tkc (vl C0 p)) = 1 := rfl
        obtain ⟨w1, w2, w3, w4, w5⟩ := cn_letter (c := vl C0 p) hS.1 q1 (hS.2.2 i hc) (by omega)
        have he : S.1.set i (nd.1, nd.2.1, nd.2.2.1, nd.2.2.2.1 ++ [vl C0 p], nd.2.2.2.2) = setL S.1 i (vl C0 p) := (setL_get q1).symm
        rw [he] at w1 w2
        have hg := gst_let hc (vl C0 p)
        have hNK : NK C (f_49 C (nI i) (vl C0 p)) := ⟨fun id hid => w5 id (by omega) (by omega), fun j _ => by unfold zc; rw [w4], by rw [w4]⟩
        have := ih (p + 1) (f_49 C (nI i) (vl C0 p)) (setL S.1 i (vl C0 p), S.2.1, some i) m (by omega) (by omega) (hN.trans hNK) ⟨w1, SK_setL hS.2.1, fun j hj => by obtain rfl := Option.some.inj hj; exact w2⟩ h20 (by show (setL S.1 i (vl C0 p)).length + d ≤ 1500; rw [setL_len]; omega) (by rw [w3, List.length_append]; show (C.1 131).length + 1 + _ ≤ _; omega)
        rw [gfold, gok, hg]
        rcases this with ⟨a, b⟩ | ⟨a, b⟩
        · exact Or.inl ⟨⟨fun hh => absurd hh (mkn_let hc _), a⟩, b⟩
        · exact Or.inr ⟨fun hh => a hh.2, b⟩
    · rw [if_pos e0, if_neg e8]
      by_cases e6 : kd C0 p = 6 ∨ kd C0 p = 7
      · obtain ⟨i, i1, i2⟩ := hIL.2.2.2 p e6
        have hnl := hIL.2.1
        have ht : ctok C0 T p = [(kd C0 p, ldq C0 72 i, ldT C0 T i, ldU C0 T i)] := by rw [ctok_eq, if_neg e8, if_neg e0, if_pos e6, i2, nI_clamp (by omega)]
        rw [ht, List.singleton_append]
        exact hnew _ ht rfl (Or.inr (Or.inl ⟨e6, i, i1, i2, rfl⟩)) ⟨e9, e10, fun hh => e0 hh.1⟩
      · have ht : ctok C0 T p = [tk0 (kd C0 p)] := by rw [ctok_eq, if_neg e8, if_neg e0, if_neg e6]
        rw [ht, List.singleton_append]
        exact hnew _ ht rfl (Or.inr (Or.inr ⟨e0, fun hh => e6 (Or.inl hh), fun hh => e6 (Or.inr hh), rfl⟩)) ⟨e9, e10, fun hh => e0 hh.1⟩
