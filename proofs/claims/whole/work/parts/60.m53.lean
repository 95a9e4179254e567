/-! the mathematics; written by wip/whole/m2parts.py -/
theorem kok_9 {k : Int32} (h : kok k) : ¬ k = 9 := by
  intro e; rw [e] at h; revert h; decide
def hd0 : List Nat → Int32
  | [] => 0
  | x :: _ => nI x
theorem chn_hd0 {R : zr_Z} {u : Nat} {l : List Nat} (h : chn R u l) : rv R 150 u = hd0 l := by
  cases l with
  | nil => exact h.1
  | cons x l => exact h.1
def etk (R : zr_Z) : List Ent → List Tok
  | [] => []
  | en :: l => rtok R en.1 en.2.2.2 ++ etk R l
theorem SG_etk {C R : zr_Z} {T : List Int32} : ∀ (l : List Ent) a b, SG C R T a l b → ctk C T a (b - a) = etk R l := by
  intro l
  induction l with
  | nil => intro a b h; rw [show a = b from h, Nat.sub_self]; rfl
  | cons en l ih =>
    intro a b h
    obtain ⟨h1, h2, h3, h4⟩ := h
    have hle := SG_le _ _ _ h4
    rw [etk, ← h3, ← ih _ _ h4, show b - a = (en.2.2.1 - a) + (b - en.2.2.1) by omega, ctk_add, show a + (en.2.2.1 - a) = en.2.2.1 by omega]
theorem code_fold (N : List Nd) (st : List Nat) : ∀ (ls : List Int32) (nd : Nd), gfold (ls.map tkc) (N ++ [nd], st, some N.length) = (N ++ [(nd.1, nd.2.1, nd.2.2.1, nd.2.2.2.1 ++ ls, nd.2.2.2.2)], st, some N.length) ∧ gok (ls.map tkc) (N ++ [nd], st, some N.length) := by
  intro ls
  induction ls with
  | nil => intro nd; rw [List.append_nil]; exact ⟨rfl, trivial⟩
  | cons c ls ih =>
    intro nd
    have hlast : (N ++ [nd])[N.length]? = some nd := by rw [List.getElem?_append_right (Nat.le_refl _), Nat.sub_self]; rfl
    have hs : gst (N ++ [nd], st, some N.length) (tkc c) = (N ++ [ndL nd c], st, some N.length) := by
      rw [gst_let rfl]; dsimp only
      rw [setL_get hlast, List.set_append_right _ _ (Nat.le_refl _), Nat.sub_self]; rfl
    have := ih (ndL nd c)
    rw [List.map_cons, gfold, gok, hs]
    refine ⟨?_, fun hh => absurd hh (mkn_let rfl c), this.2⟩
    rw [this.1]
    unfold ndL; dsimp only
    rw [List.append_assoc]; rfl
theorem lt4 {x : Int32} : x < 4 ↔ x ≤ 3 := by
  rw [Int32.lt_iff_toInt_lt, Int32.le_iff_toInt_le]
  have h4 : (4 : Int32).toInt = 4 := by decide
  have h3 : (3 : Int32).toInt = 3 := by decide
  omega
theorem ctk_len (C : zr_Z) (T : List Int32) : ∀ n a, (ctk C T a n).length ≤ n := by
  intro n
  induction n with
  | zero => intro a; exact Nat.le_refl _
  | succ n ih =>
    intro a
    have h1 := ih (a + 1)
    have h2 : (ctok C T a).length ≤ 1 := by unfold ctok; repeat (first | split | exact Nat.zero_le _ | exact Nat.le_refl _)
    rw [ctk, List.length_append]; omega
theorem gather_loop {R0 : zr_Z} {pl0 : Nat} : ∀ (Gs : List Ent) R S pl r m u, Gs.length < m → RG R0 R pl0 → pl0 ≤ pl → chn R0 u (Gs.map (fun en => en.1)) → RS R S pl → S.1.length + (etk R0 Gs).length ≤ 1500 → pl + (etk R0 Gs).length < 19000 → (∀ en ∈ Gs, 0 < en.1 ∧ en.1 < 8000) → IZ R0 Gs →
    (∀ en ∈ Gs, en.2.2.2 = none → (rv R0 143 en.1 = 3 ∨ rv R0 143 en.1 = 6 ∨ rv R0 143 en.1 = 7) → rvn R0 145 en.1 + rvn R0 146 en.1 ≤ pl0 ∧ rvn R0 147 en.1 + rvn R0 148 en.1 ≤ pl0) → (∃ n, r + n ≤ 1500 ∧ Gs.filterMap (fun en => en.2.2.2) = List.range' r n) →
    (∀ x a e t, (x, a, e, some t) ∈ Gs → rv R0 143 x = 10 ∧ ∃ n, n ≤ 1500 ∧ rv R0 154 t = nI n) → (∀ A B, Gs = A ++ B → sumE (ecl R0) A ≤ sumE (eop R0) A + S.2.1.length) →
    ∃ R' pl', g_152_19 m R (hdI S.2.1) (oI S.2.2) (nI r) (hd0 (Gs.map (fun en => en.1))) = some R' ∧ STEP R0 R S pl R' (etk R0 Gs) pl' := by
  intro Gs
  induction Gs with
  | nil =>
    intro R S pl r m u hm _ _ _ hS _ _ _ _ _ _ _ _
    obtain ⟨m, rfl⟩ : ∃ z, m = z + 1 := ⟨m - 1, by omega⟩
    exact ⟨R, pl, by rw [List.map_nil, hd0, g_152_19, if_pos rfl], STEP.nil hS⟩
  | cons en Gs ih =>
    intro R S pl r m u hm hG hpl hch hS hn hp hit hz hsl htag hrun hnb
    obtain ⟨m, rfl⟩ : ∃ z, m = z + 1 := ⟨m - 1, by omega⟩
    obtain ⟨x, xa, xe, tg⟩ := en
    rw [List.map_cons] at hch ⊢
    obtain ⟨-, -, hch'⟩ := hch
    obtain ⟨hx0, hx8⟩ := hit _ (List.mem_cons_self ..)
    dsimp only at hx0 hx8 hch' ⊢
    have hnext : rv R0 150 x = hd0 (Gs.map (fun en => en.1)) := chn_hd0 hch'
    rw [show hd0 (x :: Gs.map (fun en => en.1)) = nI x from rfl]
    rw [etk] at hn hp ⊢
    dsimp only at hn hp ⊢
    rw [List.length_append] at hn hp
    have hx1 : ¬ nI x = 0 := by rw [← nI_0, nI_eq (by omega) (by omega)]; omega
    have gq : ∀ j, ¬ j = 142 → j < 164 → ∀ i, rv R j i = rv R0 j i := fun j j1 j2 i => hG.1 j j1 (Or.inl j2) i
    have hq : ∀ j, zr_alen j = 8000 → inq j (nI x) := fun j hj => inq_nI (by omega) (by omega)
    have hk : zv R 143 (nI x) = rv R0 143 x := by rw [zv_nI _ _ (by omega)]; exact gq 143 (by decide) (by decide) x
    have go : ∀ R1 pl1 l r1, l = rtok R0 x tg → STEP R0 R S pl R1 l pl1 → (∃ n, r1 + n ≤ 1500 ∧ Gs.filterMap (fun en => en.2.2.2) = List.range' r1 n) → ∃ R' pl', g_152_19 m R1 (hdI (gfold l S).2.1) (oI (gfold l S).2.2) (nI r1) (hd0 (Gs.map (fun en => en.1))) = some R' ∧ STEP R0 R S pl R' (rtok R0 x tg ++ etk R0 Gs) pl' := by
      intro R1 pl1 l r1 hl hst htag'
      have hlen := gfold_len l S
      have hop := gfold_open l S
      obtain ⟨R', pl', w1, w2⟩ := ih R1 (gfold l S) pl1 r1 m x (by rw [List.length_cons] at hm; omega) ⟨fun j j1 j2 i => (hst.2.2.2.1.1 j j1 j2 i).trans (hG.1 j j1 j2 i), fun i hi => (hst.2.2.2.1.2.1 i (by omega)).trans (hG.2.1 i hi), fun f a b c d => (hst.2.2.2.1.2.2 f a b c d).trans (hG.2.2 f a b c d)⟩ (by have := hst.2.1; omega) hch' hst.1 (by rw [hl] at hlen ⊢; omega) (by have := hst.2.2.1; rw [hl] at this; omega)
        (fun en hen => hit en (List.mem_cons_of_mem _ hen)) (fun en hen => hz en (List.mem_cons_of_mem _ hen)) (fun en hen => hsl en (List.mem_cons_of_mem _ hen)) htag' (fun x a e t ht => hrun x a e t (List.mem_cons_of_mem _ ht))
        (fun A B hA => by
          have := hnb ((x, xa, xe, tg) :: A) B (by rw [hA, List.cons_append])
          rw [sumE_cons, sumE_cons] at this
          have e1 : ecl R0 (x, xa, xe, tg) = ncl l := by rw [hl]; rfl
          have e2 : eop R0 (x, xa, xe, tg) = nop l := by rw [hl]; rfl
          omega)
      exact ⟨R', pl', w1, by rw [← hl]; exact hst.app w2⟩
    rw [g_152_19, if_neg hx1, if_pos (hq 143 rfl), hk]
    cases tg with
    | some t =>
      obtain ⟨k10, cnt, hcnt, h154⟩ := hrun x xa xe t (List.mem_cons_self ..)
      obtain ⟨n, hrn, htg⟩ := htag
      rw [List.filterMap_cons] at htg
      dsimp only at htg
      obtain ⟨n, rfl⟩ : ∃ z, n = z + 1 := by
        cases n with
        | zero => exact absurd htg (by simp)
        | succ z => exact ⟨z, rfl⟩
      rw [List.range'_succ] at htg
      injection htg with ht1 ht2
      subst ht1
      rw [if_pos (by rw [k10]; decide), if_neg (fun hh => hh k10)]
      have hrt : rtok R0 x (some t) = List.replicate cnt (tkc (rv R0 144 x)) := by
        show List.replicate (rvn R0 154 t) _ = _
        rw [show rvn R0 154 t = cnt from by unfold rvn; rw [show R0.2.2.1 154 t = nI cnt from h154, nI_clamp (by omega)]]
      rw [hrt, List.length_replicate] at hn hp
      obtain ⟨R1, pl1, w1, w2⟩ := run_loop (R0 := R0) (x := x) (r := t) (cnt := cnt) (c := rv R0 144 x) (u := rv R0 150 x) hx8 (by omega) hcnt cnt 0 R S pl oF (by omega) (by unfold oF; omega) hS (by omega) (by omega) ((gq 154 (by decide) (by decide) t).trans h154) (gq 144 (by decide) (by decide) x) (gq 150 (by decide) (by decide) x) (fun Z x1 x2 x3 x4 => g_152_19 m Z x1 x2 x3 x4)
      rw [nI_0] at w1
      rw [w1, hnext]
      exact go R1 pl1 _ (t + 1) hrt.symm w2 ⟨n, by omega, ht2⟩
    | none =>
      have htag' : ∃ n, r + n ≤ 1500 ∧ Gs.filterMap (fun en => en.2.2.2) = List.range' r n := by
        obtain ⟨n, h1, h2⟩ := htag
        rw [List.filterMap_cons] at h2
        exact ⟨n, h1, h2⟩
      have hiz := hz _ (List.mem_cons_self ..) rfl
      have hsl' := hsl _ (List.mem_cons_self ..) rfl
      dsimp only at hiz hsl'
      have hrt := rtok_eq R0 x
      by_cases k0 : rv R0 143 x = 0
      · rw [if_pos k0] at hrt
        rw [if_neg (fun hh => hh k0), if_pos (hq 144 rfl), zv_nI _ _ (by omega), gq 144 (by decide) (by decide) x]
        rw [hrt] at hn hp
        simp only [List.length_cons, List.length_nil] at hn hp
        obtain ⟨R1, q1, q2, q3⟩ := step_let (R0 := R0) (rv R0 144 x) hS (by omega) (by omega)
        rw [q1]
        simp only [Option.bind_some]
        rw [if_pos (hq 150 rfl), zv_nI _ _ (by omega), (q2.2.2.2.1.1 150 (by decide) (by omega) x), gq 150 (by decide) (by decide) x, hnext, ← q3]
        exact go R1 (pl + 1) _ r hrt.symm q2 htag'
      rw [if_neg k0] at hrt
      rw [if_pos k0, if_pos hiz.2.2.2]
      by_cases k11 : rv R0 143 x = 11
      · rw [if_neg (by rw [k11]; decide), if_neg (by rw [k11]; decide), if_pos k11] at hrt
        rw [if_neg (fun hh => hh k11), if_pos (hq 144 rfl), zv_nI _ _ (by omega), gq 144 (by decide) (by decide) x]
        by_cases k1 : rv R0 144 x = 1
        · rw [if_pos k1] at hrt
          rw [hrt] at hn hp
          simp only [List.length_cons, List.length_nil, List.cons_append, List.nil_append] at hn hp
          rw [if_neg (fun hh => hh k1)]
          obtain ⟨R1, q1, q2, q3⟩ := step_let (R0 := R0) 33 hS (by omega) (by omega)
          have hlen := gfold_len [tkc 33] S
          simp only [List.length_cons, List.length_nil] at hlen
          obtain ⟨R2, p1, p2, p3⟩ := step_let (R0 := R0) 91 q2.1 (by omega) (by omega)
          rw [q1]
          simp only [Option.bind_some]
          rw [← q3, p1]
          simp only [Option.bind_some]
          have hst := q2.app p2
          have e1 : gfold [tkc 91] (gfold [tkc 33] S) = gfold ([tkc 33] ++ [tkc 91]) S := rfl
          rw [if_pos (hq 150 rfl), zv_nI _ _ (by omega), (hst.2.2.2.1.1 150 (by decide) (by omega) x), gq 150 (by decide) (by decide) x, hnext, ← p3, e1]
          exact go R2 _ _ r hrt.symm hst htag'
        · rw [if_neg k1] at hrt
          rw [hrt] at hn hp
          simp only [List.length_cons, List.length_nil, List.nil_append] at hn hp
          rw [if_pos k1]
          obtain ⟨R1, q1, q2, q3⟩ := step_let (R0 := R0) 91 hS (by omega) (by omega)
          rw [q1]
          simp only [Option.bind_some]
          rw [if_pos (hq 150 rfl), zv_nI _ _ (by omega), (q2.2.2.2.1.1 150 (by decide) (by omega) x), gq 150 (by decide) (by decide) x, hnext, ← q3]
          exact go R1 (pl + 1) _ r hrt.symm q2 htag'
      rw [if_pos k11]
      by_cases k12 : rv R0 143 x = 12
      · rw [if_neg (by rw [k12]; decide), if_neg (by rw [k12]; decide), if_neg k11, if_pos k12] at hrt
        rw [if_neg (fun hh => hh k12)]
        have hb := hnb [(x, xa, xe, none)] Gs rfl
        rw [sumE_cons, sumE_nil, sumE_cons, sumE_nil, (ecl_k R0 x xa xe).1, (ecl_k R0 x xa xe).2, if_pos (Or.inl k12), if_neg (by rw [k12]; decide)] at hb
        obtain ⟨i, st, hst⟩ : ∃ i st, S.2.1 = i :: st := by
          cases hc : S.2.1 with
          | nil => rw [hc] at hb; exact absurd hb (by decide)
          | cons i st => exact ⟨i, st, rfl⟩
        have hsk := hS.2.1
        rw [hst] at hsk
        have hil := SK_lt hsk
        have h165 := (rn_hold hS.1 hsk).1
        rw [hst, show hdI (i :: st) = nI i from rfl, if_pos (inq_nI (by show i < 4000; omega) (by omega)), if_pos (hq 150 rfl), zv_nI _ _ (by omega), zv_nI _ _ (by omega), h165, gq 150 (by decide) (by decide) x, hnext]
        have hgs : gfold [tk0 9] S = (S.1, st, none) := by
          show gst S (tk0 9) = _
          rw [gst_9 S rfl, hst]; rfl
        have hstep : STEP R0 R S pl R [tk0 9] pl := by
          refine ⟨?_, Nat.le_refl _, Nat.le_add_right _ _, RG.refl R pl, FT.refl R ⟨fun hh => absurd rfl hh.1, trivial⟩⟩
          rw [hgs]
          exact ⟨hS.1, hsk.2, by have := hS.2.2.1; rw [hst, List.length_cons] at this; show st.length ≤ S.1.length; omega, fun j hj => absurd hj (by simp)⟩
        have := go R pl _ r hrt.symm hstep htag'
        rw [hgs] at this; exact this
      rw [if_pos k12]
      have hK9 : ¬ rv R0 143 x = 9 ∧ ¬ rv R0 143 x = 10 := ⟨kok_9 hiz.2.2, hiz.2.2.2⟩
      have vz : ∀ j, 145 ≤ j → j ≤ 149 → rv R j x = rv R0 j x := fun j j1 j2 => gq j (by omega) (by omega) x
      have vn : ∀ j, 145 ≤ j → j ≤ 149 → rvn R j x = rvn R0 j x := fun j j1 j2 => congrArg Int32.toNatClampNeg (vz j j1 j2)
      have hslice : ∀ a n, a + n ≤ pl0 → rsl R a n = rsl R0 a n := fun a n hh => rsl_cong n a (fun i i1 i2 => hG.2.1 i (by omega))
      have hN1 : S.1.length < 1500 ∧ 1 ≤ (rtok R0 x none).length := by
        have : 1 ≤ (rtok R0 x none).length := by
          rw [hrt]
          by_cases k3 : rv R0 143 x = 3
          · rw [if_pos k3]; exact Nat.succ_le_succ (Nat.zero_le _)
          · rw [if_neg k3]
            by_cases k6 : rv R0 143 x = 6 ∨ rv R0 143 x = 7
            · rw [if_pos k6]; exact Nat.le_refl _
            · rw [if_neg k6, if_neg k11, if_neg k12]; exact Nat.le_refl _
        exact ⟨by omega, this⟩
      have born : ∀ (l : List Tok) (nd : Nd) (st' : List Nat), rtok R0 x none = l → rv R0 143 x = nd.1 → (nd.2.1 = hdI S.2.1 ∧ nd.2.2.1 = S.2.1.length + 1) → (rvn R 145 x + rvn R 146 x ≤ pl ∧ rvn R 147 x + rvn R 148 x ≤ pl) → rsl R (rvn R 145 x) (rvn R 146 x) = nd.2.2.2.1 → rsl R (rvn R 147 x) (rvn R 148 x) = nd.2.2.2.2.1 → rv R 149 x = nd.2.2.2.2.2 → gfold l S = (S.1 ++ [nd], st', none) → (st' = if nd.1 < 4 then S.2.1 else S.1.length :: S.2.1) → (gok l S ↔ S.2.1.length < 20) →
          ∃ R' pl', (Option.bind (o_150 R (rv R0 143 x) (hdI S.2.1)) fun u7 => (if inq 145 (nI x) then (if inq 166 u7.1 then (if inq 146 (nI x) then (if inq 167 u7.1 then (if inq 147 (nI x) then (if inq 168 u7.1 then (if inq 148 (nI x) then (if inq 169 u7.1 then (if inq 149 (nI x) then (if inq 170 u7.1 then (olet ((if (rv R0 143 x) ≤ 3 then hdI S.2.1 else u7.1 : Int32) : Int32) fun x21 => (if inq 150 (nI x) then g_152_19 m (zar (zar (zar (zar (zar u7.2 166 u7.1 (zv u7.2 145 (nI x))) 167 u7.1 (zv u7.2 146 (nI x))) 168 u7.1 (zv u7.2 147 (nI x))) 169 u7.1 (zv u7.2 148 (nI x))) 170 u7.1 (zv u7.2 149 (nI x))) x21 (-1) (nI r) (zv u7.2 150 (nI x)) else none)) else none) else none) else none) else none) else none) else none) else none) else none) else none) else none)) = some R' ∧ STEP R0 R S pl R' (rtok R0 x none ++ etk R0 Gs) pl' := by
        intro l nd st' e0 e1 e2 e3 e4 e5 e6 e7 e8 e9
        obtain ⟨R1, R', b1, b2, b3, b4⟩ := step_born (R0 := R0) hS hN1.1 hx8 (by rw [gq 143 (by decide) (by decide)]; exact e1) e2 (fun j j1 j2 => by rw [vz j j1 (by omega), vn j j1 (by omega)]; exact hiz.1 j j1 j2) e3 e4 e5 e6 e7 e8 e9
        rw [e1, b1]
        simp only [Option.bind_some, olet]
        have hiq : ∀ j, zr_alen j = 4000 → inq j (nI S.1.length) := fun j hj => inq_nI (by have := hN1.1; omega) (by have := hN1.1; omega)
        rw [if_pos (hq 145 rfl), if_pos (hiq 166 rfl), if_pos (hq 146 rfl), if_pos (hiq 167 rfl), if_pos (hq 147 rfl), if_pos (hiq 168 rfl), if_pos (hq 148 rfl), if_pos (hiq 169 rfl), if_pos (hq 149 rfl), if_pos (hiq 170 rfl), if_pos (hq 150 rfl), ← b2, b3, gq 150 (by decide) (by decide) x, hnext]
        have := go R' pl l r e0.symm b4 htag'
        rw [e7] at this
        have hst : hdI st' = (if nd.1 ≤ 3 then hdI S.2.1 else nI S.1.length) := by
          rw [e8]
          by_cases c : nd.1 < 4
          · rw [if_pos c, if_pos (lt4.mp c)]
          · rw [if_neg c, if_neg (fun hh => c (lt4.mpr hh))]; rfl
        rw [← hst]; exact this
      by_cases k3 : rv R0 143 x = 3
      · have h67 : ¬ (rv R0 143 x = 6 ∨ rv R0 143 x = 7) := by rw [k3]; decide
        obtain ⟨z7, z8, z9, -⟩ := hiz.2.1 h67
        have hb := hsl' (Or.inl k3)
        have n8 : rvn R 148 x = 0 := by rw [vn 148 (by omega) (by omega)]; unfold rvn; rw [show R0.2.2.1 148 x = 0 from z8]; rfl
        rw [if_pos k3] at hrt
        have hmk : mkn S (tk0 3) := ⟨by show ¬ (3 : Int32) = 9; decide, by show ¬ (3 : Int32) = 10; decide, fun hh => absurd hh.1 (by show ¬ (3 : Int32) = 0; decide)⟩
        have hg1 : gst S (tk0 3) = (S.1 ++ [(3, hdI S.2.1, S.2.1.length + 1, [], [], -1)], S.2.1, some S.1.length) := by
          rw [gst_new hmk]; rfl
        have hcf := code_fold S.1 S.2.1 (rsl R0 (rvn R0 145 x) (rvn R0 146 x)) (3, hdI S.2.1, S.2.1.length + 1, [], [], -1)
        rw [vn 145 (by omega) (by omega), vn 146 (by omega) (by omega), vn 147 (by omega) (by omega), vn 148 (by omega) (by omega)] at born
        rw [vn 148 (by omega) (by omega)] at n8
        refine born _ (3, hdI S.2.1, S.2.1.length + 1, rsl R0 (rvn R0 145 x) (rvn R0 146 x), [], -1) S.2.1 hrt k3 ⟨rfl, rfl⟩ ⟨by omega, by omega⟩ (hslice _ _ (by omega)) (by rw [n8]; rfl) (by rw [vz 149 (by omega) (by omega)]; exact z9) ?_ ?_ ?_
        · rw [gfold, gfold_app, hg1, hcf.1]
          show gst _ (tk0 10) = _
          rw [gst_10 _ rfl, List.nil_append]
        · exact (if_pos (by show (3 : Int32) < 4; decide)).symm
        · rw [gok, gok_app, hg1]
          exact ⟨fun hh => hh.1 hmk, fun hh => ⟨fun _ => hh, hcf.2, by rw [hcf.1]; exact ⟨fun h' => absurd rfl h'.2.1, trivial⟩⟩⟩
      · rw [if_neg k3] at hrt
        by_cases k6 : rv R0 143 x = 6 ∨ rv R0 143 x = 7
        · have hb := hsl' (Or.inr k6)
          rw [if_pos k6] at hrt
          rw [vn 145 (by omega) (by omega), vn 146 (by omega) (by omega), vn 147 (by omega) (by omega), vn 148 (by omega) (by omega)] at born
          obtain ⟨t, ht⟩ : ∃ t : Tok, t = (rv R0 143 x, rv R0 149 x, rsl R0 (rvn R0 145 x) (rvn R0 146 x), rsl R0 (rvn R0 147 x) (rvn R0 148 x)) := ⟨_, rfl⟩
          rw [← ht] at hrt
          have ht1 : t.1 = rv R0 143 x := by rw [ht]
          have hmk : mkn S t := ⟨by rw [ht1]; exact hK9.1, by rw [ht1]; exact hK9.2, fun hh => k0 (ht1 ▸ hh.1)⟩
          refine born [t] (nNd t S.2.1) (S.1.length :: S.2.1) hrt ht1.symm ⟨rfl, rfl⟩ ⟨by omega, by omega⟩ ?_ ?_ ?_ ?_ ?_ ?_
          · rw [hslice _ _ (by omega)]; unfold nNd; dsimp only; rw [if_neg (by rw [ht1]; exact k0), ht]
          · rw [hslice _ _ (by omega)]; unfold nNd; dsimp only; rw [ht]
          · rw [vz 149 (by omega) (by omega)]; unfold nNd; dsimp only; rw [if_pos (by rw [ht1]; exact k6), ht]
          · show gst S t = _
            rw [gst_new hmk, if_neg (by rw [ht1]; rcases k6 with g | g <;> rw [g] <;> decide), if_neg (by rw [ht1]; exact k0), if_neg (by rw [ht1]; exact k3)]
          · exact (if_neg (by show ¬ t.1 < 4; rw [ht1]; rcases k6 with g | g <;> rw [g] <;> decide)).symm
          · exact ⟨fun hh => hh.1 hmk, fun hh => ⟨fun _ => hh, trivial⟩⟩
        · rw [if_neg k6, if_neg k11, if_neg k12] at hrt
          obtain ⟨z7, z8, z9, z56⟩ := hiz.2.1 k6
          obtain ⟨z5, z6⟩ := z56 k3
          have nz : ∀ j, rv R0 j x = 0 → 145 ≤ j → j ≤ 149 → rvn R j x = 0 := fun j h0 j1 j2 => by rw [vn j j1 j2]; unfold rvn; rw [show R0.2.2.1 j x = 0 from h0]; rfl
          have n5 := nz 145 z5 (by omega) (by omega)
          have n6 := nz 146 z6 (by omega) (by omega)
          have n7 := nz 147 z7 (by omega) (by omega)
          have n8 := nz 148 z8 (by omega) (by omega)
          have hmk : mkn S (tk0 (rv R0 143 x)) := ⟨hK9.1, hK9.2, fun hh => k0 hh.1⟩
          refine born [tk0 (rv R0 143 x)] (nNd (tk0 (rv R0 143 x)) S.2.1) (if rv R0 143 x < 4 then S.2.1 else S.1.length :: S.2.1) hrt rfl ⟨rfl, rfl⟩ ⟨by omega, by omega⟩ ?_ ?_ ?_ ?_ rfl ?_
          · rw [n5, n6]; unfold nNd tk0; dsimp only; rw [if_neg k0]; rfl
          · rw [n7, n8]; rfl
          · rw [vz 149 (by omega) (by omega), z9]; unfold nNd tk0; dsimp only; rw [if_neg k6]
          · show gst S (tk0 (rv R0 143 x)) = _
            rw [gst_new hmk]
            show (_, _, (if rv R0 143 x = 0 then some S.1.length else if rv R0 143 x = 3 then some S.1.length else none)) = _
            rw [if_neg k0, if_neg k3]; rfl
          · exact ⟨fun hh => hh.1 hmk, fun hh => ⟨fun _ => hh, trivial⟩⟩
