/-! the mathematics; written by wip/whole/m2parts.py -/
abbrev tok_ok (t : Tok) : Prop := ((0 ≤ t.1 ∧ t.1 ≤ 7) ∨ t.1 = 9 ∨ t.1 = 10) ∧ (¬ (t.1 = 6 ∨ t.1 = 7) → t.2.2 = ([], []))
theorem tkc_ok (c : Int32) : tok_ok (tkc c) := ⟨Or.inl ⟨show (0 : Int32) ≤ 0 by decide, show (0 : Int32) ≤ 7 by decide⟩, fun _ => rfl⟩
theorem rtok_ok {R : zr_Z} {x : Nat} {t : Option Nat} (h : t = none → kok (rv R 143 x)) : ∀ k ∈ rtok R x t, tok_ok k := by
  intro k hk
  cases t with
  | some r => rw [(List.mem_replicate.mp hk).2]; exact tkc_ok _
  | none =>
    have hx := h rfl
    rw [rtok_eq] at hk
    by_cases h0 : rv R 143 x = 0
    · rw [if_pos h0, List.mem_singleton] at hk; rw [hk]; exact tkc_ok _
    rw [if_neg h0] at hk
    by_cases h3 : rv R 143 x = 3
    · rw [if_pos h3] at hk
      rcases List.mem_cons.mp hk with g | g
      · rw [g]; exact ⟨Or.inl ⟨by decide, by decide⟩, fun _ => rfl⟩
      · rcases List.mem_append.mp g with g | g
        · obtain ⟨c, -, rfl⟩ := List.mem_map.mp g; exact tkc_ok c
        · rw [List.mem_singleton] at g; rw [g]; exact ⟨Or.inr (Or.inr rfl), fun _ => rfl⟩
    rw [if_neg h3] at hk
    by_cases h67 : rv R 143 x = 6 ∨ rv R 143 x = 7
    · rw [if_pos h67, List.mem_singleton] at hk
      rw [hk]; refine ⟨Or.inl ?_, fun hh => absurd h67 hh⟩; dsimp only
      rcases h67 with g | g <;> rw [g] <;> exact ⟨by decide, by decide⟩
    rw [if_neg h67] at hk
    by_cases h11 : rv R 143 x = 11
    · rw [if_pos h11] at hk
      rcases List.mem_append.mp hk with g | g
      · by_cases h1 : rv R 144 x = 1
        · rw [if_pos h1, List.mem_singleton] at g; rw [g]; exact tkc_ok _
        · rw [if_neg h1] at g; exact absurd g (by simp)
      · rw [List.mem_singleton] at g; rw [g]; exact tkc_ok _
    rw [if_neg h11] at hk
    by_cases h12 : rv R 143 x = 12
    · rw [if_pos h12, List.mem_singleton] at hk; rw [hk]; exact ⟨Or.inr (Or.inl rfl), fun _ => rfl⟩
    rw [if_neg h12, List.mem_singleton] at hk
    rw [hk]
    refine ⟨?_, fun _ => rfl⟩
    rcases hx.1 with g | g | g
    · exact Or.inl g
    · exact absurd g h11
    · exact absurd g h12
theorem etk_ok {R : zr_Z} : ∀ G : List Ent, IZ R G → ∀ k ∈ etk R G, tok_ok k := by
  intro G
  induction G with
  | nil => intro _ k hk; exact absurd hk (by simp [etk])
  | cons en G ih =>
    intro h k hk
    rw [etk] at hk
    rcases List.mem_append.mp hk with g | g
    · exact rtok_ok (fun ht => (h en (List.mem_cons_self ..) ht).2.2) k g
    · exact ih (fun e he => h e (List.mem_cons_of_mem _ he)) k g
theorem ows_tkl : ∀ l : List Tok, (∀ k ∈ l, ∃ c, k = tkc c) → ows l ≤ 6 * l.length := by
  intro l
  induction l with
  | nil => intro _; exact Nat.zero_le _
  | cons t l ih =>
    intro h
    obtain ⟨c, rfl⟩ := h t (List.mem_cons_self ..)
    have := ih (fun k hk => h k (List.mem_cons_of_mem _ hk))
    have hc := (cst_le c).1
    have : ows (tkc c :: l) = cst c + ows l := by
      unfold ows; rw [List.map_cons, List.sum_cons]; rfl
    rw [List.length_cons]; omega
theorem ew_ge {C R : zr_Z} {T : List Int32} {en : Ent} (h : ctk C T en.2.1 (en.2.2.1 - en.2.1) = rtok R en.1 en.2.2.2) : ows (rtok R en.1 en.2.2.2) ≤ ew R en := by
  unfold ew
  have hlen := ctk_len C T (en.2.2.1 - en.2.1) en.2.1
  rw [h] at hlen
  by_cases hc : en.2.2.2 = none ∧ ¬ rv R 143 en.1 = 11
  · rw [if_pos hc, hc.1]; exact Nat.le_refl _
  · rw [if_neg hc]
    have : ows (rtok R en.1 en.2.2.2) ≤ 6 * (rtok R en.1 en.2.2.2).length := by
      apply ows_tkl
      intro k hk
      cases ht : en.2.2.2 with
      | some r => rw [ht] at hk; exact ⟨_, (List.mem_replicate.mp hk).2⟩
      | none =>
        have h11 : rv R 143 en.1 = 11 := Decidable.byContradiction fun hh => hc ⟨ht, hh⟩
        rw [ht, rtok_eq, h11, if_neg (by decide), if_neg (by decide), if_neg (by decide), if_pos rfl] at hk
        rcases List.mem_append.mp hk with g | g
        · by_cases h1 : rv R 144 en.1 = 1
          · rw [if_pos h1, List.mem_singleton] at g; exact ⟨_, g⟩
          · rw [if_neg h1] at g; exact absurd g (by simp)
        · rw [List.mem_singleton] at g; exact ⟨_, g⟩
    omega
theorem etk_ows {C R : zr_Z} {T : List Int32} : ∀ (G : List Ent) a b, SG C R T a G b → ows (etk R G) ≤ sumE (ew R) G := by
  intro G
  induction G with
  | nil => intro a b _; exact Nat.le_refl _
  | cons en G ih =>
    intro a b h
    rw [etk, ows_app, sumE_cons]
    have h1 := ih _ _ h.2.2.2
    have h2 := ew_ge (en := en) (C := C) (R := R) (T := T) (by have := h.2.2.1; rw [← h.1] at this; exact this)
    omega
theorem etk_lws (R : zr_Z) : ∀ (G : List Ent), lws (etk R G) = sumE (fun en => lws (rtok R en.1 en.2.2.2)) G := by
  intro G
  induction G with
  | nil => rfl
  | cons en G ih => rw [etk, lws_app, sumE_cons, ih]
theorem nodup_lt : ∀ (n : Nat) (l : List Nat), l.Nodup → (∀ x ∈ l, x < n) → l.length ≤ n := by
  intro n
  induction n with
  | zero =>
    intro l _ h
    cases l with
    | nil => exact Nat.le_refl _
    | cons a l => exact absurd (h a (List.mem_cons_self ..)) (by omega)
  | succ n ih =>
    intro l hl h
    by_cases hm : n ∈ l
    · have h1 := ih (l.erase n) (hl.erase n) (fun x hx => by
        have h2 := (hl.mem_erase_iff).mp hx
        have := h x h2.2
        have := h2.1
        omega)
      rw [List.length_erase_of_mem hm] at h1; omega
    · have := ih l hl (fun x hx => by
        have := h x hx
        have : ¬ x = n := fun hh => hm (hh ▸ hx)
        omega)
      omega
abbrev S0 : GS := ([], [], none)
theorem row_cut0 (l : List Int32) : rcut l 0 = [] := by
  unfold rcut; rw [if_neg (by decide)]; rfl
theorem c43 (C : zr_Z) : (∀ id ∈ 131 :: nrows, (f_43 C).1 id = []) ∧ (∀ id, (id < 115 ∨ 131 < id) → (f_43 C).1 id = C.1 id) ∧ (∀ j, ¬ j = 5 → zc (f_43 C) j = zc C j) ∧ zc (f_43 C) 5 = 0 ∧ (f_43 C).2.2 = C.2.2 := by
  unfold f_43 zcut zsc zc
  dsimp only
  refine ⟨fun id hid => ?_, fun id hid => ?_, fun j hj => mup_oth _ _ hj, mup_same _ _ _, rfl⟩
  · have : id = 131 ∨ id = 115 ∨ id = 117 ∨ id = 119 ∨ id = 121 ∨ id = 123 ∨ id = 125 ∨ id = 127 ∨ id = 129 := by
      simpa [nrows] using hid
    rcases this with g | g | g | g | g | g | g | g | g <;> rw [g] <;> (unfold va_up; simp [row_cut0])
  · rw [mup_oth _ _ (by omega), mup_oth _ _ (by omega), mup_oth _ _ (by omega), mup_oth _ _ (by omega), mup_oth _ _ (by omega), mup_oth _ _ (by omega), mup_oth _ _ (by omega), mup_oth _ _ (by omega), mup_oth _ _ (by omega)]
theorem ctok_rows {C C0 : zr_Z} {T : List Int32} (hr : ∀ id, id < 115 → C0.1 id = C.1 id) (q : Nat) : ctok C0 T q = ctok C T q := by
  have hlo : ∀ id i, id < 115 → ldq C0 id i = ldq C id i := fun id i hid => by rw [ldq_eq, ldq_eq, hr id hid]
  have hkd : kd C0 q = kd C q := by unfold kd; rw [hr 66 (by decide)]
  have hvl : vl C0 q = vl C q := by unfold vl; rw [hr 68 (by decide)]
  rw [ctok_eq, ctok_eq]; unfold ldT ldU
  rw [hkd, hvl, hlo 72 _ (by decide), hlo 70 _ (by decide), hlo 74 _ (by decide), hlo 76 _ (by decide), hlo 78 _ (by decide), hlo 80 _ (by decide)]
theorem IL_rows {C C0 : zr_Z} {T : List Int32} {k nl : Nat} (h : IL C T k nl) (hr : ∀ id, id < 115 → C0.1 id = C.1 id) : IL C0 T k nl := by
  have hlo : ∀ id i, id < 115 → ldq C0 id i = ldq C id i := fun id i hid => by rw [ldq_eq, ldq_eq, hr id hid]
  obtain ⟨h1, h2, h3, h4⟩ := h
  refine ⟨fun id hid => by rw [hr id (by revert hid; revert id; decide)]; exact h1 id hid, h2, fun i hi => ?_, fun q hq => ?_⟩
  · have := h3 i hi
    unfold LD1 at this ⊢
    rw [hlo 70 _ (by decide), hlo 74 _ (by decide), hlo 76 _ (by decide), hlo 78 _ (by decide), hlo 80 _ (by decide)]; exact this
  · have hkd : kd C0 q = kd C q := by unfold kd; rw [hr 66 (by decide)]
    have hvl : vl C0 q = vl C q := by unfold vl; rw [hr 68 (by decide)]
    rw [hkd] at hq; rw [hvl]; exact h4 q hq
section
variable {C R : zr_Z} {T : List Int32} {D : List (List Int32)} {G : List Ent} {rc nl pl it : Nat}
theorem rdn_tok (h : RDN C R T D G rc nl pl it) : ctk C T 0 T.length = etk R G ∧ (etk R G).length ≤ 1500 ∧ lws (etk R G) ≤ 3900 ∧ ows (etk R G) ≤ 18000 ∧ ∀ t ∈ etk R G, tok_ok t := by
  obtain ⟨hIT, hIS, hIR, hIL, hIP, hIW⟩ := h
  have hl := hIT.2.2.1.1
  have e : ctk C T 0 T.length = etk R G := by have := SG_etk G 0 T.length hIS.2.2.2.2.1; rwa [Nat.sub_zero] at this
  refine ⟨e, ?_, ?_, ?_, etk_ok G hIW.2.2.2⟩
  · have := ctk_len C T T.length 0; rw [e] at this; omega
  · rw [etk_lws]; have := hIW.1; omega
  · have := etk_ows G 0 _ hIS.2.2.2.2.1; have := hIW.2.1; omega
theorem made_class (h : RDN C R T D G rc nl pl it) {C0 : zr_Z} (hr : ∀ id, (id < 115 ∨ 131 < id) → C0.1 id = C.1 id) (hn : ∀ id ∈ 131 :: nrows, C0.1 id = []) :
    (gok (etk R G) S0 ∧ ∃ C', g_46_15 oF C0 (-1) (-1) 0 = some (true, C') ∧ CN C' (gfold (etk R G) S0).1 ∧ NK C0 C') ∨ (¬ gok (etk R G) S0 ∧ ∃ C', g_46_15 oF C0 (-1) (-1) 0 = some (false, C') ∧ NK C0 C') := by
  obtain ⟨e, e1, e2, e3, e4⟩ := rdn_tok h
  obtain ⟨hIT, hIS, hIR, hIL, hIP, hIW⟩ := h
  have hl := hIT.2.2.1.1
  have e0 : ctk C0 T 0 T.length = etk R G := by rw [← e]; exact ctk_cong _ _ (fun p _ _ => ctok_rows (fun id hid => hr id (Or.inl hid)) p)
  have h131 : C0.1 131 = [] := hn 131 (by simp)
  have hCS : CS C0 S0 := by
    refine ⟨⟨fun id hid => by rw [hn id (List.mem_cons_of_mem _ hid)]; rfl, by decide, by rw [h131]; decide, fun k nd hk => absurd hk (by simp)⟩, trivial, fun i hi => absurd hi (by simp)⟩
  have := build_loop (C0 := C0) ((hr 61 (by omega)).trans hIT.1) hIT.2.2.1 (IL_rows hIL (fun id hid => hr id (Or.inl hid))) (by rw [hr 66 (by omega)]; exact hIS.1) T.length 0 C0 S0 oF (by omega) (by unfold oF; omega) (NK.refl C0) hCS (by decide) (by show 0 + T.length ≤ 1500; omega) (by rw [h131, e0]; show 0 + _ ≤ 3900; omega)
  rw [e0, nI_0] at this
  exact this
theorem hd0_zv (h : chn R 0 (G.map (fun en => en.1))) : zv R 150 0 = hd0 (G.map (fun en => en.1)) := chn_hd0 h
theorem made_ref (h : RDN C R T D G rc nl pl it) : ∃ R' pl', o_152 R = some R' ∧ RS R' (gfold (etk R G) S0) pl' ∧ pl' ≤ 4500 ∧ RG (zmf R 45 0) R' pl ∧ FT (zmf R 45 0) R' (gok (etk R G) S0) := by
  obtain ⟨e, e1, e2, e3, e4⟩ := rdn_tok h
  obtain ⟨hIT, hIS, hIR, hIL, hIP, hIW⟩ := h
  obtain ⟨s1, s2, s3, s4, s5, s6, s7, s8, s9, s10⟩ := hIS
  have hl := hIT.2.2.1.1
  have hpl : pl ≤ 3000 := by have := hIP.2.1; omega
  have hit : it ≤ 3000 := by omega
  have hrt : ∀ en : Ent, rtok (zmf R 45 0) en.1 en.2.2.2 = rtok R en.1 en.2.2.2 := fun en => rtok_all (fun j _ i => rfl)
  have het : ∀ G : List Ent, etk (zmf R 45 0) G = etk R G := by
    intro G
    induction G with
    | nil => rfl
    | cons en G ih => rw [etk, etk, ih, hrt]
  have hRS : RS (zmf R 45 0) S0 pl := by
    refine ⟨⟨by rw [zf_same]; rfl, by rw [zf_other _ _ (by decide)]; exact hIP.1, fun k nd hk => absurd hk (by simp)⟩, trivial, by decide, fun i hi => absurd hi (by simp)⟩
  have hch : chn (zmf R 45 0) 0 (G.map (fun en => en.1)) := chn_cong _ _ s6 (fun _ _ => rfl) (fun _ _ => rfl) (zf_other _ _ (by decide))
  obtain ⟨R', pl', g1, g2⟩ := gather_loop (R0 := zmf R 45 0) (pl0 := pl) G (zmf R 45 0) S0 pl 0 oF 0 (by
      have hlen : G.length ≤ it := by
        have := nodup_lt (it + 1) _ s7 (fun x hx => by
          rcases List.mem_cons.mp hx with g | g
          · omega
          · obtain ⟨en, hen, rfl⟩ := List.mem_map.mp g
            have := s9 en hen
            omega)
        rw [List.length_cons, List.length_map] at this; omega
      unfold oF; omega) (RG.refl _ _) (Nat.le_refl _) hch hRS (by rw [het]; show 0 + _ ≤ 1500; omega) (by rw [het]; omega)
    (fun en hen => by
      have h0 : ¬ en.1 = 0 := fun hh => (List.nodup_cons.mp s7).1 (by rw [← hh]; exact List.mem_map.mpr ⟨en, hen, rfl⟩)
      have := s9 en hen
      omega) (IZ_cong hIW.2.2.2 (fun _ _ _ _ _ => rfl)) (fun en hen ht hk => hIP.2.2.1 en hen ht hk) ⟨rc, by have := hIR.1; omega, by rw [← List.range_eq_range']; exact hIR.2.2.1⟩
    (fun x a ee t hm => ⟨(hIR.2.2.2 x a ee t hm).1, ee - a, by have := (SG_mem _ _ _ s5 _ hm).2.2; dsimp only at this; omega, (hIR.2.2.2 x a ee t hm).2⟩)
    (fun A B hAB => by rw [sumE_cong (g := ecl R) A (fun en _ => ecl_c (hrt en)), sumE_cong (g := eop R) A (fun en _ => eop_c (hrt en))]; exact hIW.2.2.1.1 A B hAB)
  have hs := g2
  rw [het] at hs
  refine ⟨R', pl', ?_, hs.1, by have := hs.2.2.1; omega, hs.2.2.2.1, hs.2.2.2.2⟩
  unfold o_152
  rw [if_pos (by decide), hd0_zv s6]
  rw [nI_0] at g1; exact g1
end
