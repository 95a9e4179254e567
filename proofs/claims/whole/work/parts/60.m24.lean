/-! the mathematics; written by wip/whole/m2parts.py -/
theorem spaces_ex (T : List Int32) : ∀ k, ∃ n, n ≤ k ∧ (∀ j, k - n ≤ j → j < k → mA T j = 32) ∧ (n = k ∨ (n < k ∧ ¬ mA T (k - n - 1) = 32)) := by
  intro k
  have : ∀ d n, n + d = k → (∀ j, k - n ≤ j → j < k → mA T j = 32) → ∃ n, n ≤ k ∧ (∀ j, k - n ≤ j → j < k → mA T j = 32) ∧ (n = k ∨ (n < k ∧ ¬ mA T (k - n - 1) = 32)) := by
    intro d
    induction d with
    | zero => intro n hn h; exact ⟨n, by omega, h, Or.inl (by omega)⟩
    | succ d ih =>
      intro n hn h
      by_cases hc : mA T (k - n - 1) = 32
      · exact ih (n + 1) (by omega) (fun j h1 h2 => by
          by_cases e : j = k - n - 1
          · rw [e]; exact hc
          · exact h j (by omega) h2)
      · exact ⟨n, by omega, h, Or.inr ⟨by omega, hc⟩⟩
  exact this k 0 (by omega) (fun j h1 h2 => by omega)
theorem SG_ones {C R : zr_Z} {T : List Int32} : ∀ (l : List Ent) a b, SG C R T a l b → (∀ en ∈ l, en.2.2.1 = en.2.1 + 1) → a + l.length = b := by
  intro l
  induction l with
  | nil => intro a b h _; exact h
  | cons en l ih =>
    intro a b h hl
    have := ih _ _ h.2.2.2 (fun en hen => hl en (List.mem_cons_of_mem _ hen))
    have h1 := hl en (List.mem_cons_self ..)
    have h2 := h.1
    rw [List.length_cons]; omega
theorem drop_loop {R : zr_Z} {T : List Int32} (hR : mR R T) (hT : gT T) (k n : Nat) (hn : n ≤ 1500) : ∀ (Gs G' : List Nat) (R1 : zr_Z) i m, i + Gs.length = n → Gs.length < m → (0 :: (G' ++ Gs)).Nodup → (∀ v ∈ G' ++ Gs, v < 8000) → chn R1 0 (G' ++ Gs) → (∀ j, ¬ j = 150 → ∀ i, rv R1 j i = rv R j i) → (∀ f, ¬ f = 21 → zf R1 f = zf R f) →
    ∃ R0, chn R0 0 G' ∧ (∀ j, ¬ j = 150 → ∀ i, rv R0 j i = rv R j i) ∧ (∀ f, ¬ f = 21 → zf R0 f = zf R f) ∧ g_147_24 m R1 (nI k) (nI n) (nI i) = g_147_24 1 R0 (nI k) (nI n) (nI n) := by
  intro Gs
  induction hlen : Gs.length generalizing Gs with
  | zero =>
    intro G' R1 i m hi hm hnd hlt hch h1 h2
    obtain ⟨m, rfl⟩ : ∃ z, m = z + 1 := ⟨m - 1, by omega⟩
    have : Gs = [] := List.length_eq_zero_iff.mp hlen
    subst this
    rw [List.append_nil] at hch
    obtain rfl : i = n := by omega
    refine ⟨R1, hch, h1, h2, ?_⟩
    rw [g_147_24, g_147_24, if_pos (Int32.le_refl _), if_pos (Int32.le_refl _)]
  | succ d ih =>
    intro G' R1 i m hi hm hnd hlt hch h1 h2
    obtain ⟨m, rfl⟩ : ∃ z, m = z + 1 := ⟨m - 1, by omega⟩
    obtain ⟨Gs', x, rfl⟩ : ∃ Gs' x, Gs = Gs' ++ [x] := by
      have hne : Gs ≠ [] := by intro h; rw [h] at hlen; exact absurd hlen (by simp)
      exact ⟨Gs.dropLast, Gs.getLast hne, (List.dropLast_concat_getLast hne).symm⟩
    have hR1 : mR R1 T := ⟨(h2 3 (by decide)).trans hR.1, fun i hi => (h1 137 (by decide) i).trans (hR.2 i hi)⟩
    have hlen' : Gs'.length = d := by simpa using hlen
    rw [← List.append_assoc] at hnd hlt hch
    have hlast := chn_last _ _ hch
    rw [lastOf_app] at hlast
    have hx : x < 8000 := hlt x (by simp)
    have hah := chn_ahead _ _ _ _ hch
    have hpm := lastOf_mem (G' ++ Gs') 0
    have hp : lastOf 0 (G' ++ Gs') < 8000 := by
      rcases List.mem_cons.mp hpm with h | h
      · omega
      · exact hlt _ (List.mem_append_left _ h)
    have hq : ∀ j i, zr_alen j = 8000 → i < 8000 → inq j (nI i) := fun j i hj hi => inq_nI (by omega) (by omega)
    have ho : o_129 R1 = some (zar (zmf R1 21 (nI (lastOf 0 (G' ++ Gs')))) 150 (nI (lastOf 0 (G' ++ Gs'))) 0) := by
      unfold o_129
      rw [hlast.1, if_pos (hq 151 x rfl hx), zv_nI _ _ (by omega), hah, if_pos (hq 150 _ rfl hp)]
    have hch' : chn (zar (zmf R1 21 (nI (lastOf 0 (G' ++ Gs')))) 150 (nI (lastOf 0 (G' ++ Gs'))) 0) 0 (G' ++ Gs') := by
      refine chn_drop (G' ++ Gs') 0 x hnd hch (fun v => ?_) (fun v => ?_) ?_
      · rw [rv_at _ _ _ (by omega), rv_zmf]
      · rw [rv_oth _ _ _ (by decide), rv_zmf]
      · rw [zf_zar]; exact zf_same _ _ _
    have hs0 : ∀ f, ¬ f = 21 → zf (zar (zmf R1 21 (nI (lastOf 0 (G' ++ Gs')))) 150 (nI (lastOf 0 (G' ++ Gs'))) 0) f = zf R f := fun f hf => by rw [zf_zar, zf_other _ _ hf]; exact h2 f hf
    have ha0 : ∀ j, ¬ j = 150 → ∀ i, rv (zar (zmf R1 21 (nI (lastOf 0 (G' ++ Gs')))) 150 (nI (lastOf 0 (G' ++ Gs'))) 0) j i = rv R j i := fun j hj i => by rw [rv_oth _ _ _ hj, rv_zmf]; exact h1 j hj i
    have hnd' : (0 :: (G' ++ Gs')).Nodup := by
      rw [← List.cons_append] at hnd
      exact (List.nodup_append.mp hnd).1
    obtain ⟨R0, g1, g2, g3, g4⟩ := ih Gs' hlen' G' _ (i + 1) m (by omega) (by omega) hnd' (fun v hv => hlt v (List.mem_append_left _ hv)) hch' ha0 hs0
    refine ⟨R0, g1, g2, g3, ?_⟩
    rw [← g4, g_147_24, if_pos (hR1.sk hT), if_neg (by rw [nI_leI (by omega) (by omega)]; omega), ho]
    simp only [Option.bind_some]
    have : mR (zar (zmf R1 21 (nI (lastOf 0 (G' ++ Gs')))) 150 (nI (lastOf 0 (G' ++ Gs'))) 0) T := ⟨(hs0 3 (by decide)).trans hR.1, fun i hi => (ha0 137 (by decide) i).trans (hR.2 i hi)⟩
    rw [if_pos (this.sk hT), nI_1]
section
variable {C R : zr_Z} {T : List Int32} {D : List (List Int32)} {k : Nat} {G : List Ent} {live : List Nat} {rc : Nat} {bs : List (Nat × Nat × Nat × Nat)} {nl pl it : Nat}
theorem part_line (h : INV C R T D k G live rc bs nl pl it) (hk : k < T.length) (h2 : zc C 2 = 0) (f2 : zc C 2 = zf R 46) (f3 : zc C 3 = zf R 47) (hc : mA T k = 10) : PARTOK C R T D k := by
  have hT := h.1.2.2.1
  have hl := hT.1
  have hmC := h.1.1
  have hmR := h.1.2.1
  have hS := h.sok
  obtain ⟨s1, s2, s3, s4, s5, s6, s7, s8, s9, s10⟩ := h.2.1
  obtain ⟨n, n1, n2, n3⟩ := spaces_ex T k
  obtain ⟨G', Gs, g1, g2, g3⟩ := h.ix n n1 n2
  have cls : ∀ n, g_54_6 (n + 1) C (nI k) = g_54_6 n (f_56 C (nI k)) (nI (k + 1)) := by
    intro n; rw [cs_in hmC hT hk h2, if_pos hc]
  have rfs : o_149 R (nI k) = (Option.bind (o_147 R (nI k)) fun u2 => (if sok u2.2 then some (u2.1, u2.2) else none)) := by
    rw [rs_in hmR hT hk, if_pos hc]
  have hcl : f_56 C (nI k) = zput (f_35 C (nI (k - n)) (nI k)) 66 (nI k) (if n < 2 then 1 else 2) := by
    have loop : ∀ d i m, i + d = n → d + (k - n) < m → g_56_2 m C (nI k) (nI (k - i)) = zput (f_35 C (nI (k - n)) (nI k)) 66 (nI k) (if n < 2 then 1 else 2) := by
      intro d
      induction d with
      | zero =>
        intro i m hi hm
        obtain ⟨m, rfl⟩ : ∃ z, m = z + 1 := ⟨m - 1, by omega⟩
        obtain rfl : i = n := by omega
        have hsub : (nI k - nI (k - i) < 2) ↔ i < 2 := by
          rw [pk_sub (by omega), show k - (k - i) = i by omega]; exact nI_ltI (b := 2) (by omega) (by omega)
        have hif : (if nI k - nI (k - i) < 2 then 1 else 2 : Int32) = if i < 2 then 1 else 2 := by
          by_cases e : i < 2
          · rw [if_pos e, if_pos (hsub.mpr e)]
          · rw [if_neg e, if_neg (fun h => e (hsub.mp h))]
        rw [g_56_2, hif]
        rcases n3 with h3 | ⟨h3, h4⟩
        · rw [if_pos (by rw [← nI_0, nI_leI (by omega) (by omega)]; omega)]
        · rw [if_neg (by rw [← nI_0, nI_leI (by omega) (by omega)]; omega), nI_sub1 (by omega), hmC.at (by omega), if_pos h4]
      | succ d ih =>
        intro i m hi hm
        obtain ⟨m, rfl⟩ : ∃ z, m = z + 1 := ⟨m - 1, by omega⟩
        rw [g_56_2, if_neg (by rw [← nI_0, nI_leI (by omega) (by omega)]; omega), nI_sub1 (by omega), hmC.at (by omega), if_neg (fun hh => hh (n2 (k - i - 1) (by omega) (by omega)))]
        have : nI (k - i) + -1 = nI (k - (i + 1)) := by
          rw [show k - i = (k - (i + 1)) + 1 by omega, pk_m1]
        rw [this]; exact ih (i + 1) m (by omega) (by omega)
    unfold f_56
    rw [nI_toInt (by omega)]
    have := loop n 0 (((k : Int)).toNat + 1) (by omega) (by omega)
    rw [Nat.sub_zero] at this
    exact this
  have hcount : ∀ d i m, i + d = n → d < m → g_147_2 m R (nI k) (nI i) = g_147_24 oF R (nI k) (nI n) 0 := by
    intro d
    have hra : ∀ i, i < k → ra R (nI k - 1 - nI i) = mA T (k - i - 1) := by
      intro i hi
      rw [nI_sub1 (by omega), pk_sub (by omega), hmR.at hT (by omega), show k - 1 - i = k - i - 1 by omega]
    induction d with
    | zero =>
      intro i m hi hm
      obtain ⟨m, rfl⟩ : ∃ z, m = z + 1 := ⟨m - 1, by omega⟩
      obtain rfl : i = n := by omega
      have hne : ¬ ra R (nI k - 1 - nI i) = 32 := by
        rcases n3 with h3 | ⟨h3, h4⟩
        · have : nI k - 1 - nI i < 0 := by
            rw [Int32.lt_iff_toInt_lt, h3]
            have e : nI k - 1 - nI k = -1 := by
              have e0 : nI k + -nI k = 0 := by rw [← Int32.sub_eq_add_neg, Int32.sub_self]
              rw [Int32.sub_eq_add_neg, Int32.sub_eq_add_neg, Int32.add_assoc, Int32.add_comm (-1), ← Int32.add_assoc, e0, Int32.zero_add]
            rw [e]; decide
          unfold ra; rw [if_pos this]; decide
        · rw [hra i h3]; exact h4
      rw [g_147_2, if_pos hS, if_pos hne]
    | succ d ih =>
      intro i m hi hm
      obtain ⟨m, rfl⟩ : ∃ z, m = z + 1 := ⟨m - 1, by omega⟩
      rw [g_147_2, if_pos hS, hra i (by omega), if_neg (fun hh => hh (n2 (k - i - 1) (by omega) (by omega))), nI_1]
      exact ih (i + 1) m (by omega) (by omega)
  rw [g1] at s5
  obtain ⟨k0, sg1, sg2⟩ := (SG_app _ _ _ _).mp s5
  have hk0 := SG_ones Gs k0 k sg2 (fun en hen => (g3 en hen).2.1)
  obtain rfl : k0 = k - n := by omega
  obtain ⟨R0, d1, d2, d3, d4⟩ := drop_loop hmR hT k n (by omega) (Gs.map (fun en => en.1)) (G'.map (fun en => en.1)) R 0 oF (by rw [List.length_map]; omega) (by rw [List.length_map]; unfold oF; omega) (by rw [← List.map_append, ← g1]; exact s7) (fun v hv => by
    rw [← List.map_append, ← g1] at hv
    obtain ⟨en, hen, rfl⟩ := List.mem_map.mp hv
    have := s9 en hen; omega) (by rw [← List.map_append, ← g1]; exact s6) (fun _ _ _ => rfl) (fun _ _ => rfl)
  rw [nI_0] at d4
  have hR0 : mR R0 T := ⟨(d3 3 (by decide)).trans hmR.1, fun i hi => (d2 137 (by decide) i).trans (hmR.2 i hi)⟩
  obtain ⟨e1, e2, e3⟩ := erase (C := C) (a := k - n) (b := k) (by omega) (by omega) (by omega)
  obtain ⟨p1, p2, p3⟩ := put66 (C := f_35 C (nI (k - n)) (nI k)) (p := k) (by rw [e1.2.2.1]; omega) (by rw [e1.2.2.1]; omega) (if n < 2 then 1 else 2)
  rw [← hcl] at p1 p2 p3
  generalize hC' : f_56 C (nI k) = C' at *
  have hkeep := e1.trans p1
  have hw12 : (if n < 2 then 1 else 2 : Int32) = 1 ∨ (if n < 2 then 1 else 2 : Int32) = 2 := by
    by_cases e : n < 2
    · exact Or.inl (if_pos e)
    · exact Or.inr (if_neg e)
  generalize hwh : (if n < 2 then 1 else 2 : Int32) = wh at *
  have kdk : kd C' k = wh := by rw [p2, if_pos rfl]
  have kdo : ∀ q, k - n ≤ q → q < k → kd C' q = 8 := fun q a b => by rw [p2, if_neg (by omega), e2, if_pos ⟨a, b⟩]
  have hrtk : rtk0 wh 0 = [tk0 wh] := by rcases hw12 with h | h <;> rw [h] <;> rfl
  obtain ⟨R', q1, q2, q3, -⟩ := inv_item (C' := C') (k' := k + 1) (wh := wh) (le := 0) h.z h.ov h.bl (by omega) g1 (fun en hen => ⟨(g3 en hen).1, (g3 en hen).2.2.1⟩) sg1 (by omega) (by omega) (by omega) hkeep.ck2 ⟨fun j j1 _ i => d2 j j1 i, d3⟩ d1 (fun q hq => ⟨by rw [p2, if_neg (by omega), e2, if_neg (by omega)], by rw [p3, e3]⟩) (fun q a b => by
    by_cases e : q = k
    · rw [e, kdk]; rcases hw12 with h | h <;> rw [h] <;> decide
    · rw [kdo q a (by omega)]; decide) (by rcases hw12 with h | h <;> rw [h] <;> decide) (by
    rw [show k + 1 - (k - n) = n + 1 by omega, ctk_add, ctk_gone n (k - n) (fun q a b => kdo q a (by omega)), show k - n + n = k by omega, ctk_one, hrtk]
    unfold ctok; rw [kdk]; rcases hw12 with h | h <;> rw [h] <;> rfl) (by rw [hrtk]; rcases hw12 with h | h <;> rw [h] <;> (show 5 * 0 ≤ _; omega)) (Or.inr ⟨by rcases hw12 with h | h <;> rw [h] <;> decide, by rw [hrtk, show k + 1 - k = 1 by omega]; rcases hw12 with h | h <;> rw [h] <;> decide⟩) (Or.inl (by rw [show k + 1 - 1 = k by omega, hc]; decide)) (hwb := Or.inl (by rcases hw12 with h | h <;> rw [h] <;> exact ⟨by decide, by decide⟩)) (hw9 := by rcases hw12 with h | h <;> rw [h] <;> exact ⟨by decide, by decide⟩)
  refine ⟨C', R', k + 1, _, _, _, _, _, _, _, fun n => cls n, ?_, by omega, q2, ?_, ?_⟩
  · rw [rfs]
    unfold o_147
    have := hcount n 0 oF (by omega) (by unfold oF; omega)
    rw [nI_0] at this
    rw [if_pos hS, this, d4, g_147_24, if_pos (hR0.sk hT), if_pos (Int32.le_refl _)]
    have hif : (if nI n ≤ 1 then 1 else 2 : Int32) = wh := by
      rw [← hwh]
      have : nI n ≤ 1 ↔ n < 2 := by rw [show (1 : Int32) = nI 1 from rfl, nI_leI (by omega) (by omega)]; omega
      by_cases e : n < 2
      · rw [if_pos e, if_pos (this.mpr e)]
      · rw [if_neg e, if_neg (fun h => e (this.mp h))]
    rw [hif, q1]; simp only [Option.bind_some, if_pos q2.sok, nI_1]
  · rw [q3 46 (by decide) (by decide), ← f2]; unfold zc; rw [hkeep.2.1]
  · rw [q3 47 (by decide) (by decide), ← f3]; unfold zc; rw [hkeep.2.1]
end
