/-! the mathematics; written by wip/whole/m2parts.py -/
theorem KR_54 (Z : zr_Z) : ∀ C', o_54 Z = some C' → CFR Z C' ∧ (zc C' 2 = 0 → zc C' 3 = -1) := by
  intro C' h
  unfold o_54 at h
  have h1 := KRk_g_54_6 _ _ _ C' h
  have h2 : KR Z (f_25 (f_77 (f_34 Z) 0)) := (((KR.refl Z).trans (KRk_f_34 Z)).trans (KRk_f_77 _ _)).trans (KRk_f_25 _)
  have h3 : f_55 Z = zsc (zsc (f_25 (f_77 (f_34 Z) 0)) 2 0) 3 (-1) := rfl
  refine ⟨⟨h1.1.trans ?_, h1.2.1.trans ?_, h1.2.2.1.trans ?_⟩, fun e => (h1.2.2.2 e).2.trans ?_⟩
  · rw [h3]; exact h2.1
  · rw [h3]; exact h2.2.1
  · rw [h3]; exact h2.2.2.1
  · rw [h3]; exact zc_same _ _ _
def KE (Z Z' : zr_Z) : Prop := RF Z Z' ∧ Z'.2.2.1 138 = Z.2.2.1 138 ∧ Z'.2.2.1 172 = Z.2.2.1 172 ∧ zf Z' 49 = zf Z 49 ∧ (zf Z' 46 = 0 → zf Z' 0 = zf Z 0)
theorem KQ.ke {Z Z' : zr_Z} (h : KQ Z Z') : KE Z Z' := ⟨⟨h.1, h.2.1, h.2.2.1⟩, h.2.2.2.1, h.2.2.2.2.1, h.2.2.2.2.2.1, fun _ => h.2.2.2.2.2.2⟩
theorem KE.of {Z D Z' : zr_Z} (h : KQ Z D) (g : KE D Z') : KE Z Z' := ⟨⟨g.1.1.trans h.1, g.1.2.1.trans h.2.1, g.1.2.2.trans h.2.2.1⟩, g.2.1.trans h.2.2.2.1, g.2.2.1.trans h.2.2.2.2.1, g.2.2.2.1.trans h.2.2.2.2.2.1, fun e => (g.2.2.2.2 e).trans h.2.2.2.2.2.2⟩
theorem KE_end {Z u : zr_Z} (h : KQ Z u) {r : Int32 × zr_Z} (hr : (if (zf u 46) = 0 then some (zf u 45, u) else some (0, zmf (zmf u 45 (-1)) 0 1)) = some r) : KE Z r.2 := by
  by_cases h0 : zf u 46 = 0
  · rw [if_pos h0] at hr; rw [← Option.some.inj hr]; exact h.ke
  · rw [if_neg h0] at hr; rw [← Option.some.inj hr]
    refine ⟨⟨h.1, h.2.1, h.2.2.1⟩, h.2.2.2.1, h.2.2.2.2.1, h.2.2.2.2.2.1, fun e => absurd ?_ h0⟩
    have : zf (zmf (zmf u 45 (-1)) 0 1) 46 = zf u 46 := by rw [zf_other _ _ (by decide), zf_other _ _ (by decide)]
    rw [← this]; exact e
theorem KE_tail {Z : zr_Z} {r : Int32 × zr_Z} (hr : (if ¬ (zf Z 46) = 0 then (if (zf Z 46) = 0 then some (zf Z 45, Z) else some (0, zmf (zmf Z 45 (-1)) 0 1)) else (Option.bind (o_134 Z 0) fun u4 => (Option.bind (o_152 u4) fun u5 => (if (zf u5 46) = 0 then some (zf u5 45, u5) else some (0, zmf (zmf u5 45 (-1)) 0 1))))) = some r) : KE Z r.2 := by
  by_cases h0 : zf Z 46 = 0
  · rw [if_neg (fun hh => hh h0)] at hr
    obtain ⟨u4, h4, hr⟩ := Option.bind_eq_some_iff.mp hr
    obtain ⟨u5, h5, hr⟩ := Option.bind_eq_some_iff.mp hr
    exact KE_end ((KQk_o_134 _ _ u4 h4).trans (KQk_o_152 _ u5 h5)) hr
  · rw [if_pos h0] at hr
    exact KE_end (KQ.refl Z) hr
theorem KE_159 : ∀ (n : Nat) (Z : zr_Z) (x : Int32) (r : Int32 × zr_Z), g_159_54 n Z x = some r → KE Z r.2 := by
  intro n
  induction n with
  | zero => intro Z x r h; unfold g_159_54 at h; exact absurd h (by simp)
  | succ n ih =>
    intro Z x r h
    rw [g_159_54] at h
    by_cases h3 : zf Z 3 ≤ x
    · rw [if_pos h3] at h; exact KE_tail h
    · rw [if_neg h3] at h
      by_cases h0 : zf Z 46 = 0
      · rw [if_neg (fun hh => hh h0)] at h
        obtain ⟨u, hu, h⟩ := Option.bind_eq_some_iff.mp h
        exact KE.of (KQk_o_149 _ _ u hu) (ih _ _ r h)
      · rw [if_pos h0] at h; exact KE_tail h
theorem KE_o159 {R R' : zr_Z} {a : Int32} (h : o_159 R = some (a, R')) : RF R R' ∧ R'.2.2.1 138 = R.2.2.1 138 ∧ R'.2.2.1 172 = R.2.2.1 172 ∧ zf R' 49 = zf R 49 ∧ (zf R' 46 = 0 → zf R' 0 = 0) := by
  unfold o_159 at h
  rw [if_pos (by decide)] at h
  have := KE_159 _ _ _ _ h
  obtain ⟨h1, h2, h3, h4, h5⟩ := this
  refine ⟨⟨h1.1, h1.2.1, h1.2.2⟩, h2.trans ?_, h3.trans ?_, h4.trans ?_, fun e => (h5 e).trans ?_⟩
  · exact mup_oth R.2.2.1 (upd (R.2.2.1 150) (0 : Int32).toNatClampNeg 0) (show ¬ 138 = 150 by decide)
  · exact mup_oth R.2.2.1 (upd (R.2.2.1 150) (0 : Int32).toNatClampNeg 0) (show ¬ 172 = 150 by decide)
  · simp only [zf_zar, zf_other _ _ (show ¬ 49 = 47 by decide), zf_other _ _ (show ¬ 49 = 46 by decide), zf_other _ _ (show ¬ 49 = 36 by decide), zf_other _ _ (show ¬ 49 = 35 by decide), zf_other _ _ (show ¬ 49 = 28 by decide), zf_other _ _ (show ¬ 49 = 21 by decide), zf_other _ _ (show ¬ 49 = 20 by decide), zf_other _ _ (show ¬ 49 = 10 by decide), zf_other _ _ (show ¬ 49 = 0 by decide)]
  · simp only [zf_zar, zf_other _ _ (show ¬ 0 = 47 by decide), zf_other _ _ (show ¬ 0 = 46 by decide), zf_other _ _ (show ¬ 0 = 36 by decide), zf_other _ _ (show ¬ 0 = 35 by decide), zf_other _ _ (show ¬ 0 = 28 by decide), zf_other _ _ (show ¬ 0 = 21 by decide), zf_other _ _ (show ¬ 0 = 20 by decide), zf_other _ _ (show ¬ 0 = 10 by decide), zf_same]
theorem read_rel {C R : zr_Z} (h : REL C R) :
    (∃ a C' R', o_14 C = some (a, C') ∧ o_159 R = some (a, R') ∧ zf R' 0 = 0 ∧ REL C' R' ∧ C'.2.2 = C.2.2 ∧ RF R R') ∨
    (∃ C' R', q_14 C = some C' ∧ o_159 R = some (0, R') ∧ zf R' 0 = 1 ∧ REL C' R' ∧ C'.2.2 = C.2.2 ∧ RF R R') := by
  obtain ⟨⟨T, D, h1⟩, h2, h3, h4, h5⟩ := h
  rcases read_both h1 (KR_54 C) with ⟨C', R', N, pl, a1, a2, a3, a4, a5, a6, a7, a8, a9, a10, a11, a12⟩ | ⟨C', R', a1, a2, a3, a4, a5, a6, a7, a8, a9, a10⟩
  · left
    obtain ⟨k1, k2, k3, k4, k5⟩ := KE_o159 a2
    refine ⟨_, C', R', a1, a2, k5 a10, ⟨⟨T, D, a3⟩, RDY_keep h2 a12.2.1 (fun i => congrFun k2 i), OUTR_keep h3 a12.2.2 (fun i => congrFun k3 i) k4, ⟨N, pl, a4, Or.inl ⟨a8, a5, a7, a6⟩⟩, ⟨a9.trans a10.symm, a11⟩⟩, a12.1, k1⟩
  · right
    obtain ⟨k1, k2, k3, k4, k5⟩ := KE_o159 a2
    exact ⟨C', R', a1, a2, a3, ⟨⟨T, D, a4⟩, RDY_keep h2 a10.2.1 (fun i => congrFun k2 i), OUTR_keep h3 a10.2.2 (fun i => congrFun k3 i) k4, ⟨[], 0, a5, Or.inr ⟨a6, a7, rfl⟩⟩, ⟨a8, a9⟩⟩, a10.1, k1⟩
theorem RF_o157 {R R' : zr_Z} {a : Int32} (h : o_157 R = some (a, R')) : RF R R' := by
  have hq : ∀ {Z Z' : zr_Z}, KQ Z Z' → RF Z Z' := fun h => ⟨h.1, h.2.1, h.2.2.1⟩
  have hst : ∀ {u3 : zr_Z} {x : Int32} {r : Int32 × zr_Z}, RF R u3 → (if inq 140 (zf u3 7) then g_157_91 oF (zar (zmf u3 7 ((zf u3 7) + 1)) 140 (zf u3 7) (zf u3 8)) (zf u3 7) 0 else none) = some r → RF R r.2 := by
    intro u3 x r hu hr
    by_cases hc : inq 140 (zf u3 7)
    · rw [if_pos hc] at hr
      have := KQk_g_157_91 _ _ _ _ r hr
      exact hu.trans ⟨this.1, this.2.1, this.2.2.1⟩
    · rw [if_neg hc] at hr; exact absurd hr (by simp)
  unfold o_157 at h
  obtain ⟨u1, h1, h⟩ := Option.bind_eq_some_iff.mp h
  by_cases hu : u1 = true
  · rw [if_pos hu] at h
    obtain ⟨u3, h3, h⟩ := Option.bind_eq_some_iff.mp h
    obtain ⟨u4, h4, h⟩ := Option.bind_eq_some_iff.mp h
    have r3 : RF R u3 := (RF_0 R 0).trans (hq (KQk_o_123 _ _ _ u3 h3))
    by_cases g1 : u4 = -1
    · rw [if_neg (fun hh => hh g1)] at h
      by_cases g2 : zf u3 7 = 20
      · rw [if_neg (fun hh => hh g2)] at h
        have := Option.some.inj h
        rw [← show _ = R' from (Prod.ext_iff.mp this).2]; exact r3.trans ⟨rfl, rfl, rfl⟩
      · rw [if_pos g2, if_neg (fun hh => hh g1)] at h
        exact hst (x := 0) r3 h
    · rw [if_pos g1, if_pos g1] at h
      have := Option.some.inj h
      rw [← show _ = R' from (Prod.ext_iff.mp this).2]; exact r3.trans ⟨rfl, rfl, rfl⟩
  · rw [if_neg hu] at h
    have := Option.some.inj h
    rw [← show _ = R' from (Prod.ext_iff.mp this).2]; exact ⟨rfl, rfl, rfl⟩
