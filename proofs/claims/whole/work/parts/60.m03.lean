/-! the mathematics; written by wip/whole/m2parts.py -/
def sceq (R R' : zr_Z) : Prop := R'.1 = R.1 ∧ R'.2.1 = R.2.1 ∧ R'.2.2.1 = R.2.2.1 ∧ (∀ k, (k < 50 ∨ 56 < k) → zf R' k = zf R k) ∧ R'.2.2.2.2 = R.2.2.2.2
theorem sceq.refl (R : zr_Z) : sceq R R := ⟨rfl, rfl, rfl, fun _ _ => rfl, rfl⟩
theorem sceq.trans {R S U : zr_Z} (h : sceq R S) (g : sceq S U) : sceq R U :=
  ⟨g.1.trans h.1, g.2.1.trans h.2.1, g.2.2.1.trans h.2.2.1, fun k hk => (g.2.2.2.1 k hk).trans (h.2.2.2.1 k hk), g.2.2.2.2.trans h.2.2.2.2⟩
theorem zf_same (Z : zr_Z) (k : Nat) (x : Int32) : zf (zmf Z k x) k = x := by unfold zf zmf va_up; exact if_pos rfl
theorem zf_other (Z : zr_Z) {k j : Nat} (x : Int32) (h : ¬ j = k) : zf (zmf Z k x) j = zf Z j := by unfold zf zmf va_up; exact if_neg h
theorem sceq.zmf {R S : zr_Z} (h : sceq R S) {k : Nat} (hk : 50 ≤ k ∧ k ≤ 56) (x : Int32) : sceq R (zmf S k x) :=
  ⟨h.1, h.2.1, h.2.2.1, fun j hj => (zf_other S x (by omega)).trans (h.2.2.2.1 j hj), h.2.2.2.2⟩
theorem sceq.mR {R S : zr_Z} {T : List Int32} (h : sceq R S) (g : mR R T) : mR S T :=
  ⟨(h.2.2.2.1 3 (by omega)).trans g.1, fun i hi => by rw [h.2.2.1]; exact g.2 i hi⟩
theorem bI_1 (b : Bool) (h : b = true) : bI b = 1 := by rw [h]; rfl
theorem nI_sub1 {n : Nat} (h : 1 ≤ n) : nI n - 1 = nI (n - 1) := by
  obtain ⟨m, rfl⟩ : ∃ m, n = m + 1 := ⟨n - 1, by omega⟩
  rw [nI_pred]; rfl
def rndOk (C R : zr_Z) (T : List Int32) (p : Nat) : Prop :=
  ∃ R' a b t u e, f_32 C (nI p) = (nI e, f_37 C 1 (-1) (nI a) (nI b) (nI t) (nI u)) ∧ o_119 R (nI p) = some (true, R') ∧ sceq R R' ∧
    zf R' 50 = nI e ∧ zf R' 52 = nI a ∧ zf R' 53 = nI b ∧ ((zf R' 56 = 1 ∧ zf R' 54 = nI t ∧ zf R' 55 = nI u ∧ rfc (mA T u) = false) ∨ (zf R' 56 = 0 ∧ t = u)) ∧
    p < a ∧ a ≤ b ∧ b ≤ t ∧ t ≤ u ∧ u ≤ T.length + 1 ∧ e ≤ T.length ∧ 1 ≤ e ∧ mA T (e - 1) = 41 ∧ mrch T b a ∧ (a = b ∨ rfc (mA T b) = false) ∧ mrch T u t ∧
    (b - a) + (u - t) + 2 ≤ e - p ∧ (t < u → (b - a) + (u - t) + 5 ≤ e - p)
theorem round_lock {C R : zr_Z} {T : List Int32} (hC : mC C T) (hR : mR R T) (hT : gT T) {p : Nat} (hp : p ≤ T.length) :
    (∃ R', f_32 C (nI p) = (-1, C) ∧ o_119 R (nI p) = some (false, R') ∧ sceq R R') ∨ rndOk C R T p := by
  have hl := hT.1
  have hS := hR.sk hT
  by_cases h40 : ¬ mA T p = 40
  · left; refine ⟨R, ?_, ?_, sceq.refl R⟩
    · unfold f_32; rw [hC.at (by omega), if_neg h40]
    · unfold o_119; rw [if_pos hS, hR.at hT (by omega), if_neg h40]
  have h40 := Decidable.not_not.mp h40
  have hpl := mA_lt h40 (by decide)
  obtain ⟨x, hx1, hx2, hx3, hx4⟩ := gap_lock hC hR hT (i := p + 1) (by omega)
  obtain ⟨b, R1, ho, hcase⟩ := target_lock hC hR hT hx2
  have ht0 : zt C 61 (nI x) = mA T x := hC.at (by omega)
  have key : ∀ y (b : Bool) (fd : Int32) (a w : Nat), sceq R R1 → x ≤ y → y ≤ T.length → (b = true → zf R1 50 = nI y) → (b = false → y = x) →
      o_117 R (nI x) = some (b, R1) →
      (if decide (mA T x = 60) = true then f_99 C (nI x) else f_84 C (nI x)) = fd → (if fd = -1 then nI x else fd) = nI y → 
      (if b = true then zf R1 52 else nI x) = nI a → (if b = true then zf R1 53 else nI x) = nI w →
      nI x + bI (decide (mA T x = 60) && !decide (fd = -1)) = nI a → nI y - bI (decide (mA T x = 60) && !decide (fd = -1)) = nI w →
      x ≤ a → a ≤ w → w ≤ y → mrch T w a → (a = w ∨ rfc (mA T w) = false) →
      ((∃ R', f_32 C (nI p) = (-1, C) ∧ o_119 R (nI p) = some (false, R') ∧ sceq R R') ∨ rndOk C R T p) := by
    intro y b fd a w hsc hxy hyl hb1 hb0 ho hfd hy h52 h53 ha hw hxa haw hwy hra hrf
    have hR1 := hsc.mR hR
    have hS1 := hR1.sk hT
    obtain ⟨z, hz1, hz2, hz3, hz4⟩ := gap_lock hC hR1 hT (i := y) hyl
    have hyb : (if b = true then zf R1 50 else nI x) = nI y := by
      cases b with
      | true => exact (if_pos rfl).trans (hb1 rfl)
      | false => rw [hb0 rfl]; rfl
    have hc0 : f_32 C (nI p) = (let x17 : Int32 := (if nI z ≤ nI y then (-1) else (f_85 C (nI z))); let x21 : Int32 := f_94 C (if x17 = (-1) then nI y else x17); (if (zt C 61 x21) = 41 then (x21 + 1, f_37 C 1 (-1) (nI a) (nI w) (nI (z + 1)) (if x17 = (-1) then nI (z + 1) else (x17 - 1))) else ((-1), C))) := by
      unfold f_32
      rw [hC.at (by omega), if_pos h40, nI_1, hx3, ht0]
      dsimp only
      rw [hfd, hy, ha, hw, hz3, nI_1]
    have hr0 : o_119 R (nI p) = (if nI z ≤ nI y then some (decide (mA T z = 41), zmf (zmf (zmf (zmf R1 56 0) 52 (nI a)) 53 (nI w)) 50 (nI (z + 1))) else
        (Option.bind (o_118 R1 (nI z)) fun u14 => (if sok u14.2 then (if (u14.1) = true then (Option.bind (o_114 (zmf u14.2 56 (bI (u14.1))) (zf u14.2 50)) fun u19 => some (((decide ((ra u14.2 u19) = 41))), zmf (zmf (zmf (zmf u14.2 56 (bI (u14.1))) 52 (nI a)) 53 (nI w)) 50 (u19 + 1))) else some (((decide ((ra u14.2 (nI z)) = 41))), zmf (zmf (zmf (zmf u14.2 56 (bI (u14.1))) 52 (nI a)) 53 (nI w)) 50 (nI z + 1))) else none))) := by
      unfold o_119
      rw [if_pos hS, hR.at hT (by omega), if_pos h40, nI_1, hx4]
      simp only [Option.bind]
      rw [ho]
      simp only [Option.bind]
      rw [if_pos hS1, hyb, hz4]
      simp only [Option.bind]
      rw [h52, h53, hR1.at hT (by omega), nI_1]
    have notitle : (if nI z ≤ nI y then (-1) else (f_85 C (nI z))) = -1 → (∃ R2, sceq R R2 ∧ o_119 R (nI p) = some (decide (mA T z = 41), zmf (zmf (zmf (zmf R2 56 0) 52 (nI a)) 53 (nI w)) 50 (nI (z + 1)))) →
        ((∃ R', f_32 C (nI p) = (-1, C) ∧ o_119 R (nI p) = some (false, R') ∧ sceq R R') ∨ rndOk C R T p) := by
      intro h17 hor
      obtain ⟨R2, hs2, hor⟩ := hor
      have hs3 : sceq R (zmf (zmf (zmf (zmf R2 56 0) 52 (nI a)) 53 (nI w)) 50 (nI (z + 1))) := (((hs2.zmf (by omega) _).zmf (by omega) _).zmf (by omega) _).zmf (by omega) _
      have hcc : f_32 C (nI p) = (if mA T z = 41 then (nI (z + 1), f_37 C 1 (-1) (nI a) (nI w) (nI (z + 1)) (nI (z + 1))) else (-1, C)) := by
        rw [hc0]; dsimp only; rw [h17, if_pos rfl, if_pos rfl, hz3, hC.at (by omega), nI_1]
      by_cases h41 : mA T z = 41
      · right
        have hzl := mA_lt h41 (by decide)
        refine ⟨_, a, w, z + 1, z + 1, z + 1, ?_, ?_, hs3, zf_same _ _ _, ?_, ?_, Or.inr ⟨?_, rfl⟩, by omega, haw, by omega, Nat.le_refl _, by omega, by omega, by omega, h41, hra, hrf, mrch_refl T _, ?_, ?_⟩
        · rw [hcc, if_pos h41]
        · rw [hor, decide_eq_true h41]
        · rw [zf_other _ _ (by decide), zf_other _ _ (by decide), zf_same]
        · rw [zf_other _ _ (by decide), zf_same]
        · rw [zf_other _ _ (by decide), zf_other _ _ (by decide), zf_other _ _ (by decide), zf_same]
        · omega
        · omega
      · left
        exact ⟨_, by rw [hcc, if_neg h41], by rw [hor, decide_eq_false h41], hs3⟩
    by_cases hzy : z ≤ y
    · have hle : nI z ≤ nI y := (nI_leI (by omega) (by omega)).mpr hzy
      refine notitle (if_pos hle) ⟨R1, hsc, ?_⟩
      rw [hr0, if_pos hle]
    · have hle : ¬ nI z ≤ nI y := fun h => hzy ((nI_leI (by omega) (by omega)).mp h)
      rcases title_lock hC hR1 hT hz2 with ⟨h1, R2, h2, h3⟩ | ⟨u, h1, h2, h3, h4, h5, h6⟩
      · have hs2 : sceq R R2 := by
          rcases h3 with rfl | ⟨_, _, _, rfl⟩
          · exact hsc
          · exact ((hsc.zmf (by omega) _).zmf (by omega) _).zmf (by omega) _
        have hR2 := hs2.mR hR
        refine notitle (by rw [if_neg hle, h1]) ⟨R2, hs2, ?_⟩
        rw [hr0, if_neg hle, h2]; simp only [Option.bind]
        rw [if_pos (hR2.sk hT), if_neg (by decide), hR2.at hT (by omega), nI_1]; rfl
      · have hs2 : sceq R (zmf (zmf (zmf (zmf R1 54 (nI (z + 1))) 55 (nI u)) 50 (nI (u + 1))) 56 1) := (((hsc.zmf (by omega) _).zmf (by omega) _).zmf (by omega) _).zmf (by omega) _
        have hs1 : sceq R (zmf (zmf (zmf R1 54 (nI (z + 1))) 55 (nI u)) 50 (nI (u + 1))) := ((hsc.zmf (by omega) _).zmf (by omega) _).zmf (by omega) _
        have hR2 := hs2.mR hR
        have hR3 := hs1.mR hR
        obtain ⟨v, hv1, hv2, hv3, hv4⟩ := gap_lock hC hR2 hT (i := u + 1) (by omega)
        have hs3 : sceq R (zmf (zmf (zmf (zmf (zmf (zmf (zmf R1 54 (nI (z + 1))) 55 (nI u)) 50 (nI (u + 1))) 56 1) 52 (nI a)) 53 (nI w)) 50 (nI (v + 1))) := ((hs2.zmf (by omega) _).zmf (by omega) _).zmf (by omega) _
        have hor : o_119 R (nI p) = some (decide (mA T v = 41), zmf (zmf (zmf (zmf (zmf (zmf (zmf R1 54 (nI (z + 1))) 55 (nI u)) 50 (nI (u + 1))) 56 1) 52 (nI a)) 53 (nI w)) 50 (nI (v + 1))) := by
          rw [hr0, if_neg hle, h6]; simp only [Option.bind]
          rw [if_pos (hR3.sk hT), if_pos trivial, zf_same]
          have : bI true = 1 := rfl
          rw [this, hv4]; simp only [Option.bind]
          rw [hR3.at hT (by omega), nI_1]
        have hcc : f_32 C (nI p) = (if mA T v = 41 then (nI (v + 1), f_37 C 1 (-1) (nI a) (nI w) (nI (z + 1)) (nI u)) else (-1, C)) := by
          rw [hc0]; dsimp only
          rw [if_neg hle, h5, if_neg (ne_m1 (by omega)), if_neg (ne_m1 (by omega)), hv3, hC.at (by omega), nI_1, nI_pred]
        by_cases h41 : mA T v = 41
        · right
          have hzl := mA_lt h41 (by decide)
          have := mrch_le h3
          refine ⟨_, a, w, z + 1, u, v + 1, ?_, ?_, hs3, zf_same _ _ _, ?_, ?_, Or.inl ⟨?_, ?_, ?_, h4⟩, by omega, haw, by omega, by omega, by omega, by omega, by omega, h41, hra, hrf, h3, ?_, ?_⟩
          · rw [hcc, if_pos h41]
          · rw [hor, decide_eq_true h41]
          · rw [zf_other _ _ (by decide), zf_other _ _ (by decide), zf_same]
          · rw [zf_other _ _ (by decide), zf_same]
          · rw [zf_other _ _ (by decide), zf_other _ _ (by decide), zf_other _ _ (by decide), zf_same]
          · rw [zf_other _ _ (by decide), zf_other _ _ (by decide), zf_other _ _ (by decide), zf_other _ _ (by decide), zf_other _ _ (by decide), zf_other _ _ (by decide), zf_same]
          · rw [zf_other _ _ (by decide), zf_other _ _ (by decide), zf_other _ _ (by decide), zf_other _ _ (by decide), zf_other _ _ (by decide), zf_same]
          · omega
          · omega
        · left
          exact ⟨_, by rw [hcc, if_neg h41], by rw [hor, decide_eq_false h41], hs3⟩
  have hb0 : bI false = 0 := rfl
  have hb1 : bI true = 1 := rfl
  rcases hcase with ⟨rfl, ⟨u, v, w, rfl⟩, hc⟩ | ⟨rfl, h60, e, h1, h2, h3, h4, h5, rfl⟩ | ⟨rfl, h60, e, h1, h2, h3, h4, h5, rfl⟩
  · have hsc : sceq R (zmf (zmf (zmf R 52 u) 53 v) 50 w) := (((sceq.refl R).zmf (by omega) _).zmf (by omega) _).zmf (by omega) _
    rcases hc with hc | ⟨g1, g2, g3, g4, e, g5, g6, g7, g8, g9, g10⟩
    · exact key x false (-1) x x hsc (Nat.le_refl _) hx2 (fun h => nomatch h) (fun _ => rfl) ho hc (if_pos rfl) rfl rfl (by rw [decide_eq_true rfl, Bool.not_true, Bool.and_false, hb0, Int32.add_zero]) (by rw [decide_eq_true rfl, Bool.not_true, Bool.and_false, hb0, Int32.sub_zero]) (Nat.le_refl _) (Nat.le_refl _) (Nat.le_refl _) (mrch_refl T x) (Or.inl rfl)
    · left
      have hR1 := hsc.mR hR
      have hs1 : sceq R (zmf (zmf (zmf (zmf (zmf (zmf (zmf R 52 u) 53 v) 50 w) 56 0) 52 (nI x)) 53 (nI x)) 50 (nI (x + 1))) := (((hsc.zmf (by omega) _).zmf (by omega) _).zmf (by omega) _).zmf (by omega) _
      have hd : decide (mA T x = 60) = false := decide_eq_false g1
      refine ⟨_, ?_, ?_, hs1⟩
      · unfold f_32
        rw [hC.at (by omega), if_pos h40, nI_1, hx3, ht0]
        dsimp only
        rw [hd]; simp only [Bool.false_eq_true, if_false]; rw [g7, if_neg (ne_m1 (by omega)), (sp_stay hC hR hT g6 g8 g9).1, if_pos (Int32.le_refl _), if_pos rfl, (sp_stay hC hR hT g6 g8 g9).1, hC.at (by omega), if_neg g10]
      · unfold o_119
        rw [if_pos hS, hR.at hT (by omega), if_pos h40, nI_1, hx4]
        simp only [Option.bind]
        rw [ho]
        simp only [Option.bind, Bool.false_eq_true, if_false]
        rw [if_pos (hR1.sk hT), (sp_stay hC hR1 hT hx2 g2 g3).2]
        simp only [Option.bind]
        rw [if_pos (Int32.le_refl _), hR1.at hT (by omega), decide_eq_false g4, nI_1]
  · have hsc : sceq R (zmf (zmf (zmf R 52 (nI (x + 1))) 53 (nI e)) 50 (nI (e + 1))) := (((sceq.refl R).zmf (by omega) _).zmf (by omega) _).zmf (by omega) _
    have hd : decide (mA T x = 60) = true := decide_eq_true h60
    refine key (e + 1) true (nI (e + 1)) (x + 1) e hsc (by omega) (by omega) (fun _ => zf_same _ _ _) (fun h => nomatch h) ho ?_ (if_neg (ne_m1 (by omega))) ?_ ?_ ?_ ?_ (by omega) (mrch_le h4) (by omega) h4 (Or.inr (by rw [h3]; decide))
    · rw [if_pos hd, h5]
    · rw [if_pos rfl, zf_other _ _ (by decide), zf_other _ _ (by decide), zf_same]
    · rw [if_pos rfl, zf_other _ _ (by decide), zf_same]
    · rw [hd, decide_eq_false (ne_m1 (by omega))]; exact nI_1 x
    · rw [hd, decide_eq_false (ne_m1 (by omega))]; exact nI_pred e
  · have hsc : sceq R (zmf (zmf (zmf R 52 (nI x)) 53 (nI e)) 50 (nI e)) := (((sceq.refl R).zmf (by omega) _).zmf (by omega) _).zmf (by omega) _
    have hd : decide (mA T x = 60) = false := decide_eq_false h60
    refine key e true (nI e) x e hsc (by omega) (by omega) (fun _ => zf_same _ _ _) (fun h => nomatch h) ho ?_ (if_neg (ne_m1 (by omega))) ?_ ?_ ?_ ?_ (Nat.le_refl _) (by omega) (Nat.le_refl _) h4 (Or.inr h3)
    · rw [if_neg (by rw [hd]; decide), h5]
    · rw [if_pos rfl, zf_other _ _ (by decide), zf_other _ _ (by decide), zf_same]
    · rw [if_pos rfl, zf_other _ _ (by decide), zf_same]
    · rw [hd, Bool.false_and, hb0, Int32.add_zero]
    · rw [hd, Bool.false_and, hb0, Int32.sub_zero]
