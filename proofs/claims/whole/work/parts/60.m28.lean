/-! the mathematics; written by wip/whole/m2parts.py -/
theorem inv_apps {C C' R R' : zr_Z} {T : List Int32} {D : List (List Int32)} {k k' u : Nat} {G P : List Ent} {live : List Nat} {rc : Nat} {bs : List (Nat × Nat × Nat × Nat)} {nl nl' pl pl' it it' : Nat}
    (h : INV0 C R T D k u G live rc bs nl pl it) (hov : ∀ r ∈ live, rv R 157 r = 0) (hbl : ∀ id ∈ [104, 106, 108, 110, 112], (C.1 id).length = bs.length) (hu : u ≤ k') (hC : CK C C') (hR : RK R R' it pl) (hk : k < k') (hk' : k' ≤ T.length)
    (hmk : ∀ q, ¬ (k ≤ q ∧ q < k') → kd C' q = kd C q ∧ vl C' q = vl C q) (hold : ∀ q, q < k → ctok C' T q = ctok C T q)
    (hP1 : ∀ en ∈ P, en.2.2.2 = none ∧ it < en.1 ∧ en.1 ≤ it') (hP2 : (P.map (fun en => en.1)).Nodup) (hSGP : SG C' R' T k P k') (hit' : it ≤ it' ∧ it' ≤ it + 2 * (k' - k))
    (hch : chn R' 0 (G.map (fun en => en.1) ++ P.map (fun en => en.1))) (h20 : zf R' 20 = nI it')
    (hL : IL C' T k' nl') (hp10 : zf R' 10 = nI pl') (hpl : pl ≤ pl' ∧ pl' ≤ 2 * k') (hpn : ∀ en ∈ P, (rv R' 143 en.1 = 3 ∨ rv R' 143 en.1 = 6 ∨ rv R' 143 en.1 = 7) → rvn R' 145 en.1 + rvn R' 146 en.1 ≤ pl' ∧ rvn R' 147 en.1 + rvn R' 148 en.1 ≤ pl')
    (hz11 : ∀ en ∈ P, rv R' 143 en.1 = 11 → rvn R' 145 en.1 + rvn R' 146 en.1 = 0 ∧ rvn R' 147 en.1 + rvn R' 148 en.1 = 0) (hw1 : 5 * sumE (fun en => lws (rtok R' en.1 en.2.2.2)) P ≤ 13 * (k' - u)) (hw2 : sumE (ew R') P ≤ 12 * (k' - u)) (hX : IX R' T (G ++ P) k') (hnb : ∀ A B, P = A ++ B → sumE (ecl R') A ≤ sumE (eop R') A) (hz : ∀ en ∈ P, IZ1 R' en.1) :
    INV C' R' T D k' (G ++ P) live rc bs nl' pl' it' := by
  obtain ⟨hIT, hIS, hIR, hIB, hIL, hIP, hIW⟩ := h
  obtain ⟨s1, s2, s3, s4, s5, s6, s7, s8, s9, s10⟩ := hIS
  have hrt : ∀ en ∈ G, rtok R' en.1 en.2.2.2 = rtok R en.1 en.2.2.2 := fun en hen => hR.rtok (s9 en hen) (fun h1 h2 => hIP.2.2.1 en hen h1 h2)
  have hkk : ∀ en ∈ G, rv R' 143 en.1 = rv R 143 en.1 := fun en hen => hR.2.1 143 (by omega) (by omega) _ (s9 en hen)
  have hend : ∀ en ∈ G, en.2.2.1 ≤ k := fun en hen => (SG_mem G 0 k s5 en hen).2.2
  refine ⟨IT_keep hIT hC hR, ⟨hC.2.1.trans s1, hC.2.2.1.trans s2, hk', fun q q1 q2 => ?_, ?_, ?_, ?_, h20, ?_, ?_⟩, ?_, ?_, hL, ⟨hp10, hpl.2, ?_, ?_⟩, ⟨?_, ?_, ?_, ?_⟩, hX, fun r hr => (hR.1 157 (by omega) r).trans (hov r hr), fun id hid => by rw [hC.1 id (by revert hid; revert id; decide)]; exact hbl id hid⟩
  · have := hmk q (by omega); rw [this.1, this.2]; exact s4 q (by omega) q2
  · rw [SG_app]; exact ⟨k, SG_cong G 0 k s5 (fun p _ hp => hold p hp) hrt, hSGP⟩
  · rw [List.map_append]; exact hch
  · rw [List.map_append, ← List.cons_append, List.nodup_append]
    refine ⟨s7, hP2, fun a ha b hb => ?_⟩
    obtain ⟨en', hen', rfl⟩ := List.mem_map.mp hb
    have := (hP1 en' hen').2.1
    rcases List.mem_cons.mp ha with rfl | ha
    · omega
    · obtain ⟨en, hen, rfl⟩ := List.mem_map.mp ha
      have := s9 en hen; omega
  · intro en hen
    rcases List.mem_append.mp hen with hen | hen
    · have := s9 en hen; omega
    · exact (hP1 en hen).2.2
  · rw [sumE_app]
    have : sumE gleft P = 0 := by
      have : ∀ l : List Ent, (∀ en ∈ l, en.2.2.2 = none) → sumE gleft l = 0 := by
        intro l
        induction l with
        | nil => intro _; rfl
        | cons e l ih =>
          intro hl
          rw [sumE_cons, ih (fun en hen => hl en (List.mem_cons_of_mem _ hen))]
          unfold gleft; rw [if_pos (hl e (List.mem_cons_self ..))]
      exact this P (fun en hen => (hP1 en hen).1)
    omega
  · refine IR_app hIR hC hR s9 (k := k) (fun q hq => hmk q (by omega)) (fun en hen hne => ⟨List.mem_append_left _ hen, hend en hen⟩) (fun en hen => ?_) ?_
    · rcases List.mem_append.mp hen with hen | hen
      · exact Or.inl hen
      · exact Or.inr (hP1 en hen).1
    · rw [List.filterMap_append]
      have : P.filterMap (fun en => en.2.2.2) = [] := by
        rw [List.filterMap_eq_nil_iff]; intro en hen; exact (hP1 en hen).1
      rw [this, List.append_nil]
  · exact IB_app hIB hC hR s9 (by omega) (fun en hen h11 => List.mem_append_left _ hen)
  · intro en hen ht hkd
    rcases List.mem_append.mp hen with hen | hen
    · have hx := s9 en hen
      rw [hkk en hen] at hkd
      have := hIP.2.2.1 en hen ht hkd
      have e : ∀ j, 143 ≤ j → j ≤ 149 → rvn R' j en.1 = rvn R j en.1 := fun j h1 h2 => congrArg Int32.toNatClampNeg (hR.2.1 j h1 h2 _ hx)
      rw [e 145 (by omega) (by omega), e 146 (by omega) (by omega), e 147 (by omega) (by omega), e 148 (by omega) (by omega)]; omega
    · exact hpn en hen hkd
  · intro en hen ht h11
    rcases List.mem_append.mp hen with hen | hen
    · have hx := s9 en hen
      rw [hkk en hen] at h11
      have e : ∀ j, 143 ≤ j → j ≤ 149 → rvn R' j en.1 = rvn R j en.1 := fun j h1 h2 => congrArg Int32.toNatClampNeg (hR.2.1 j h1 h2 _ hx)
      rw [e 145 (by omega) (by omega), e 146 (by omega) (by omega), e 147 (by omega) (by omega), e 148 (by omega) (by omega)]; exact hIP.2.2.2 en hen ht h11
    · exact hz11 en hen h11
  · rw [sumE_app, sumE_cong G (fun en hen => by show lws (rtok R' en.1 en.2.2.2) = lws (rtok R en.1 en.2.2.2); rw [hrt en hen])]
    have := hIW.1
    omega
  · rw [sumE_app, sumE_cong (f := ew R') (g := ew R) G (fun en hen => by
      unfold ew
      rw [hkk en hen]
      by_cases hc : en.2.2.2 = none ∧ ¬ rv R 143 en.1 = 11
      · rw [if_pos hc, if_pos hc]
        have := hrt en hen
        rw [hc.1] at this; rw [this]
      · rw [if_neg hc, if_neg hc])]
    have := hIW.2.1
    omega
  · exact NB_app hIW.2.2.1 hrt (fun A B hA => Nat.le_trans (hnb A B hA) (Nat.le_add_right _ _))
  · intro en hen ht
    rcases List.mem_append.mp hen with g | g
    · exact IZ1_cong (hIW.2.2.2 en g ht) (fun j j1 j2 => hR.2.1 j j1 j2 _ (s9 en g))
    · exact hz en g
def txE : Nat → Nat → Nat → List Ent
  | _, _, 0 => []
  | x, p, n + 1 => (x, p, p + 1, none) :: txE (x + 1) (p + 1) n
theorem txE_mem : ∀ n x p en, en ∈ txE x p n → en.2.2.2 = none ∧ x ≤ en.1 ∧ en.1 < x + n := by
  intro n
  induction n with
  | zero => intro x p en h; exact absurd h (by simp [txE])
  | succ n ih =>
    intro x p en h
    rcases List.mem_cons.mp h with rfl | h
    · exact ⟨rfl, Nat.le_refl _, by show x < x + (n + 1); omega⟩
    · have := ih (x + 1) (p + 1) en h; exact ⟨this.1, by omega, by omega⟩
theorem txE_nodup : ∀ n x p, ((txE x p n).map (fun en => en.1)).Nodup := by
  intro n
  induction n with
  | zero => intro x p; exact List.nodup_nil
  | succ n ih =>
    intro x p
    rw [txE, List.map_cons, List.nodup_cons]
    refine ⟨fun h => ?_, ih _ _⟩
    obtain ⟨en, hen, he⟩ := List.mem_map.mp h
    have := txE_mem n (x + 1) (p + 1) en hen
    dsimp only at he; omega
theorem txE_sg {C R : zr_Z} {T : List Int32} : ∀ n x p, (∀ t, t < n → kd C (p + t) = 0 ∧ rv R 143 (x + t) = 0 ∧ rv R 144 (x + t) = vl C (p + t)) → SG C R T p (txE x p n) (p + n) := by
  intro n
  induction n with
  | zero => intro x p _; rfl
  | succ n ih =>
    intro x p h
    have h0 := h 0 (by omega)
    rw [Nat.add_zero, Nat.add_zero] at h0
    refine ⟨rfl, by show p ≤ p + 1; omega, ?_, ?_⟩
    · show ctk C T p (p + 1 - p) = rtok R x none
      rw [show p + 1 - p = 1 by omega, ctk_one]
      unfold ctok rtok
      dsimp only
      rw [h0.1, h0.2.1, h0.2.2]; rfl
    · show SG C R T (p + 1) (txE (x + 1) (p + 1) n) (p + (n + 1))
      rw [show p + (n + 1) = p + 1 + n by omega]
      exact ih (x + 1) (p + 1) (fun t ht => by
        have := h (t + 1) (by omega)
        rw [show p + 1 + t = p + (t + 1) by omega, show x + 1 + t = x + (t + 1) by omega]; exact this)
theorem r128 {T : List Int32} (hT : gT T) (k0 n : Nat) (hn : n ≤ 1500) (hk0 : k0 ≤ 1600) : ∀ d i m R l it, i + d = n → d < m → mR R T → zf R 20 = nI it → it + d < 7000 → chn R 0 l → (0 :: l).Nodup → (∀ v ∈ l, v ≤ it) →
    ∃ R', g_128_2 m R (nI k0) (nI n) (nI i) = some R' ∧ chn R' 0 (l ++ (txE (it + 1) (k0 + i) d).map (fun en => en.1)) ∧ (∀ j, (j < 143 ∨ 151 < j) → ∀ i, rv R' j i = rv R j i) ∧ (∀ j, 143 ≤ j → j ≤ 149 → ∀ x, x ≤ it → rv R' j x = rv R j x) ∧
      (∀ t, t < d → rv R' 143 (it + 1 + t) = 0 ∧ rv R' 144 (it + 1 + t) = mA T (k0 + i + t) ∧ IZ1 R' (it + 1 + t)) ∧ zf R' 20 = nI (it + d) ∧ (∀ f, ¬ f = 20 → ¬ f = 21 → zf R' f = zf R f) := by
  intro d
  have hl := hT.1
  induction d with
  | zero =>
    intro i m R l it hi hm hR h20 hit hch hnd hle
    obtain ⟨m, rfl⟩ : ∃ z, m = z + 1 := ⟨m - 1, by omega⟩
    obtain rfl : i = n := by omega
    refine ⟨R, ?_, by rw [txE, List.map_nil, List.append_nil]; exact hch, fun _ _ _ => rfl, fun _ _ _ _ _ => rfl, fun t ht => by omega, h20, fun _ _ _ => rfl⟩
    rw [g_128_2, if_pos (hR.sk hT), if_pos (Int32.le_refl _)]
  | succ d ih =>
    intro i m R l it hi hm hR h20 hit hch hnd hle
    obtain ⟨m, rfl⟩ : ∃ z, m = z + 1 := ⟨m - 1, by omega⟩
    obtain ⟨R1, q1, q2, q3, q4, q5, q6, q7, q8, q9, q10, q11, q12, q13⟩ := r127 h20 (by omega) hch hnd hle 0 (mA T (k0 + i))
    have hR1 : mR R1 T := ⟨(q13 3 (by decide) (by decide)).trans hR.1, fun i hi => (q3 137 (by omega) i).trans (hR.2 i hi)⟩
    obtain ⟨R', g1, g2, g3, g4, g5, g6, g7⟩ := ih (i + 1) m R1 (l ++ [it + 1]) (it + 1) (by omega) (by omega) hR1 q12 (by omega) q2 (by
      rw [← List.cons_append, List.nodup_append]
      refine ⟨hnd, by simp, fun a ha b hb => ?_⟩
      rw [List.mem_singleton] at hb
      rcases List.mem_cons.mp ha with h | h
      · omega
      · have := hle a h; omega) (fun v hv => by
      rcases List.mem_append.mp hv with h | h
      · have := hle v h; omega
      · rw [List.mem_singleton] at h; omega)
    refine ⟨R', ?_, ?_, fun j hj i => (g3 j hj i).trans (q3 j hj i), fun j j1 j2 x hx => (g4 j j1 j2 x (by omega)).trans (q4 j j1 j2 x (by omega)), fun t ht => ?_, by rw [g6]; congr 1; omega, fun f f1 f2 => (g7 f f1 f2).trans (q13 f f1 f2)⟩
    · rw [g_128_2, if_pos (hR.sk hT), if_neg (by rw [nI_leI (by omega) (by omega)]; omega), nI_add, hR.at hT (by omega), q1]
      simp only [Option.bind_some]
      rw [if_pos (hR1.sk hT), nI_1]; exact g1
    · rw [txE, List.map_cons, show k0 + i + 1 = k0 + (i + 1) by omega]
      rw [List.append_assoc] at g2; exact g2
    · cases t with
      | zero =>
        rw [Nat.add_zero, Nat.add_zero, g4 143 (by omega) (by omega) _ (Nat.le_refl _), g4 144 (by omega) (by omega) _ (Nat.le_refl _)]; exact ⟨q5, q6, IZ1_cong (IZ1_new q7 q8 q9 q10 q11 (by rw [q5]; exact ⟨by decide, by decide⟩)) (fun j j1 j2 => g4 j j1 j2 _ (Nat.le_refl _))⟩
      | succ t =>
        have := g5 t (by omega)
        rw [show it + 1 + (t + 1) = it + 1 + 1 + t by omega, show k0 + i + (t + 1) = k0 + (i + 1) + t by omega]; exact this
theorem r138 {R : zr_Z} {n : Nat} (hn : n ≤ 1500) (h35 : zf R 35 = nI n) (h163 : ∀ b, b < n → rv R 163 b = 0 ∨ rv R 163 b = 1) :
    ∃ R', o_138 R = some R' ∧ (∀ j, ¬ j = 163 → ∀ i, rv R' j i = rv R j i) ∧ (∀ f, zf R' f = zf R f) ∧ ∀ b, b < n → rv R' 163 b = if rv R 162 b = 0 then 1 else rv R 163 b := by
  have loop : ∀ d i m S, i + d = n → d < m → (∀ j, ¬ j = 163 → ∀ i, rv S j i = rv R j i) → (∀ f, zf S f = zf R f) → (∀ b, b < n → rv S 163 b = if b < i then (if rv R 162 b = 0 then 1 else rv R 163 b) else rv R 163 b) →
      ∃ R', g_138_2 m S (nI i) = some R' ∧ (∀ j, ¬ j = 163 → ∀ i, rv R' j i = rv R j i) ∧ (∀ f, zf R' f = zf R f) ∧ ∀ b, b < n → rv R' 163 b = if rv R 162 b = 0 then 1 else rv R 163 b := by
    intro d
    induction d with
    | zero =>
      intro i m S hi hm h1 h2 h3
      obtain ⟨m, rfl⟩ : ∃ z, m = z + 1 := ⟨m - 1, by omega⟩
      obtain rfl : i = n := by omega
      refine ⟨S, ?_, h1, h2, fun b hb => by rw [h3 b hb, if_pos hb]⟩
      rw [g_138_2, h2, h35, if_pos (Int32.le_refl _)]
    | succ d ih =>
      intro i m S hi hm h1 h2 h3
      obtain ⟨m, rfl⟩ : ∃ z, m = z + 1 := ⟨m - 1, by omega⟩
      have hib : i < 2 ^ 31 := by omega
      have hq : ∀ j, zr_alen j = 1500 → inq j (nI i) := fun j hj => inq_nI (by omega) (by omega)
      have hv163 : rv S 163 i = rv R 163 i := by rw [h3 i (by omega), if_neg (by omega)]
      have hv162 : rv S 162 i = rv R 162 i := h1 162 (by decide) i
      have hob : (if ¬ (zv S 163 (nI i)) = 0 then True else (inq 162 (nI i) ∧ (if ¬ (zv S 162 (nI i)) = 0 then True else True))) := by
        split
        · trivial
        · exact ⟨hq 162 rfl, by split <;> trivial⟩
      have hval : bI ((!(decide (rv R 163 i = 0))) || decide (rv R 162 i = 0)) = if rv R 162 i = 0 then 1 else rv R 163 i := by
        by_cases e : rv R 162 i = 0
        · rw [if_pos e, decide_eq_true e, Bool.or_true]; rfl
        · rw [if_neg e, decide_eq_false e, Bool.or_false]
          rcases h163 i (by omega) with g | g <;> rw [g] <;> decide
      rw [g_138_2, h2, h35, if_neg (by rw [nI_leI (by omega) (by omega)]; omega), if_pos (hq 163 rfl), if_pos hob, if_pos (hq 163 rfl), zv_nI _ _ hib, zv_nI _ _ hib, hv163, hv162, hval, nI_1]
      refine ih (i + 1) m _ (by omega) (by omega) (fun j hj i' => by rw [rv_oth _ _ _ hj]; exact h1 j hj i') (fun f => h2 f) (fun b hb => ?_)
      rw [rv_at _ _ _ hib]
      by_cases e : b = i
      · have c1 : b < i + 1 := by omega
        rw [if_pos e, if_pos c1, e]
      · rw [if_neg e, h3 b hb]
        by_cases g : b < i
        · have c1 : b < i + 1 := by omega
          rw [if_pos g, if_pos c1]
        · have c1 : ¬ b < i + 1 := by omega
          rw [if_neg g, if_neg c1]
  have := loop n 0 oF R (by omega) (by unfold oF; omega) (fun _ _ _ => rfl) (fun _ => rfl) (fun b hb => by rw [if_neg (by omega)])
  unfold o_138; rw [nI_0] at this; exact this
