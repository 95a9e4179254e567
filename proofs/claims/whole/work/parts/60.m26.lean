/-! the mathematics; written by wip/whole/m2parts.py -/
theorem rsl_snoc (R : zr_Z) : ∀ n a, rsl R a (n + 1) = rsl R a n ++ [rv R 142 (a + n)] := by
  intro n
  induction n with
  | zero => intro a; rfl
  | succ n ih =>
    intro a
    rw [rsl, ih (a + 1), rsl, List.cons_append, show a + 1 + n = a + (n + 1) by omega]
theorem rsl_len (R : zr_Z) : ∀ n a, (rsl R a n).length = n := by
  intro n
  induction n with
  | zero => intro a; rfl
  | succ n ih => intro a; rw [rsl, List.length_cons, ih]
def kps (R R' : zr_Z) (pl : Nat) (l : List Int32) : Prop :=
  (∀ j, ¬ j = 142 → ∀ i, rv R' j i = rv R j i) ∧ (∀ i, i < pl → rv R' 142 i = rv R 142 i) ∧ rsl R' pl l.length = l ∧ zf R' 10 = nI (pl + l.length) ∧ ∀ f, ¬ f = 10 → zf R' f = zf R f
theorem kps_nil {R : zr_Z} {pl : Nat} (h : zf R 10 = nI pl) : kps R R pl [] := ⟨fun _ _ _ => rfl, fun _ _ => rfl, rfl, h, fun _ _ => rfl⟩
theorem kps_snoc {R R1 : zr_Z} {pl : Nat} {l : List Int32} (h : kps R R1 pl l) (hb : pl + l.length < 20000) (c : Int32) : ∃ R2, o_122 R1 c = some R2 ∧ kps R R2 pl (l ++ [c]) := by
  obtain ⟨h1, h2, h3, h4, h5⟩ := h
  have hb' : pl + l.length < 2 ^ 31 := by omega
  refine ⟨zmf (zar R1 142 (nI (pl + l.length)) c) 10 (nI (pl + l.length + 1)), ?_, ?_, ?_, ?_, ?_, ?_⟩
  · unfold o_122; rw [h4, if_pos (inq_nI (by show pl + l.length < 20000; omega) (by omega)), nI_1]
  · intro j hj i; rw [rv_zmf, rv_oth _ _ _ hj]; exact h1 j hj i
  · intro i hi; rw [rv_zmf, rv_at _ _ _ hb', if_neg (by omega)]; exact h2 i hi
  · rw [List.length_append, List.length_cons, List.length_nil, Nat.zero_add, rsl_snoc, rv_zmf, rv_at _ _ _ hb', if_pos rfl]
    congr 1
    refine Eq.trans (rsl_cong (R := R1) l.length pl (fun i g1 g2 => ?_)) h3
    rw [rv_zmf, rv_at _ _ _ hb', if_neg (by omega)]
  · rw [zf_same, List.length_append]; rfl
  · intro f hf; rw [zf_other _ _ hf, zf_zar]; exact h5 f hf
theorem kps.mR {R R' : zr_Z} {T : List Int32} {pl : Nat} {l : List Int32} (h : kps R R' pl l) (g : mR R T) : mR R' T :=
  ⟨(h.2.2.2.2 3 (by decide)).trans g.1, fun i hi => (h.1 137 (by decide) i).trans (g.2 i hi)⟩
theorem nl32_iff (c : Int32) : nl32 c = 32 ↔ c = 32 ∨ c = 10 := by
  unfold nl32; by_cases h : c = 10
  · rw [if_pos h]; exact ⟨fun _ => Or.inr h, fun _ => rfl⟩
  · rw [if_neg h]; exact ⟨fun h => Or.inl h, fun h' => h'.elim id (fun g => absurd g h)⟩
section
variable {C R : zr_Z} {T : List Int32} {D : List (List Int32)} {k : Nat} {G : List Ent} {live : List Nat} {rc : Nat} {bs : List (Nat × Nat × Nat × Nat)} {nl pl it : Nat}
theorem part_say (hT : gT T) (k0 n : Nat) (hn : n ≤ 1500) : ∀ d i m R G it, i + d = n → d < m → k0 + n ≤ T.length → INV C R T D (k0 + i) G live rc bs nl pl it → ∃ R' G' it', g_128_2 m R (nI k0) (nI n) (nI i) = some R' ∧ INV C R' T D (k0 + n) G' live rc bs nl pl it' ∧ ∀ f, ¬ f = 20 → ¬ f = 21 → zf R' f = zf R f := by
  intro d
  have hl := hT.1
  induction d with
  | zero =>
    intro i m R G it hi hm hkn h
    obtain ⟨m, rfl⟩ : ∃ z, m = z + 1 := ⟨m - 1, by omega⟩
    obtain rfl : i = n := by omega
    refine ⟨R, G, it, ?_, h, fun _ _ _ => rfl⟩
    rw [g_128_2, if_pos h.sok, if_pos (Int32.le_refl _)]
  | succ d ih =>
    intro i m R G it hi hm hkn h
    obtain ⟨m, rfl⟩ : ∃ z, m = z + 1 := ⟨m - 1, by omega⟩
    obtain ⟨R1, q1, q2, q3⟩ := part_text h (by omega)
    obtain ⟨R', G', it', g1, g2, g3⟩ := ih (i + 1) m R1 _ _ (by omega) (by omega) hkn q2
    refine ⟨R', G', it', ?_, g2, fun f h1 h2 => (g3 f h1 h2).trans (q3 f h1 h2)⟩
    rw [g_128_2, if_pos h.sok, if_neg (by rw [nI_leI (by omega) (by omega)]; omega), nI_add, h.1.2.1.at hT (by omega), q1]
    simp only [Option.bind_some]
    rw [if_pos q2.sok, nI_1]; exact g1
theorem lws_tkc (l : List Int32) : lws (l.map tkc) = l.length := by
  induction l with
  | nil => rfl
  | cons c l ih => unfold lws at *; rw [List.map_cons, List.map_cons, List.sum_cons, ih, List.length_cons]; show 1 + l.length = _; omega
theorem ows_tkc (l : List Int32) : ows (l.map tkc) = csts l := by
  induction l with
  | nil => rfl
  | cons c l ih => unfold ows csts at *; rw [List.map_cons, List.map_cons, List.sum_cons, ih, List.map_cons, List.sum_cons]; rfl
theorem part_code (h : INV C R T D k G live rc bs nl pl it) (hk : k < T.length) (h2 : zc C 2 = 0) (f2 : zc C 2 = zf R 46) (f3 : zc C 3 = zf R 47) (hc : mA T k = 96) : PARTOK C R T D k := by
  have hT := h.1.2.2.1
  have hl := hT.1
  have hmC := h.1.1
  have hmR := h.1.2.1
  have hS := h.sok
  obtain ⟨s1, s2, s3, s4, s5, s6, s7, s8, s9, s10⟩ := h.2.1
  obtain ⟨p1, p2, p3⟩ := h.2.2.2.2.2.1
  obtain ⟨e, e1, e2, e3, e4⟩ := c93 hmC hT hk
  rw [hc] at e3
  have hne : ¬ mA T e = 96 := of_decide_eq_false e3.2.2
  obtain ⟨n, hn⟩ : ∃ n, n = e - k := ⟨_, rfl⟩
  have hke : k + n = e := by omega
  have cls : ∀ m, g_54_6 (m + 1) C (nI k) = (Option.bind (o_58 C (nI k)) fun u23 => g_54_6 m u23.2 (zmax (nI (k + 1)) u23.1)) := by
    intro m; rw [cs_in hmC hT hk h2, hc]; rfl
  have rfs : o_149 R (nI k) = (Option.bind (o_146 R (nI k)) fun u32 => (if sok u32.2 then some (u32.1, u32.2) else none)) := by
    rw [rs_in hmR hT hk, hc]; rfl
  have hz : zf R 3 = nI T.length := hmR.1
  have hcnt : ∀ d i m, i + d = n → d < m → g_146_2 m R (nI k) (nI i) = g_146_27 oF R (nI k) (nI n) (nI e) 0 := by
    intro d
    induction d with
    | zero =>
      intro i m hi hm
      obtain ⟨m, rfl⟩ : ∃ z, m = z + 1 := ⟨m - 1, by omega⟩
      obtain rfl : i = n := by omega
      rw [g_146_2, if_pos hS, nI_add, hke, hmR.at hT (by omega), if_pos hne]
    | succ d ih =>
      intro i m hi hm
      obtain ⟨m, rfl⟩ : ∃ z, m = z + 1 := ⟨m - 1, by omega⟩
      have := of_decide_eq_true (e3.2.1 (k + i) (by omega) (by omega))
      rw [g_146_2, if_pos hS, nI_add, hmR.at hT (by omega), if_neg (fun h => h this), nI_1]
      exact ih (i + 1) m (by omega) (by omega)
  have hr0 : o_146 R (nI k) = g_146_27 oF R (nI k) (nI n) (nI e) 0 := by
    unfold o_146
    have := hcnt n 0 oF (by omega) (by unfold oF; omega)
    rw [nI_0] at this
    rw [if_pos hS, this]
  have hcnt2 : ∀ x y, wl isBt T x y → y ≤ T.length + 1 → ∀ K d i m, x + i + d = y → d < m → g_146_44 m R (nI k) (nI n) (nI x) (nI i) K = K R (nI n) (nI (x + (if y = x + n then 0 else if y = x then 1 else y - x))) (nI (y - x)) := by
    intro x y hw hy K d
    induction d with
    | zero =>
      intro i m hi hm
      obtain ⟨m, rfl⟩ : ∃ z, m = z + 1 := ⟨m - 1, by omega⟩
      have hyy : x + i = y := by omega
      have : ¬ mA T y = 96 := of_decide_eq_false hw.2.2
      rw [g_146_44, if_pos hS, nI_add, hyy, hmR.at hT (by omega), if_pos this]
      simp only [olet]
      have hiy : i = y - x := by omega
      rw [← hiy]
      have hstep : nI x + (if ¬ nI i = nI n then (if ¬ nI i = 0 then nI i else 1 : Int32) else 0 : Int32) = nI (x + (if y = x + n then 0 else if y = x then 1 else i)) := by
        by_cases g1 : i = n
        · have c1 : ¬ ¬ nI i = nI n := fun h => h (by rw [g1])
          have c2 : y = x + n := by omega
          rw [if_neg c1, if_pos c2, Int32.add_zero, Nat.add_zero]
        · have c1 : ¬ nI i = nI n := by rw [nI_eq (by omega) (by omega)]; exact g1
          have c2 : ¬ y = x + n := by omega
          rw [if_pos c1, if_neg c2]
          by_cases g2 : i = 0
          · have c3 : ¬ ¬ nI i = 0 := fun h => h (by rw [g2, nI_0])
            have c4 : y = x := by omega
            rw [if_neg c3, if_pos c4, nI_1]
          · have c3 : ¬ nI i = 0 := by rw [← nI_0, nI_eq (by omega) (by omega)]; exact g2
            have c4 : ¬ y = x := by omega
            rw [if_pos c3, if_neg c4, nI_add]
      rw [hstep]
    | succ d ih =>
      intro i m hi hm
      obtain ⟨m, rfl⟩ : ∃ z, m = z + 1 := ⟨m - 1, by omega⟩
      have := of_decide_eq_true (hw.2.1 (x + i) (by omega) (by omega))
      rw [g_146_44, if_pos hS, nI_add, hmR.at hT (by omega), if_neg (fun h => h this), nI_1]
      exact ih (i + 1) m (by omega) (by omega)
  have hbn : isBt (-1) = false := by decide
  have srch : ∀ d x m, T.length - x ≤ d → d + 1 < m → x ≤ T.length → btAt T n e x → ((∀ y, ¬ btRow T n e y) ∧ g_146_27 m R (nI k) (nI n) (nI x) 0 = (Option.bind (o_128 R (nI k) (nI n)) fun u3 => (if sok u3 then some (nI k + nI n, u3) else none))) ∨ (∃ y, btFirst T n e y ∧ g_146_27 m R (nI k) (nI n) (nI x) 0 = g_146_123 oF R (nI k) (nI n) (nI y) (nI k + nI n) (nI y) true (nI k + nI n)) := by
    have gen : ∀ d x m w, T.length - x ≤ d → d + 1 < m → x ≤ T.length → btAt T n e x → ¬ w = n → w ≤ T.length → ((∀ y, ¬ btRow T n e y) ∧ g_146_27 m R (nI k) (nI n) (nI x) (nI w) = (Option.bind (o_128 R (nI k) (nI n)) fun u3 => (if sok u3 then some (nI k + nI n, u3) else none))) ∨ (∃ y, btFirst T n e y ∧ g_146_27 m R (nI k) (nI n) (nI x) (nI w) = g_146_123 oF R (nI k) (nI n) (nI y) (nI k + nI n) (nI y) true (nI k + nI n)) := by
      intro d
      induction d with
      | zero =>
        intro x m w hd hm hx hat hw hwl
        obtain ⟨m, rfl⟩ : ∃ z, m = z + 1 := ⟨m - 1, by omega⟩
        left
        refine ⟨btAt_end hat (by omega), ?_⟩
        rw [g_146_27, if_pos hS, hz, if_pos ((nI_leI (by omega) (by omega)).mpr (by omega)), if_neg (by rw [nI_ltI (by omega) (by omega)]; omega)]
      | succ d ih =>
        intro x m w hd hm hx hat hw hwl
        obtain ⟨m, rfl⟩ : ∃ z, m = z + 1 := ⟨m - 1, by omega⟩
        by_cases hin : T.length ≤ x
        · left
          refine ⟨btAt_end hat hin, ?_⟩
          rw [g_146_27, if_pos hS, hz, if_pos ((nI_leI (by omega) (by omega)).mpr hin), if_neg (by rw [nI_ltI (by omega) (by omega)]; omega)]
        · obtain ⟨y, hy, hyl⟩ := wl_ex (T := T) hbn (T.length - x) x (by omega)
          have hxy := hy.1
          have hc2 := hcnt2 x y hy (by omega) (fun Z x2 x3 x4 => g_146_27 m Z (nI k) x2 x3 x4) (y - x) 0 oF (by omega) (by unfold oF; omega)
          rw [nI_0] at hc2
          have hst : g_146_27 (m + 1) R (nI k) (nI n) (nI x) (nI w) = g_146_27 m R (nI k) (nI n) (nI (x + (if y = x + n then 0 else if y = x then 1 else y - x))) (nI (y - x)) := by
            rw [g_146_27, if_pos hS, hz, if_neg (by rw [nI_leI (by omega) (by omega)]; exact hin), if_neg (by rw [nI_eq (by omega) (by omega)]; exact hw)]
            exact hc2
          rw [hst]
          by_cases g1 : y = x + n
          · -- found
            right
            rw [if_pos g1, Nat.add_zero]
            have hx96 : mA T x = 96 := of_decide_eq_true (hy.2.1 x (Nat.le_refl _) (by omega))
            subst g1
            refine ⟨x, btAt_found hat hx96 hy, ?_⟩
            obtain ⟨m, rfl⟩ : ∃ z, m = z + 1 := ⟨m - 1, by omega⟩
            rw [g_146_27, if_pos hS, hz, if_neg (by rw [nI_leI (by omega) (by omega)]; exact hin), if_pos (by rw [show x + n - x = n by omega]), if_pos ((nI_ltI (by omega) (by omega)).mpr (by omega))]
          · rw [if_neg g1]
            by_cases g2 : y = x
            · rw [if_pos g2]
              have hx96 : ¬ mA T x = 96 := by
                have := of_decide_eq_false hy.2.2
                rw [g2] at this; exact this
              exact ih (x + 1) m (y - x) (by omega) (by omega) (by omega) (btAt_other hat hx96) (by omega) (by omega)
            · rw [if_neg g2, show x + (y - x) = y by omega]
              have hx96 : mA T x = 96 := of_decide_eq_true (hy.2.1 x (Nat.le_refl _) (by omega))
              exact ih y m (y - x) (by omega) (by omega) hyl (btAt_row hat hx96 hy g1) (by omega) (by omega)
    intro d x m hd hm hx hat
    have := gen d x m 0 hd hm hx hat (by omega) (by omega)
    rw [nI_0] at this; exact this
  have hstart : btAt T n e e := ⟨Nat.le_refl _, fun y hy hb => by have := hb.1; omega, fun hh => absurd hh hne⟩
  have hsr := srch (T.length - e) e oF (Nat.le_refl _) (by unfold oF; omega) e2 hstart
  have ho58 : o_58 C (nI k) = (if ¬ f_59 C (nI e) (nI n) = -1 then g_58_31 oF C (nI k) (nI e) (f_59 C (nI e) (nI n)) true (nI e) else some (nI e, C)) := by
    unfold o_58; rw [e4, pk_sub (by omega), ← hn]; rfl
  rcases c59 hmC hT (a := e) (n := n) e2 (by omega) hne with ⟨a1, a2⟩ | ⟨x, a1, a2, a3⟩
  · -- no code
    rcases hsr with ⟨-, b2⟩ | ⟨y, b1, -⟩
    · obtain ⟨R', G', it', g1, g2, g3⟩ := part_say (C := C) (D := D) (live := live) (rc := rc) (bs := bs) (nl := nl) (pl := pl) hT k n (by omega) n 0 oF R G it (by omega) (by unfold oF; omega) (by omega) h
      rw [hke] at g2
      rw [nI_0] at g1
      refine ⟨C, R', e, _, _, _, _, _, _, _, fun m => ?_, ?_, by omega, g2, ?_, ?_⟩
      · rw [cls m, ho58, if_neg (fun h => h a1)]; simp only [Option.bind_some]; rw [zmax_up (by omega) (by omega)]
      · rw [rfs, hr0, b2]
        unfold o_128
        rw [if_pos hS, g1]; simp only [Option.bind_some, if_pos g2.sok]; rw [nI_add, hke]
      · rw [g3 46 (by decide) (by decide)]; exact f2
      · rw [g3 47 (by decide) (by decide)]; exact f3
    · exact absurd b1.1 (a2 y)
  · rcases hsr with ⟨b1, -⟩ | ⟨y, b1, b2⟩
    · exact absurd a1.1 (b1 x)
    · obtain rfl := btFirst_uniq b1 a1
      have hex : e < y := a1.1.1
      obtain ⟨C', c1, c2, c3, c5, c4⟩ := c58m hmC hT (p := k) (fr := e) (to := y) (n := n) hke (by omega) hex a2 s1 s2 (fun q h1 h2 => s4 q h1 (by omega)) (m := oF) (by unfold oF; omega)
      have hblank : ∀ d i m w, i + d = y → e ≤ i → d < m → g_146_123 m R (nI k) (nI n) (nI y) (nI e) (nI y) w (nI i) = g_146_123 1 R (nI k) (nI n) (nI y) (nI e) (nI y) (w && all32 T i d) (nI y) := by
        intro d
        induction d with
        | zero =>
          intro i m w hi hei hm
          obtain ⟨m, rfl⟩ : ∃ z, m = z + 1 := ⟨m - 1, by omega⟩
          obtain rfl : i = y := by omega
          rw [all32, Bool.and_true, g_146_123, g_146_123, if_pos (Int32.le_refl _), if_pos (Int32.le_refl _)]
        | succ d ih =>
          intro i m w hi hei hm
          obtain ⟨m, rfl⟩ : ∃ z, m = z + 1 := ⟨m - 1, by omega⟩
          rw [all32, ← Bool.and_assoc, ← ih (i + 1) m (w && decide (nl32 (mA T i) = 32)) (by omega) (by omega) (by omega)]
          rw [g_146_123, if_pos hS, if_neg (by rw [nI_leI (by omega) (by omega)]; omega), hmR.at hT (by omega)]
          simp only [olet, nI_1]
          congr 2
          by_cases q1 : mA T i = 32
          · rw [decide_eq_true q1, decide_eq_true ((nl32_iff _).mpr (Or.inl q1))]; rfl
          · by_cases q2 : mA T i = 10
            · rw [decide_eq_true q2, decide_eq_true ((nl32_iff _).mpr (Or.inr q2))]; cases decide (mA T i = 32) <;> rfl
            · rw [decide_eq_false q1, decide_eq_false q2, decide_eq_false (fun hh => by rcases (nl32_iff _).mp hh with g | g; exact q1 g; exact q2 g)]; rfl
      obtain ⟨R1, q1, q2, q3, q4, q5, q6, q7, q8, q9, q10, q11, q12, q13⟩ := r127 (R := R) (l := G.map (fun en => en.1)) (it := it) s8 (by omega) s6 s7 (fun v hv => by
        obtain ⟨en, hen, rfl⟩ := List.mem_map.mp hv
        exact s9 en hen) 3 0
      have hmR1 : mR R1 T := ⟨(q13 3 (by decide) (by decide)).trans hmR.1, fun i hi => (q3 137 (by omega) i).trans (hmR.2 i hi)⟩
      have hib : it + 1 < 2 ^ 31 := by omega
      have h10 : zf R1 10 = nI pl := (q13 10 (by decide) (by decide)).trans p1
      have hmR2 : mR (zar R1 145 (nI (it + 1)) (nI pl)) T := hmR1.zar (by decide) _ _
      have hkeep : ∀ (a b : Nat), a ≤ b → b ≤ T.length → ∃ R3, kps (zar R1 145 (nI (it + 1)) (nI pl)) R3 pl (mcl T a (b - a)) ∧ g_146_252 oF (zar R1 145 (nI (it + 1)) (nI pl)) (nI k) (nI n) (nI y) (nI b) (nI (it + 1)) (nI a) = g_146_252 1 R3 (nI k) (nI n) (nI y) (nI b) (nI (it + 1)) (nI b) := by
        intro a b hab hbl
        have loop : ∀ d i m R2 l, i + d = b → d < m → pl + l.length + d ≤ 6000 → kps (zar R1 145 (nI (it + 1)) (nI pl)) R2 pl l → ∃ R3, kps (zar R1 145 (nI (it + 1)) (nI pl)) R3 pl (l ++ mcl T i d) ∧ g_146_252 m R2 (nI k) (nI n) (nI y) (nI b) (nI (it + 1)) (nI i) = g_146_252 1 R3 (nI k) (nI n) (nI y) (nI b) (nI (it + 1)) (nI b) := by
          intro d
          induction d with
          | zero =>
            intro i m R2 l hi hm hpl hkp
            obtain ⟨m, rfl⟩ : ∃ z, m = z + 1 := ⟨m - 1, by omega⟩
            obtain rfl : i = b := by omega
            refine ⟨R2, by rw [mcl, List.append_nil]; exact hkp, ?_⟩
            rw [g_146_252, g_146_252, if_pos (Int32.le_refl _), if_pos (Int32.le_refl _)]
          | succ d ih =>
            intro i m R2 l hi hm hpl hkp
            obtain ⟨m, rfl⟩ : ∃ z, m = z + 1 := ⟨m - 1, by omega⟩
            have hm2 := hkp.mR hmR2
            obtain ⟨R4, k1, k2⟩ := kps_snoc hkp (by omega) (nl32 (mA T i))
            obtain ⟨R3, k3, k4⟩ := ih (i + 1) m R4 (l ++ [nl32 (mA T i)]) (by omega) (by omega) (by rw [List.length_append]; simp only [List.length_cons, List.length_nil]; omega) k2
            refine ⟨R3, by rw [mcl]; rw [List.append_assoc] at k3; exact k3, ?_⟩
            rw [← k4, g_146_252, if_pos (hm2.sk hT), if_neg (by rw [nI_leI (by omega) (by omega)]; omega), hm2.at hT (by omega)]
            have hnl : (if ¬ mA T i = 10 then mA T i else 32 : Int32) = nl32 (mA T i) := by
              unfold nl32; by_cases g : mA T i = 10
              · rw [if_neg (fun h => h g), if_pos g]
              · rw [if_pos g, if_neg g]
            rw [hnl, k1]; simp only [Option.bind_some]
            rw [if_pos ((k2.mR hmR2).sk hT), nI_1]
        have h0 : kps (zar R1 145 (nI (it + 1)) (nI pl)) (zar R1 145 (nI (it + 1)) (nI pl)) pl [] := kps_nil h10
        have := loop (b - a) a oF _ [] (by omega) (by unfold oF; omega) (by show pl + 0 + (b - a) ≤ 6000; omega) h0
        rw [List.nil_append] at this; exact this
      obtain ⟨a, b, hab1, hab2, hab3, hl1, hl2⟩ : ∃ a b, e ≤ a ∧ a ≤ b ∧ b ≤ y ∧ codeL T e y = mcl T a (b - a) ∧
          g_146_123 1 R (nI k) (nI n) (nI y) (nI e) (nI y) (all32 T e (y - e)) (nI y) = g_146_252 oF (zar R1 145 (nI (it + 1)) (nI pl)) (nI k) (nI n) (nI y) (nI b) (nI (it + 1)) (nI a) := by
        have hun : ∀ w, g_146_123 1 R (nI k) (nI n) (nI y) (nI e) (nI y) w (nI y) = (g_146_252 oF (zar R1 145 (nI (it + 1)) (nI pl)) (nI k) (nI n) (nI y) (if w = true then nI y else (if mA T e = 32 then (if mA T (y - 1) = 32 then nI (y - 1) else (if ¬ mA T (y - 1) = 10 then nI y else nI (y - 1) : Int32) : Int32) else (if ¬ mA T e = 10 then nI y else (if mA T (y - 1) = 32 then nI (y - 1) else (if ¬ mA T (y - 1) = 10 then nI y else nI (y - 1) : Int32) : Int32) : Int32) : Int32) : Int32) (nI (it + 1)) (if w = true then nI e else (if mA T e = 32 then (if mA T (y - 1) = 32 then nI (e + 1) else (if ¬ mA T (y - 1) = 10 then nI e else nI (e + 1) : Int32) : Int32) else (if ¬ mA T e = 10 then nI e else (if mA T (y - 1) = 32 then nI (e + 1) else (if ¬ mA T (y - 1) = 10 then nI e else nI (e + 1) : Int32) : Int32) : Int32) : Int32) : Int32)) := by
          intro w
          have hm1 : nI y + -1 = nI (y - 1) := by
            rw [show y = (y - 1) + 1 by omega, pk_m1]; rfl
          rw [g_146_123, if_pos hS, if_pos (Int32.le_refl _), q1]
          simp only [Option.bind_some]
          rw [if_pos (hmR1.sk hT), if_pos (inq_nI (by show it + 1 < 8000; omega) (by omega)), h10, nI_sub1 (by omega), hmR.at hT (by omega), hmR.at hT (by omega), hm1, nI_1]; rfl
        rw [hun]
        by_cases hst : all32 T e (y - e) = false ∧ nl32 (mA T e) = 32 ∧ nl32 (mA T (y - 1)) = 32
        · have h2y := all32_two hst.1 hst.2.1
          refine ⟨e + 1, y - 1, by omega, by omega, by omega, by unfold codeL; rw [if_pos hst], ?_⟩
          have hf : ¬ all32 T e (y - e) = true := by rw [hst.1]; decide
          simp only [if_neg hf]
          rcases (nl32_iff _).mp hst.2.1 with g | g <;> rcases (nl32_iff _).mp hst.2.2 with g' | g' <;> rw [g, g'] <;> congr 1
        · refine ⟨e, y, Nat.le_refl _, by omega, Nat.le_refl _, by unfold codeL; rw [if_neg hst], ?_⟩
          by_cases ha : all32 T e (y - e) = true
          · rw [if_pos ha, if_pos ha]
          · rw [if_neg ha, if_neg ha]
            by_cases g1 : nl32 (mA T e) = 32
            · have g2 : ¬ nl32 (mA T (y - 1)) = 32 := fun g => hst ⟨Bool.eq_false_iff.mpr ha, g1, g⟩
              have g3 : ¬ mA T (y - 1) = 32 := fun g => g2 ((nl32_iff _).mpr (Or.inl g))
              have g4 : ¬ mA T (y - 1) = 10 := fun g => g2 ((nl32_iff _).mpr (Or.inr g))
              simp only [if_neg g3, if_pos g4, ite_self]
            · have g3 : ¬ mA T e = 32 := fun g => g1 ((nl32_iff _).mpr (Or.inl g))
              have g4 : ¬ mA T e = 10 := fun g => g1 ((nl32_iff _).mpr (Or.inr g))
              simp only [if_neg g3, if_pos g4]
      obtain ⟨R3, k1, k2⟩ := hkeep a b hab2 (by omega)
      have hlen : (mcl T a (b - a)).length = b - a := mcl_len T _ _
      have k145 : rv R3 145 (it + 1) = nI pl := by rw [k1.1 145 (by decide), rv_at _ _ _ hib, if_pos rfl]
      have kmR := k1.mR hmR2
      have h10' : zf R3 10 = nI (pl + (b - a)) := by rw [k1.2.2.2.1, hlen]
      have hres : g_146_252 1 R3 (nI k) (nI n) (nI y) (nI b) (nI (it + 1)) (nI b) = some (nI (y + n), zar R3 146 (nI (it + 1)) (nI (b - a))) := by
        rw [g_146_252, if_pos (kmR.sk hT), if_pos (Int32.le_refl _), if_pos (inq_nI (by show it + 1 < 8000; omega) (by omega)), if_pos (inq_nI (by show it + 1 < 8000; omega) (by omega)), zv_nI _ _ hib, k145, h10', pk_sub (by omega), nI_add]
        congr 3; congr 1; omega
      obtain ⟨R', hR'⟩ : ∃ R', R' = zar R3 146 (nI (it + 1)) (nI (b - a)) := ⟨_, rfl⟩
      rw [← hR'] at hres
      have r146 : rvn R' 146 (it + 1) = b - a := by
        unfold rvn; rw [show R'.2.2.1 146 (it + 1) = nI (b - a) from by rw [hR']; exact (rv_at _ _ _ hib _).trans (if_pos rfl), nI_clamp (by omega)]
      have roth : ∀ j, ¬ j = 146 → ∀ i, rv R' j i = rv R3 j i := fun j hj i => by rw [hR', rv_oth _ _ _ hj]
      have r145 : rvn R' 145 (it + 1) = pl := by
        unfold rvn; rw [show R'.2.2.1 145 (it + 1) = nI pl from (roth 145 (by decide) _).trans k145, nI_clamp (by omega)]
      have r143 : rv R' 143 (it + 1) = 3 := by rw [roth 143 (by decide), k1.1 143 (by decide), rv_oth _ _ _ (by decide)]; exact q5
      have r147 : rvn R' 147 (it + 1) = 0 := by
        unfold rvn; rw [show R'.2.2.1 147 (it + 1) = 0 from by rw [show R'.2.2.1 147 (it + 1) = rv R' 147 (it + 1) from rfl, roth 147 (by decide), k1.1 147 (by decide), rv_oth _ _ _ (by decide)]; exact q9]; rfl
      have r148 : rvn R' 148 (it + 1) = 0 := by
        unfold rvn; rw [show R'.2.2.1 148 (it + 1) = 0 from by rw [show R'.2.2.1 148 (it + 1) = rv R' 148 (it + 1) from rfl, roth 148 (by decide), k1.1 148 (by decide), rv_oth _ _ _ (by decide)]; exact q10]; rfl
      have rslE : rsl R' pl (b - a) = codeL T e y := by
        rw [rsl_all (R := R3) (fun i => roth 142 (by decide) i), hl1]
        have := k1.2.2.1
        rw [hlen] at this; exact this
      have hrt : rtok R' (it + 1) none = tk0 3 :: ((codeL T e y).map tkc ++ [tk0 10]) := by
        unfold rtok; dsimp only
        rw [r143, if_neg (by decide), if_pos rfl, r145, r146, rslE]
      have hRK : RK R R' it pl := ⟨fun j hj i => by
          rw [roth j (by omega), k1.1 j (by omega), rv_oth _ _ _ (by omega)]; exact q3 j (by omega) i, fun j j1 j2 x hx => by
          have e1 : rv R' j x = rv R3 j x := by
            rw [hR', rv_zar _ _ _ _ hib, if_neg (fun h => by omega)]
          rw [e1, k1.1 j (by omega), rv_zar _ _ _ _ hib, if_neg (fun h => by omega)]; exact q4 j j1 j2 x (by omega), fun i hi => by
          rw [roth 142 (by decide), k1.2.1 i hi, rv_oth _ _ _ (by decide)]; exact q3 142 (by omega) i, fun f hf => by
          rw [hR', zf_zar, k1.2.2.2.2 f (by rintro rfl; exact absurd hf (by decide)), zf_zar]; exact q13 f (by rintro rfl; exact absurd hf (by decide)) (by rintro rfl; exact absurd hf (by decide))⟩
      have hcl := codeL_len T e y
      have hclen : (codeL T e y).length = b - a := by rw [hl1]; exact hlen
      have hinv := inv_app (C' := C') (R' := R') (k' := y + n) (nl' := nl) (pl' := pl + (b - a)) h c2.ck2.ck hRK (by omega) a2 (fun q hq => c3 q (by omega)) (fun q hq => c2.ck2.ctok (c3 q (by omega)))
        (chn_cong _ _ q2 (fun v _ => by rw [roth 150 (by decide), k1.1 150 (by decide), rv_oth _ _ _ (by decide)]) (fun v _ => by rw [roth 151 (by decide), k1.1 151 (by decide), rv_oth _ _ _ (by decide)]) (by rw [hR', zf_zar, k1.2.2.2.2 21 (by decide), zf_zar]))
        (by rw [hR', zf_zar, k1.2.2.2.2 20 (by decide), zf_zar]; exact q12) (by rw [hrt]; exact c4) (IL_keep h.2.2.2.2.1 c2.ck2 (by omega) k (y + n) (fun q hq => c3 q hq) (fun q h1 h2 => c5 q h1 h2))
        (by rw [hR', zf_zar]; exact h10') ⟨by omega, by omega⟩ (fun _ => by rw [r145, r146, r147, r148]; omega) (fun hh => by rw [r143] at hh; exact absurd hh (by decide)) (by
          rw [hrt]
          show 5 * lws ([tk0 3] ++ ((codeL T e y).map tkc ++ [tk0 10])) ≤ _
          rw [lws_app, lws_app, lws_tkc]
          show 5 * (0 + ((codeL T e y).length + 0)) ≤ _
          omega) (Or.inr (by
          rw [hrt]
          show ows ([tk0 3] ++ ((codeL T e y).map tkc ++ [tk0 10])) ≤ _
          rw [ows_app, ows_app, ows_tkc]
          have := csts_le (codeL T e y)
          show 13 + (csts (codeL T e y) + 0) ≤ _
          omega)) (IX_none (by
          have := of_decide_eq_true (a1.1.2.2.2.2.1 (y + n - 1) (by omega) (by omega))
          rw [this]; decide)) (by
          rw [hrt]
          have : ncl ([tk0 3] ++ ((codeL T e y).map tkc ++ [tk0 10])) = 0 := by rw [ncl_app, ncl_app, ncl_tkc]; rfl
          exact Nat.le_trans (Nat.le_of_eq this) (Nat.zero_le _)) (by
          have z147 : rv R' 147 (it + 1) = 0 := by rw [roth 147 (by decide), k1.1 147 (by decide), rv_oth _ _ _ (by decide)]; exact q9
          have z148 : rv R' 148 (it + 1) = 0 := by rw [roth 148 (by decide), k1.1 148 (by decide), rv_oth _ _ _ (by decide)]; exact q10
          have z149 : rv R' 149 (it + 1) = -1 := by rw [roth 149 (by decide), k1.1 149 (by decide), rv_oth _ _ _ (by decide)]; exact q11
          refine ⟨fun j j1 j2 => ?_, fun _ => ⟨z147, z148, z149, fun hh => absurd r143 hh⟩, by rw [r143]; exact ⟨by decide, by decide⟩⟩
          have : j = 145 ∨ j = 146 ∨ j = 147 ∨ j = 148 := by omega
          rcases this with g | g | g | g
          · rw [g, r145]; exact (roth 145 (by decide) _).trans k145
          · rw [g, r146, hR']; exact (rv_at _ _ _ hib _).trans (if_pos rfl)
          · rw [g, r147, z147]; rfl
          · rw [g, r148, z148]; rfl)
      refine ⟨C', R', y + n, _, _, _, _, _, _, _, fun m => ?_, ?_, by omega, hinv, ?_, ?_⟩
      · rw [cls m, ho58, a3, if_pos (ne_m1 (by omega)), c1]; simp only [Option.bind_some]; rw [zmax_up (by omega) (by omega)]
      · have hb0 := hblank (y - e) e oF true (by omega) (Nat.le_refl _) (by unfold oF; omega)
        rw [Bool.true_and] at hb0
        rw [rfs, hr0, b2, nI_add, hke, hb0, hl2, k2, hres]; simp only [Option.bind_some, if_pos hinv.sok]
      · rw [hR', zf_zar, k1.2.2.2.2 46 (by decide), zf_zar, q13 46 (by decide) (by decide), ← f2]; unfold zc; rw [c2.2.1]
      · rw [hR', zf_zar, k1.2.2.2.2 47 (by decide), zf_zar, q13 47 (by decide) (by decide), ← f3]; unfold zc; rw [c2.2.1]
end
