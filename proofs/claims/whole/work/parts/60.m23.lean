/-! the mathematics; written by wip/whole/m2parts.py -/
theorem f79_eq {C : zr_Z} (p q : Int32) : f_79 C p q = k_136 (k_195 p) (k_199 p) (k_195 q) (k_199 q) := rfl
theorem blank_eq {T : List Int32} (hT : gT T) (i : Nat) : k_135 (mA T i) = k_195 (if T.length ≤ i then 10 else mA T i) := by
  by_cases h : T.length ≤ i
  · rw [if_pos h, mA_out h]; decide
  · rw [if_neg h]; unfold k_135 k_195
    have : ¬ mA T i = -1 := by rw [mA_ne hT]; exact h
    rw [decide_eq_false this, Bool.false_or, k143]
theorem punct_eq {T : List Int32} (i : Nat) : k_181 (mA T i) = k_199 (if T.length ≤ i then 10 else mA T i) := by
  by_cases h : T.length ≤ i
  · rw [if_pos h, mA_out h]; decide
  · rw [if_neg h]; rfl
theorem c78 {C : zr_Z} {n : Nat} (hn : n < 1500) (h : ∀ id ∈ [91, 93, 95, 97, 99, 101], (C.1 id).length = n) (a b : Int32) : ∃ o cl,
    o = (((f_79 C (if (zs C 61) ≤ b then 10 else (zt C 61 b) : Int32) (if a ≤ 0 then 10 else (zt C 61 (a - 1)) : Int32)) && (((decide ((zt C 61 a) = 42))) || ((!(f_79 C (if a ≤ 0 then 10 else (zt C 61 (a - 1)) : Int32) (if (zs C 61) ≤ b then 10 else (zt C 61 b) : Int32))) || (k_199 (if a ≤ 0 then 10 else (zt C 61 (a - 1)) : Int32)))))) ∧
    cl = (((f_79 C (if a ≤ 0 then 10 else (zt C 61 (a - 1)) : Int32) (if (zs C 61) ≤ b then 10 else (zt C 61 b) : Int32)) && (((decide ((zt C 61 a) = 42))) || ((!(f_79 C (if (zs C 61) ≤ b then 10 else (zt C 61 b) : Int32) (if a ≤ 0 then 10 else (zt C 61 (a - 1)) : Int32))) || (k_199 (if (zs C 61) ≤ b then 10 else (zt C 61 b) : Int32)))))) ∧
    (f_78 C a b).2 = C.2 ∧ (f_78 C a b).1 91 = C.1 91 ++ [zt C 61 a] ∧ (f_78 C a b).1 93 = C.1 93 ++ [b - a] ∧ (f_78 C a b).1 95 = C.1 95 ++ [a] ∧ (f_78 C a b).1 97 = C.1 97 ++ [b] ∧ (f_78 C a b).1 99 = C.1 99 ++ [bI o] ∧ (f_78 C a b).1 101 = C.1 101 ++ [bI cl] ∧ ∀ id, ¬ id ∈ [91, 93, 95, 97, 99, 101] → (f_78 C a b).1 id = C.1 id := by
  have h91 : (C.1 91).length < 1500 := by rw [h 91 (by decide)]; exact hn
  have h93 : (C.1 93).length < 1500 := by rw [h 93 (by decide)]; exact hn
  have h95 : (C.1 95).length < 1500 := by rw [h 95 (by decide)]; exact hn
  have h97 : (C.1 97).length < 1500 := by rw [h 97 (by decide)]; exact hn
  have h99 : (C.1 99).length < 1500 := by rw [h 99 (by decide)]; exact hn
  have h101 : (C.1 101).length < 1500 := by rw [h 101 (by decide)]; exact hn
  refine ⟨_, _, rfl, rfl, ?_⟩
  unfold f_78
  refine ⟨rfl, ?_, ?_, ?_, ?_, ?_, ?_, ?_⟩
  · rw [zadd_oth (by decide), zadd_oth (by decide), zadd_oth (by decide), zadd_oth (by decide), zadd_oth (by decide), zadd_row h91]
  · rw [zadd_oth (by decide), zadd_oth (by decide), zadd_oth (by decide), zadd_oth (by decide), zadd_row, zadd_oth (by decide)]
    rw [zadd_oth (by decide)]; exact h93
  · rw [zadd_oth (by decide), zadd_oth (by decide), zadd_oth (by decide), zadd_row, zadd_oth (by decide), zadd_oth (by decide)]
    rw [zadd_oth (by decide), zadd_oth (by decide)]; exact h95
  · rw [zadd_oth (by decide), zadd_oth (by decide), zadd_row, zadd_oth (by decide), zadd_oth (by decide), zadd_oth (by decide)]
    rw [zadd_oth (by decide), zadd_oth (by decide), zadd_oth (by decide)]; exact h97
  · rw [zadd_oth (by decide), zadd_row, zadd_oth (by decide), zadd_oth (by decide), zadd_oth (by decide), zadd_oth (by decide)]
    rw [zadd_oth (by decide), zadd_oth (by decide), zadd_oth (by decide), zadd_oth (by decide)]; exact h99
  · rw [zadd_row, zadd_oth (by decide), zadd_oth (by decide), zadd_oth (by decide), zadd_oth (by decide), zadd_oth (by decide)]
    rw [zadd_oth (by decide), zadd_oth (by decide), zadd_oth (by decide), zadd_oth (by decide), zadd_oth (by decide)]; exact h101
  · intro id hid
    simp only [List.mem_cons, List.not_mem_nil, or_false, not_or] at hid
    rw [zadd_oth hid.2.2.2.2.2, zadd_oth hid.2.2.2.2.1, zadd_oth hid.2.2.2.1, zadd_oth hid.2.2.1, zadd_oth hid.2.1, zadd_oth hid.1]
theorem bool_run (s l r p : Bool) : (l && (s || (!r || p))) = (bif !s then l && (!r || p) else l) := by
  cases s <;> cases l <;> cases r <;> cases p <;> rfl
section
variable {C R : zr_Z} {T : List Int32} {D : List (List Int32)} {k : Nat} {G : List Ent} {live : List Nat} {rc : Nat} {bs : List (Nat × Nat × Nat × Nat)} {nl pl it : Nat}
theorem rc_le (h : INV C R T D k G live rc bs nl pl it) : rc ≤ k := h.2.2.2.1.2.2.1.2
end
theorem live_len : ∀ (l : List Nat) a n, l.Pairwise (fun a b => a < b) → (∀ r ∈ l, a ≤ r ∧ r < n) → l.length ≤ n - a := by
  intro l
  induction l with
  | nil => intro a n _ _; exact Nat.zero_le _
  | cons r l ih =>
    intro a n hp hr
    rw [List.pairwise_cons] at hp
    have h1 := hr r (List.mem_cons_self ..)
    have := ih (r + 1) n hp.2 (fun s hs => ⟨hp.1 s hs, (hr s (List.mem_cons_of_mem _ hs)).2⟩)
    rw [List.length_cons]; omega
theorem live_le {C R : zr_Z} {T : List Int32} {G : List Ent} {live : List Nat} {rc : Nat} (h : IR C R T G live rc) : live.length ≤ rc := by
  have := live_len live 0 rc h.2.1 (fun r hr => ⟨Nat.zero_le _, h.2.2.1 r hr⟩); omega
section
variable {C R : zr_Z} {T : List Int32} {D : List (List Int32)} {k : Nat} {G : List Ent} {live : List Nat} {rc : Nat} {bs : List (Nat × Nat × Nat × Nat)} {nl pl it : Nat}
theorem part_run (h : INV C R T D k G live rc bs nl pl it) (hk : k < T.length) (h2 : zc C 2 = 0) (f2 : zc C 2 = zf R 46) (f3 : zc C 3 = zf R 47) (hc : mA T k = 42 ∨ mA T k = 95) : PARTOK C R T D k := by
  have hT := h.1.2.2.1
  have hl := hT.1
  have hmC := h.1.1
  have hmR := h.1.2.1
  have hS := h.sok
  have hrc := rc_le h
  have hlv := live_le h.2.2.1
  obtain ⟨s1, s2, s3, s4, s5, s6, s7, s8, s9, s10⟩ := h.2.1
  obtain ⟨e, e1, e2, e3, e4⟩ := c93 hmC hT hk
  have cls : ∀ n, g_54_6 (n + 1) C (nI k) = g_54_6 n (f_78 C (nI k) (f_93 C (nI k))) (zmax (nI (k + 1)) (f_93 C (nI k))) := by
    intro n; rw [cs_in hmC hT hk h2]; rcases hc with hc | hc <;> rw [hc] <;> rfl
  have rfs : o_149 R (nI k) = (Option.bind (o_137 R (nI k)) fun u12 => (if sok u12.2 then some (u12.1, u12.2) else none)) := by
    rw [rs_in hmR hT hk]; rcases hc with hc | hc <;> rw [hc] <;> rfl
  have hne : ¬ mA T e = mA T k := of_decide_eq_false e3.2.2
  have loop : ∀ d i m, i + d = e → k ≤ i → d < m → g_137_8 m R (nI k) (mA T k) (nI i) = g_137_8 1 R (nI k) (mA T k) (nI e) := by
    intro d
    induction d with
    | zero =>
      intro i m hi hki hm
      obtain ⟨m, rfl⟩ : ∃ z, m = z + 1 := ⟨m - 1, by omega⟩
      obtain rfl : i = e := by omega
      rw [g_137_8, g_137_8, if_pos hS, if_pos hS, hmR.at hT (by omega), if_pos hne, if_pos hne]
    | succ d ih =>
      intro i m hi hki hm
      obtain ⟨m, rfl⟩ : ∃ z, m = z + 1 := ⟨m - 1, by omega⟩
      have := of_decide_eq_true (e3.2.1 i hki (by omega))
      rw [g_137_8, if_pos hS, hmR.at hT (by omega), if_neg (fun h => h this), nI_1]
      exact ih (i + 1) m (by omega) (by omega) (by omega)
  obtain ⟨o, cl, ho, hcl, c0, c91, c93', c95, c97, c99, c101, coth⟩ := c78 (C := C) (n := live.length) (by omega) h.2.2.1.1 (nI k) (nI e)
  obtain ⟨R1, q1, q2, q3, q4, q5, q6, q7, q8, q9, q10, q11, q12, q13⟩ := r127 (R := R) (l := G.map (fun en => en.1)) (it := it) s8 (by omega) s6 s7 (fun v hv => by
    obtain ⟨en, hen, rfl⟩ := List.mem_map.mp hv
    exact s9 en hen) 10 (mA T k)
  have h28 : zf R 28 = nI rc := h.2.2.1.2.2.2.1
  have h28' : zf R1 28 = nI rc := (q13 28 (by decide) (by decide)).trans h28
  have hmR1 : mR R1 T := ⟨(q13 3 (by decide) (by decide)).trans hmR.1, fun i hi => (q3 137 (by omega) i).trans (hmR.2 i hi)⟩
  have hq : ∀ j, zr_alen j = 1500 → inq j (nI rc) := fun j hj => inq_nI (by omega) (by omega)
  have hahead : k_135 (ra R (nI k - 1)) = k_195 (if nI k ≤ 0 then 10 else zt C 61 (nI k - 1)) ∧ k_181 (ra R (nI k - 1)) = k_199 (if nI k ≤ 0 then 10 else zt C 61 (nI k - 1)) := by
    by_cases hk0 : k = 0
    · have hle : nI k ≤ 0 := by rw [hk0, nI_0]; decide
      have : ra R (nI k - 1) = -1 := by
        rw [hk0, nI_0]; unfold ra; rw [if_pos (by decide)]
      rw [this, if_pos hle]; decide
    · have hle : ¬ nI k ≤ 0 := by rw [← nI_0, nI_leI (by omega) (by omega)]; omega
      rw [if_neg hle, nI_sub1 (by omega), hmR.at hT (by omega), hmC.at (by omega), blank_eq hT, punct_eq, if_neg (by omega)]; exact ⟨rfl, rfl⟩
  have hbehind : k_135 (ra R (nI e)) = k_195 (if zs C 61 ≤ nI e then 10 else zt C 61 (nI e)) ∧ k_181 (ra R (nI e)) = k_199 (if zs C 61 ≤ nI e then 10 else zt C 61 (nI e)) := by
    rw [hmR.at hT (by omega), blank_eq hT, punct_eq, hmC.sz, hmC.at (by omega)]
    simp (disch := omega) only [nI_leI]; exact ⟨trivial, trivial⟩
  have hzk : zt C 61 (nI k) = mA T k := hmC.at (by omega)
  have ho' : (bif !(decide (mA T k = 42)) then (k_136 (k_135 (ra R (nI e))) (k_181 (ra R (nI e))) (k_135 (ra R (nI k - 1))) (k_181 (ra R (nI k - 1)))) && ((!(k_136 (k_135 (ra R (nI k - 1))) (k_181 (ra R (nI k - 1))) (k_135 (ra R (nI e))) (k_181 (ra R (nI e))))) || (k_181 (ra R (nI k - 1)))) else (k_136 (k_135 (ra R (nI e))) (k_181 (ra R (nI e))) (k_135 (ra R (nI k - 1))) (k_181 (ra R (nI k - 1))))) = o := by
    rw [ho, f79_eq, f79_eq, hahead.1, hahead.2, hbehind.1, hbehind.2, hzk, bool_run]
  have hcl' : (bif !(decide (mA T k = 42)) then (k_136 (k_135 (ra R (nI k - 1))) (k_181 (ra R (nI k - 1))) (k_135 (ra R (nI e))) (k_181 (ra R (nI e)))) && ((!(k_136 (k_135 (ra R (nI e))) (k_181 (ra R (nI e))) (k_135 (ra R (nI k - 1))) (k_181 (ra R (nI k - 1))))) || (k_181 (ra R (nI e)))) else (k_136 (k_135 (ra R (nI k - 1))) (k_181 (ra R (nI k - 1))) (k_135 (ra R (nI e))) (k_181 (ra R (nI e))))) = cl := by
    rw [hcl, f79_eq, f79_eq, hahead.1, hahead.2, hbehind.1, hbehind.2, hzk, bool_run]
  have hsub : nI e - nI k = nI (e - k) := pk_sub (by omega)
  have hres : o_137 R (nI k) = some (nI e, zmf (zar (zar (zar (zar (zar (zar R1 152 (nI rc) (nI (it + 1))) 153 (nI rc) (nI (e - k))) 154 (nI rc) (nI (e - k))) 155 (nI rc) (bI o)) 156 (nI rc) (bI cl)) 157 (nI rc) 0) 28 (nI (rc + 1))) := by
    unfold o_137
    rw [if_pos hS, hmR.at hT (by omega : k < 2 ^ 31), loop (e - k) k oF (by omega) (Nat.le_refl _) (by unfold oF; omega), g_137_8, if_pos hS, if_pos (by rw [hmR.at hT (by omega)]; exact hne)]
    simp only [olet]
    rw [q1]
    simp only [Option.bind_some]
    rw [if_pos (hmR1.sk hT), h28, h28', if_pos (hq 152 rfl), if_pos (hq 153 rfl), if_pos (hq 154 rfl), if_pos (hq 155 rfl), if_pos (hq 156 rfl), if_pos (hq 157 rfl), ho', hcl', hsub]
    simp only [zf_zar, h28', nI_1]
  have hrcb : rc < 2 ^ 31 := by omega
  have hinv := inv_run (C' := f_78 C (nI k) (nI e)) (R' := zmf (zar (zar (zar (zar (zar (zar R1 152 (nI rc) (nI (it + 1))) 153 (nI rc) (nI (e - k))) 154 (nI rc) (nI (e - k))) 155 (nI rc) (bI o)) 156 (nI rc) (bI cl)) 157 (nI rc) 0) 28 (nI (rc + 1))) (n := e - k) (c := mA T k) (o := o) (cl := cl) h (by omega) (by omega) (fun q h1 h2 => of_decide_eq_true (e3.2.1 q h1 (by omega)))
    ⟨coth, by unfold zc; rw [c0], by rw [c91, hzk], by rw [c93', hsub], c95, by rw [c97, show k + (e - k) = e by omega], c99, c101⟩
    ⟨fun j hj i => by
      rw [rv_zmf, rv_oth _ _ _ (by omega), rv_oth _ _ _ (by omega), rv_oth _ _ _ (by omega), rv_oth _ _ _ (by omega), rv_oth _ _ _ (by omega), rv_oth _ _ _ (by omega)]
      exact q3 j (by omega) i, fun j j1 j2 x hx => by
      rw [rv_zmf, rv_oth _ _ _ (by omega), rv_oth _ _ _ (by omega), rv_oth _ _ _ (by omega), rv_oth _ _ _ (by omega), rv_oth _ _ _ (by omega), rv_oth _ _ _ (by omega)]
      exact q4 j j1 j2 x (by omega), fun j j1 j2 i hi => by
      simp only [rv_zmf, rv_zar _ _ _ _ hrcb]
      rw [if_neg (fun h => hi h.2), if_neg (fun h => hi h.2), if_neg (fun h => hi h.2), if_neg (fun h => hi h.2), if_neg (fun h => hi h.2), if_neg (fun h => hi h.2)]
      exact q3 j (by omega) i, fun f hf => by
      rw [zf_other _ _ (by rintro rfl; exact absurd hf (by decide))]
      exact q13 f (by rintro rfl; exact absurd hf (by decide)) (by rintro rfl; exact absurd hf (by decide))⟩
    ⟨by rw [rv_zmf, rv_oth _ _ _ (by decide), rv_oth _ _ _ (by decide), rv_oth _ _ _ (by decide), rv_oth _ _ _ (by decide), rv_oth _ _ _ (by decide), rv_at _ _ _ hrcb, if_pos rfl],
     by rw [rv_zmf, rv_oth _ _ _ (by decide), rv_oth _ _ _ (by decide), rv_oth _ _ _ (by decide), rv_oth _ _ _ (by decide), rv_at _ _ _ hrcb, if_pos rfl],
     by rw [rv_zmf, rv_oth _ _ _ (by decide), rv_oth _ _ _ (by decide), rv_oth _ _ _ (by decide), rv_at _ _ _ hrcb, if_pos rfl],
     by rw [rv_zmf, rv_oth _ _ _ (by decide), rv_oth _ _ _ (by decide), rv_at _ _ _ hrcb, if_pos rfl],
     by rw [rv_zmf, rv_oth _ _ _ (by decide), rv_at _ _ _ hrcb, if_pos rfl],
     by rw [rv_zmf, rv_at _ _ _ hrcb, if_pos rfl],
     by rw [rv_zmf, rv_oth _ _ _ (by decide), rv_oth _ _ _ (by decide), rv_oth _ _ _ (by decide), rv_oth _ _ _ (by decide), rv_oth _ _ _ (by decide), rv_oth _ _ _ (by decide)]; exact q5,
     by rw [rv_zmf, rv_oth _ _ _ (by decide), rv_oth _ _ _ (by decide), rv_oth _ _ _ (by decide), rv_oth _ _ _ (by decide), rv_oth _ _ _ (by decide), rv_oth _ _ _ (by decide)]; exact q6⟩
    (chn_cong _ _ q2 (fun v _ => by rw [rv_zmf, rv_oth _ _ _ (by decide), rv_oth _ _ _ (by decide), rv_oth _ _ _ (by decide), rv_oth _ _ _ (by decide), rv_oth _ _ _ (by decide), rv_oth _ _ _ (by decide)]) (fun v _ => by rw [rv_zmf, rv_oth _ _ _ (by decide), rv_oth _ _ _ (by decide), rv_oth _ _ _ (by decide), rv_oth _ _ _ (by decide), rv_oth _ _ _ (by decide), rv_oth _ _ _ (by decide)]) (by rw [zf_other _ _ (by decide)]; rfl))
    (by rw [zf_other _ _ (by decide)]; exact q12) (zf_same _ _ _) (by rcases hc with hc | hc <;> rw [hc] <;> decide)
  rw [show k + (e - k) = e by omega] at hinv
  refine ⟨_, _, e, _, _, _, _, _, _, _, fun n => ?_, ?_, by omega, hinv, ?_, ?_⟩
  · rw [cls n, e4, zmax_up (by omega) (by omega)]
  · rw [rfs, hres]; simp only [Option.bind_some, if_pos hinv.sok]
  · rw [zf_other _ _ (by decide), zf_zar, zf_zar, zf_zar, zf_zar, zf_zar, zf_zar, q13 46 (by decide) (by decide), ← f2]; unfold zc; rw [c0]
  · rw [zf_other _ _ (by decide), zf_zar, zf_zar, zf_zar, zf_zar, zf_zar, zf_zar, q13 47 (by decide) (by decide), ← f3]; unfold zc; rw [c0]
end
