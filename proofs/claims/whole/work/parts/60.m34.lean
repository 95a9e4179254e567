/-! the mathematics; written by wip/whole/m2parts.py -/
def pkeep (C C' R R' : zr_Z) (k fi c : Nat) : Prop :=
  C'.2 = C.2 ∧ (∀ id, ¬ id ∈ [66, 95, 97, 99] → C'.1 id = C.1 id) ∧ (∀ f, ¬ f = 20 → ¬ f = 21 → zf R' f = zf R f) ∧ (∀ r, (r < fi ∨ c ≤ r) → rv R' 157 r = rv R 157 r) ∧ (∀ jj, 155 ≤ jj → ¬ jj = 157 → ∀ r, rv R' jj r = rv R jj r) ∧ (∀ q, k ≤ q → kd C' q = kd C q ∧ vl C' q = vl C q)
theorem pkeep.refl (C R : zr_Z) (k fi c : Nat) : pkeep C C R R k fi c := ⟨rfl, fun _ _ => rfl, fun _ _ _ => rfl, fun _ _ => rfl, fun _ _ _ _ => rfl, fun _ _ => ⟨rfl, rfl⟩⟩
theorem pkeep.trans {C D E R S U : zr_Z} {k fi c d : Nat} (h : pkeep C D R S k fi c) (g : pkeep D E S U k fi d) (hcd : c ≤ d) : pkeep C E R U k fi d :=
  ⟨g.1.trans h.1, fun id hid => (g.2.1 id hid).trans (h.2.1 id hid), fun f f1 f2 => (g.2.2.1 f f1 f2).trans (h.2.2.1 f f1 f2), fun r hr => (g.2.2.2.1 r hr).trans (h.2.2.2.1 r (by omega)), fun jj j1 j2 r => (g.2.2.2.2.1 jj j1 j2 r).trans (h.2.2.2.2.1 jj j1 j2 r), fun q hq => ⟨(g.2.2.2.2.2 q hq).1.trans (h.2.2.2.2.2 q hq).1, (g.2.2.2.2.2 q hq).2.trans (h.2.2.2.2.2 q hq).2⟩⟩
section
variable {T : List Int32} {D : List (List Int32)} {k u : Nat} {live : List Nat} {rc : Nat} {bs : List (Nat × Nat × Nat × Nat)} {nl pl : Nat}
theorem pair_inner {j c fi b0 : Nat} (hku : k ≤ u) (hj : live[j]? = some c) (hfc : fi ≤ c) (hb0 : live.countP (fun r => decide (r < fi)) = b0) :
    ∀ w C R G it, INV0 C R T D k u G live rc bs nl pl it → rv R 157 c = 0 → rv R 156 c = 1 → ∀ xc ac ec, (xc, ac, ec, some c) ∈ G → ac ≤ ec → ec - ac = w → ∀ n m turns, w ≤ turns → turns ≤ 1500 → turns < n → w + 2 < m →
    ∃ C1 R1 G1 it1, INV0 C1 R1 T D k u G1 live rc bs nl pl it1 ∧ pkeep C C1 R R1 k fi c ∧ (∀ K, (Option.bind (o_82 C (nI j) (nI b0)) fun x => g_80_27 n C (nI b0) (nI j) x (nI turns) K) = K C1 (nI (j + 1))) ∧ (∀ K, g_134_34 m R (nI fi) (nI c) true K = K R1 (nI (c + 1))) := by
  intro w
  induction w using Nat.strongRecOn with
  | ind w ih =>
  intro C R G it h hov hcl xc ac ec hmem hle hw n m turns ht ht2 hn hm
  have hL := h.1.2.2.1.1
  have hkL := h.2.1.2.2.1
  obtain ⟨r1, r2, r3, r4, r5, r6, r7, r8⟩ := h.2.2.1
  have hrck := h.2.2.2.1.2.2.1.2
  have hlv := live_le (h.2.2.1)
  have hjl : j < live.length := (List.getElem?_eq_some_iff.mp hj).1
  have hcrc : c < rc := r3 c (List.mem_of_getElem? hj)
  have hcnt := cnt_of_get live j c r2 hj
  obtain ⟨x2, a2, e2, m2, p91, p93, p95, p97, p101, p99, pmk⟩ := r8 j c hj
  obtain ⟨v1, v2, v3, v4, v5⟩ := r6 xc ac ec c hmem
  obtain ⟨v1', v2', v3', -, -⟩ := r6 x2 a2 e2 c m2
  have hsg := SG_mem G 0 k h.2.1.2.2.2.2.1 _ m2
  have hsg' := SG_mem G 0 k h.2.1.2.2.2.2.1 _ hmem
  dsimp only at hsg hsg'
  have hww : e2 - a2 = w := by
    have := v3.symm.trans v3'
    have := nI_inj (by omega) (by omega) this
    omega
  have z101 : zt C 101 (nI j) = 1 := by rw [zt_ldq C 101 (by omega), p101]; exact hcl
  have hf81 : f_81 C (nI j) = nI w := by unfold f_81; rw [zt_ldq C 97 (by omega), zt_ldq C 95 (by omega), p97, p95, pk_sub (by omega), hww]
  have hq : inq 154 (nI c) := inq_nI (by show c < 1500; omega) (by omega)
  have h154 : zv R 154 (nI c) = nI w := by rw [zv_nI _ _ (by omega), v3, hw]
  obtain ⟨n, rfl⟩ : ∃ z, n = z + 1 := ⟨n - 1, by omega⟩
  obtain ⟨m, rfl⟩ : ∃ z, m = z + 1 := ⟨m - 1, by omega⟩
  have cstop : ∀ K, g_80_27 (n + 1) C (nI b0) (nI j) (-1) (nI turns) K = K C (nI (j + 1)) := by
    intro K; rw [g_80_27, nI_1]; split
    · rfl
    · rw [if_pos rfl]
  by_cases hw0 : w = 0
  · refine ⟨C, R, G, it, h, pkeep.refl C R k fi c, fun K => ?_, fun K => ?_⟩
    · have : o_82 C (nI j) (nI b0) = some (-1) := by
        unfold o_82; rw [z101, if_neg (fun hh => hh rfl), hf81, hw0, nI_0, if_neg (fun hh => hh rfl)]
      rw [this]; simp only [Option.bind_some]; exact cstop K
    · rw [g_134_34, if_pos rfl, if_pos hq, h154, if_pos (by rw [hw0, nI_0]; decide), nI_1]
  have hwz : ¬ nI w = 0 := by rw [← nI_0, nI_eq (by omega) (by omega)]; exact hw0
  have hwz2 : ¬ nI w ≤ 0 := by rw [← nI_0, nI_leI (by omega) (by omega)]; omega
  have ho82 : o_82 C (nI j) (nI b0) = g_82_26 oF C (nI j) (nI b0) (cI j) := by
    unfold o_82; rw [z101, if_neg (fun hh => hh rfl), hf81, if_pos hwz]; rfl
  have ho133 : o_133 R (nI c) (nI fi) = g_133_4 oF R (nI c) (nI fi) (cI c) := rfl
  have hlk := opener_lock h hj hov hcl hb0 (c - fi) c oF oF (by omega) (Nat.le_refl _) (by rw [hcnt]; unfold oF; omega) (by unfold oF; omega)
  rw [hcnt, ← ho82, ← ho133] at hlk
  rcases hlk with ⟨g1, g2⟩ | ⟨i, ro, g1, g2, g3, g4, g5, ⟨xo, ao, eo, g6, g7⟩, g8, g9⟩
  · refine ⟨C, R, G, it, h, pkeep.refl C R k fi c, fun K => ?_, fun K => ?_⟩
    · rw [g1]; simp only [Option.bind_some]; exact cstop K
    · rw [g_134_34, if_pos rfl, if_pos hq, h154, if_neg hwz2, g2]
      simp only [Option.bind_some, olet]
      obtain ⟨m, rfl⟩ : ∃ z, m = z + 1 := ⟨m - 1, by omega⟩
      rw [if_neg (show ¬ (!decide True) = true by decide), g_134_34, if_neg (show ¬ (!decide True) = true by decide), nI_1]
  · obtain ⟨nn, hnn⟩ : ∃ nn, nn = if eo - ao ≤ 1 ∨ ec - ac ≤ 1 then 1 else 2 := ⟨_, rfl⟩
    have hnn12 : nn = 1 ∨ nn = 2 := by rw [hnn]; split <;> simp
    have hnnle : nn ≤ eo - ao ∧ nn ≤ ec - ac := by rw [hnn]; split <;> omega
    obtain ⟨S6, G', q1, q2, q3, q4, q5, q6, q10, ⟨x', a', e', q7, q8⟩, q9⟩ := inv_join h hku g1 hj g4 g6 hmem g7 (by omega) hnn hov
    have hov' : rv S6 157 c = 0 := by rw [q5, if_neg (by omega)]; exact hov
    have hcl' : rv S6 156 c = 1 := by rw [q6 156 (by omega) (by decide)]; exact hcl
    have hsg'' := SG_mem G' 0 k q1.2.1.2.2.2.2.1 _ q7
    dsimp only at hsg''
    obtain ⟨turns, rfl⟩ : ∃ z, turns = z + 1 := ⟨turns - 1, by omega⟩
    obtain ⟨C1, R1, G1, it1, w1, w2, w3, w4⟩ := ih (e' - a') (by omega) (f_74 C (nI i) (nI j)) S6 G' (it + 2) q1 hov' hcl' x' a' e' q7 (by omega) rfl n m turns (by omega) (by omega) (by omega) (by omega)
    refine ⟨C1, R1, G1, it1, w1, ?_, fun K => ?_, fun K => ?_⟩
    · refine pkeep.trans (c := c) ⟨q2, q3, q4, fun r hr => by rw [q5, if_neg (by omega)], q6, q10⟩ w2 (Nat.le_refl _)
    · rw [g8]; simp only [Option.bind_some]
      have hil : i < live.length := (List.getElem?_eq_some_iff.mp g1).1
      rw [g_80_27, if_neg (by rw [← nI_0, nI_leI (by omega) (by omega)]; omega), if_neg (ne_m1 (by omega)), pk_m1]
      exact w3 K
    · have hroc := r3 ro (List.mem_of_getElem? g1)
      obtain ⟨-, -, hvo, -, -⟩ := r6 xo ao eo ro g6
      have hqo : inq 154 (nI ro) := inq_nI (by show ro < 1500; omega) (by omega)
      have h154o : zv R 154 (nI ro) = nI (eo - ao) := by rw [zv_nI _ _ (by omega), hvo]
      have hsgo := SG_mem G 0 k h.2.1.2.2.2.2.1 _ g6
      dsimp only at hsgo
      have le1 : ∀ v, v ≤ 1500 → (nI v ≤ 1 ↔ v ≤ 1) := fun v hv => by rw [show (1 : Int32) = nI 1 from rfl, nI_leI (by omega) (by omega)]
      have htk : (if (nI (eo - ao)) ≤ 1 then 1 else (if (nI w) ≤ 1 then 1 else 2 : Int32) : Int32) = nI nn := by
        rw [hnn]
        by_cases d1 : eo - ao ≤ 1
        · rw [if_pos ((le1 _ (by omega)).mpr d1), if_pos (Or.inl d1)]; rfl
        · rw [if_neg (fun hh => d1 ((le1 _ (by omega)).mp hh))]
          by_cases d2 : ec - ac ≤ 1
          · rw [if_pos ((le1 _ (by omega)).mpr (by omega)), if_pos (Or.inr d2)]; rfl
          · rw [if_neg (fun hh => d2 (by have := (le1 _ (by omega)).mp hh; omega)), if_neg (by omega)]; rfl
      have hob : (if (nI (eo - ao)) ≤ 1 then True else (inq 154 (nI c) ∧ (if (nI w) ≤ 1 then True else True))) := by
        split
        · trivial
        · exact ⟨hq, by split <;> trivial⟩
      rw [g_134_34, if_pos rfl, if_pos hq, h154, if_neg hwz2, g9]
      simp only [Option.bind_some, olet]
      rw [decide_eq_false (ne_m1 (by omega)), Bool.not_false, if_pos rfl, if_pos hqo, h154o, if_pos hob, htk, if_pos hqo, if_pos hqo, if_pos hq, if_pos hq]
      have := q9 (nI fi) (fun Z x2 y3 => g_134_34 m Z (nI fi) x2 y3 K)
      rw [← w4 K]; exact this
theorem pair_outer {fi b0 : Nat} (hku : k ≤ u) (hb0 : live.countP (fun r => decide (r < fi)) = b0) :
    ∀ d c C R G it n m, c + d = rc → fi ≤ c → INV0 C R T D k u G live rc bs nl pl it → (∀ r ∈ live, c ≤ r → rv R 157 r = 0) → live.length - live.countP (fun r => decide (r < c)) < n → d < m →
    ∃ C1 R1 G1 it1, INV0 C1 R1 T D k u G1 live rc bs nl pl it1 ∧ pkeep C C1 R R1 k fi rc ∧ g_80_2 n C (nI b0) (nI (live.countP (fun r => decide (r < c)))) = some (f_77 C1 (nI b0)) ∧ g_134_2 m R (nI fi) (nI c) = g_134_208 oF R1 (nI fi) (nI fi) := by
  intro d
  induction d with
  | zero =>
    intro c C R G it n m hc hfc h hov hn hm
    have hL := h.1.2.2.1.1
    have hkL := h.2.1.2.2.1
    obtain ⟨r1, r2, r3, r4, r5, r6, r7, r8⟩ := h.2.2.1
    have hrck := h.2.2.2.1.2.2.1.2
    have hlv := live_le (h.2.2.1)
    obtain ⟨n, rfl⟩ : ∃ z, n = z + 1 := ⟨n - 1, by omega⟩
    obtain ⟨m, rfl⟩ : ∃ z, m = z + 1 := ⟨m - 1, by omega⟩
    obtain rfl : c = rc := by omega
    have hall : live.countP (fun r => decide (r < c)) = live.length := List.countP_eq_length.mpr (fun r hr => decide_eq_true (r3 r hr))
    refine ⟨C, R, G, it, h, pkeep.refl C R k fi c, ?_, ?_⟩
    · have hz : zs C 91 = nI live.length := by unfold zs; rw [r1 91 (by decide)]
      rw [hall, g_80_2, hz, if_pos (Int32.le_refl _)]
    · rw [g_134_2, r4, if_pos (Int32.le_refl _)]
  | succ d ih =>
    intro c C R G it n m hc hfc h hov hn hm
    have hL := h.1.2.2.1.1
    have hkL := h.2.1.2.2.1
    obtain ⟨r1, r2, r3, r4, r5, r6, r7, r8⟩ := h.2.2.1
    have hrck := h.2.2.2.1.2.2.1.2
    have hlv := live_le (h.2.2.1)
    obtain ⟨m, rfl⟩ : ∃ z, m = z + 1 := ⟨m - 1, by omega⟩
    have hcs := cnt_lt_succ live c r2
    have hqi : ∀ jj, zr_alen jj = 1500 → inq jj (nI c) := fun jj hjj => inq_nI (by omega) (by omega)
    have hob : (if ¬ (zv R 157 (nI c)) = 0 then True else (inq 156 (nI c) ∧ (if (zv R 156 (nI c)) = 0 then True else True))) := by
      split
      · trivial
      · exact ⟨hqi 156 rfl, by split <;> trivial⟩
    have hstart : ∀ y, y = (decide (rv R 157 c = 0) && !decide (rv R 156 c = 0)) → g_134_2 (m + 1) R (nI fi) (nI c) = g_134_34 oF R (nI fi) (nI c) y (fun Z x2 => g_134_2 m Z (nI fi) x2) := by
      intro y hy
      rw [g_134_2, r4, if_neg (by rw [nI_leI (by omega) (by omega)]; omega), if_pos (hqi 157 rfl), if_pos hob]
      simp only [olet]
      rw [zv_nI _ _ (by omega), zv_nI _ _ (by omega), hy]
    obtain ⟨m0, hm0⟩ := oF_1
    have hfal : ∀ K, g_134_34 oF R (nI fi) (nI c) false K = K R (nI c + 1) := fun K => by rw [hm0, g_134_34, if_neg (by decide)]
    by_cases hcm : c ∈ live
    · rw [if_pos hcm] at hcs
      have hget := cnt_get live c r2 hcm
      obtain ⟨j, hjdef⟩ : ∃ j, j = live.countP (fun r => decide (r < c)) := ⟨_, rfl⟩
      rw [← hjdef] at hget hcs hn ⊢
      have hjl : j < live.length := (List.getElem?_eq_some_iff.mp hget).1
      obtain ⟨n, rfl⟩ : ∃ z, n = z + 1 := ⟨n - 1, by omega⟩
      have hovc := hov c hcm (Nat.le_refl _)
      obtain ⟨x2, a2, e2, m2, p91, p93, p95, p97, p101, p99, pmk⟩ := r8 j c hget
      obtain ⟨v1, v2, v3, v4, v5⟩ := r6 x2 a2 e2 c m2
      have hsg := SG_mem G 0 k h.2.1.2.2.2.2.1 _ m2
      dsimp only at hsg
      have hf81 : f_81 C (nI j) = nI (e2 - a2) := by unfold f_81; rw [zt_ldq C 97 (by omega), zt_ldq C 95 (by omega), p97, p95, pk_sub (by omega)]
      have hcls : g_80_2 (n + 1) C (nI b0) (nI j) = (Option.bind (o_82 C (nI j) (nI b0)) fun x => g_80_27 oF C (nI b0) (nI j) x (nI (e2 - a2)) (fun Z x2 => g_80_2 n Z (nI b0) x2)) := by
        have hz : zs C 91 = nI live.length := by unfold zs; rw [r1 91 (by decide)]
        rw [g_80_2, hz, if_neg (by rw [nI_leI (by omega) (by omega)]; omega), hf81]
      rcases v5 with hc0 | hc1
      · -- it closes nothing
        have h82 : o_82 C (nI j) (nI b0) = some (-1) := by
          unfold o_82; rw [zt_ldq C 101 (by omega), p101, hc0, if_pos (by decide)]
        obtain ⟨C1, R1, G1, it1, g1, g2, g3, g4⟩ := ih (c + 1) C R G it n m (by omega) (by omega) h (fun r hr hcr => hov r hr (by omega)) (by omega) (by omega)
        rw [hcs] at g3
        refine ⟨C1, R1, G1, it1, g1, g2, ?_, ?_⟩
        · rw [hcls, h82, hm0]
          simp only [Option.bind_some]
          rw [g_80_27, nI_1]
          split
          · exact g3
          · rw [if_pos rfl]; exact g3
        · rw [hstart false (by rw [hc0, decide_eq_true rfl, Bool.not_true, Bool.and_false]), hfal, nI_1]; exact g4
      · obtain ⟨C2, R2, G2, it2, q1, q2, q3, q4⟩ := pair_inner hku hget hfc hb0 (e2 - a2) C R G it h hovc hc1 x2 a2 e2 m2 (by omega) rfl oF oF (e2 - a2) (Nat.le_refl _) (by omega) (by unfold oF; omega) (by unfold oF; omega)
        obtain ⟨C1, R1, G1, it1, g1, g2, g3, g4⟩ := ih (c + 1) C2 R2 G2 it2 n m (by omega) (by omega) q1 (fun r hr hcr => by rw [q2.2.2.2.1 r (by omega)]; exact hov r hr (by omega)) (by omega) (by omega)
        rw [hcs] at g3
        refine ⟨C1, R1, G1, it1, g1, q2.trans g2 (by omega), ?_, ?_⟩
        · rw [hcls, q3]; exact g3
        · rw [hstart true (by rw [hovc, hc1]; rfl), q4]; exact g4
    · rw [if_neg hcm, Nat.add_zero] at hcs
      have hovc : rv R 157 c = 1 := r7 c (by omega) hcm
      obtain ⟨C1, R1, G1, it1, g1, g2, g3, g4⟩ := ih (c + 1) C R G it n m (by omega) (by omega) h (fun r hr hcr => hov r hr (by omega)) (by rw [hcs]; exact hn) (by omega)
      rw [hcs] at g3
      refine ⟨C1, R1, G1, it1, g1, g2, g3, ?_⟩
      rw [hstart false (by rw [hovc]; rfl), hfal, nI_1]; exact g4
theorem pair_lock {C R : zr_Z} {G : List Ent} {it fi b0 : Nat} (hku : k ≤ u) (hb0 : live.countP (fun r => decide (r < fi)) = b0) (hfi : fi ≤ rc) (h : INV0 C R T D k u G live rc bs nl pl it) (hov : ∀ r ∈ live, rv R 157 r = 0) :
    ∃ C1 R1 R2 G1 it1, INV0 C1 R1 T D k u G1 live rc bs nl pl it1 ∧ pkeep C C1 R R1 k fi rc ∧ o_80 C (nI b0) = some (f_77 C1 (nI b0)) ∧ o_134 R (nI fi) = some R2 ∧ (∀ j, ¬ j = 157 → ∀ i, rv R2 j i = rv R1 j i) ∧ (∀ f, zf R2 f = zf R1 f) ∧ (∀ r, rv R2 157 r = if fi ≤ r ∧ r < rc then 1 else rv R1 157 r) := by
  have hL := h.1.2.2.1.1
  have hkL := h.2.1.2.2.1
  have hrck := h.2.2.2.1.2.2.1.2
  have hlv := live_le (h.2.2.1)
  obtain ⟨C1, R1, G1, it1, g1, g2, g3, g4⟩ := pair_outer hku hb0 (rc - fi) fi C R G it oF oF (by omega) (Nat.le_refl _) h (fun r hr _ => hov r hr) (by unfold oF; omega) (by unfold oF; omega)
  rw [hb0] at g3
  have h28 : zf R1 28 = nI rc := g1.2.2.1.2.2.2.1
  have loop : ∀ d c m Z, c + d = rc → d < m → fi ≤ c → (∀ j, ¬ j = 157 → ∀ i, rv Z j i = rv R1 j i) → (∀ f, zf Z f = zf R1 f) → (∀ r, rv Z 157 r = if fi ≤ r ∧ r < c then 1 else rv R1 157 r) →
      ∃ R2, g_134_208 m Z (nI fi) (nI c) = some R2 ∧ (∀ j, ¬ j = 157 → ∀ i, rv R2 j i = rv R1 j i) ∧ (∀ f, zf R2 f = zf R1 f) ∧ (∀ r, rv R2 157 r = if fi ≤ r ∧ r < rc then 1 else rv R1 157 r) := by
    intro d
    induction d with
    | zero =>
      intro c m Z hc hm hfc q1 q2 q3
      obtain ⟨m, rfl⟩ : ∃ z, m = z + 1 := ⟨m - 1, by omega⟩
      obtain rfl : c = rc := by omega
      exact ⟨Z, by rw [g_134_208, q2, h28, if_pos (Int32.le_refl _)], q1, q2, q3⟩
    | succ d ih =>
      intro c m Z hc hm hfc q1 q2 q3
      obtain ⟨m, rfl⟩ : ∃ z, m = z + 1 := ⟨m - 1, by omega⟩
      rw [g_134_208, q2, h28, if_neg (by rw [nI_leI (by omega) (by omega)]; omega), if_pos (inq_nI (by show c < 1500; omega) (by omega)), nI_1]
      refine ih (c + 1) m _ (by omega) (by omega) (by omega) (fun j hj i => by rw [rv_oth _ _ _ hj]; exact q1 j hj i) (fun f => q2 f) (fun r => ?_)
      rw [rv_at _ _ _ (by omega), q3]
      by_cases e : r = c
      · have d1 : fi ≤ r ∧ r < c + 1 := by omega
        rw [if_pos e, if_pos d1]
      · rw [if_neg e]
        by_cases e2 : fi ≤ r ∧ r < c
        · have d1 : fi ≤ r ∧ r < c + 1 := by omega
          rw [if_pos e2, if_pos d1]
        · have d1 : ¬ (fi ≤ r ∧ r < c + 1) := by omega
          rw [if_neg e2, if_neg d1]
  obtain ⟨R2, q1, q2, q3, q4⟩ := loop (rc - fi) fi oF R1 (by omega) (by unfold oF; omega) (Nat.le_refl _) (fun _ _ _ => rfl) (fun _ => rfl) (fun r => by
    have d1 : ¬ (fi ≤ r ∧ r < fi) := by omega
    rw [if_neg d1])
  refine ⟨C1, R1, R2, G1, it1, g1, g2, g3, ?_, q2, q3, q4⟩
  show g_134_2 oF R (nI fi) (nI fi) = some R2
  rw [g4, q1]
end
