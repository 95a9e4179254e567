/-! the mathematics; written by wip/whole/m2parts.py -/
theorem zt_ldq (C : zr_Z) (id : Nat) {i : Nat} (hi : i < 2 ^ 31) : zt C id (nI i) = ldq C id i := by
  unfold zt ldq; rw [rat_mA hi]; rfl
theorem cnt_lt_succ : ∀ (l : List Nat) s, l.Pairwise (fun a b => a < b) → (l.countP (fun r => decide (r < s + 1)) = l.countP (fun r => decide (r < s)) + (if s ∈ l then 1 else 0)) := by
  intro l
  induction l with
  | nil => intro s _; rfl
  | cons r l ih =>
    intro s hp
    rw [List.pairwise_cons] at hp
    rw [List.countP_cons, List.countP_cons, ih s hp.2]
    by_cases e : s = r
    · subst e
      have : ¬ s ∈ l := fun h => by have := hp.1 s h; omega
      rw [if_neg this, if_pos (List.mem_cons_self ..), decide_eq_true (by omega), decide_eq_false (by omega)]; simp
    · have hm : s ∈ r :: l ↔ s ∈ l := by
        rw [List.mem_cons]; exact ⟨fun h => h.resolve_left e, Or.inr⟩
      have hd : decide (r < s + 1) = decide (r < s) := decide_eq_decide.mpr (by omega)
      rw [hd]
      by_cases hs : s ∈ l
      · rw [if_pos hs, if_pos (hm.mpr hs)]; omega
      · rw [if_neg hs, if_neg (fun h => hs (hm.mp h))]; omega
theorem cnt_get : ∀ (l : List Nat) s, l.Pairwise (fun a b => a < b) → s ∈ l → l[l.countP (fun r => decide (r < s))]? = some s := by
  intro l
  induction l with
  | nil => intro s _ h; exact absurd h (by simp)
  | cons r l ih =>
    intro s hp hs
    rw [List.pairwise_cons] at hp
    rw [List.countP_cons]
    rcases List.mem_cons.mp hs with e | h
    · subst e
      have : l.countP (fun r => decide (r < s)) = 0 := by
        rw [List.countP_eq_zero]
        intro a ha; have := hp.1 a ha
        rw [decide_eq_true_eq]; omega
      rw [this, decide_eq_false (by omega)]; rfl
    · have := hp.1 s h
      rw [decide_eq_true (by omega)]
      simp only [if_true]
      rw [List.getElem?_cons_succ]; exact ih s hp.2 h
theorem cnt_of_get : ∀ (l : List Nat) i s, l.Pairwise (fun a b => a < b) → l[i]? = some s → l.countP (fun r => decide (r < s)) = i := by
  intro l
  induction l with
  | nil => intro i s _ h; exact absurd h (by simp)
  | cons r l ih =>
    intro i s hp h
    rw [List.pairwise_cons] at hp
    rw [List.countP_cons]
    cases i with
    | zero =>
      obtain rfl : r = s := Option.some.inj h
      have : l.countP (fun a => decide (a < r)) = 0 := by
        rw [List.countP_eq_zero]
        intro a ha; have := hp.1 a ha
        rw [decide_eq_true_eq]; omega
      rw [this, decide_eq_false (by omega)]; rfl
    | succ i =>
      rw [List.getElem?_cons_succ] at h
      have hm : s ∈ l := List.mem_of_getElem? h
      have := hp.1 s hm
      rw [ih i s hp.2 h, decide_eq_true (by omega)]; rfl
def cI (t : Nat) : Int32 := nI t - 1
theorem cI_succ (t : Nat) : cI (t + 1) = nI t := nI_pred t
theorem cI_dec (t : Nat) : cI (t + 1) + -1 = cI t := by
  rw [cI_succ]; unfold cI; rw [Int32.sub_eq_add_neg]
theorem cI_toInt {t : Nat} (h : t < 2 ^ 30) : (cI t).toInt = (t : Int) - 1 := by
  cases t with
  | zero => decide
  | succ t => rw [cI_succ, nI_toInt (by omega)]; omega
theorem cI_lt {t b : Nat} (ht : t < 2 ^ 30) (hb : b < 2 ^ 30) : cI t < nI b ↔ t ≤ b := by
  rw [Int32.lt_iff_toInt_lt, cI_toInt ht, nI_toInt (by omega)]; omega
section
variable {C R : zr_Z} {T : List Int32} {D : List (List Int32)} {k u : Nat} {G : List Ent} {live : List Nat} {rc : Nat} {bs : List (Nat × Nat × Nat × Nat)} {nl pl it : Nat}
theorem cand {t r j c : Nat} (h : INV0 C R T D k u G live rc bs nl pl it) (ht : live[t]? = some r) (hj : live[j]? = some c) (hoc : rv R 157 c = 0) (hcc : rv R 156 c = 1) (n m : Nat) (fi : Int32) (base : Int32) (hs : ¬ nI r < fi) (hs2 : ¬ nI t < base) :
    (g_82_26 (n + 1) C (nI j) base (nI t) = some (nI t) ∧ g_133_4 (m + 1) R (nI c) fi (nI r) = some (nI r) ∧ rv R 157 r = 0 ∧ ∃ x a e, (x, a, e, some r) ∈ G ∧ a < e) ∨
    (g_82_26 (n + 1) C (nI j) base (nI t) = g_82_26 n C (nI j) base (nI t + -1) ∧ g_133_4 (m + 1) R (nI c) fi (nI r) = g_133_4 m R (nI c) fi (nI r + -1)) := by
  have hL := h.1.2.2.1.1
  have hkL := h.2.1.2.2.1
  obtain ⟨r1, r2, r3, r4, r5, r6, r7, r8⟩ := h.2.2.1
  have hrck := h.2.2.2.1.2.2.1.2
  have htl : t < live.length := (List.getElem?_eq_some_iff.mp ht).1
  have hjl : j < live.length := (List.getElem?_eq_some_iff.mp hj).1
  have hlv := live_le (h.2.2.1)
  obtain ⟨x, a, e, g1, g2, g3, g4, g5, g6, g7, g8⟩ := r8 t r ht
  obtain ⟨x', a', e', g1', g2', g3', g4', g5', g6', g7', g8'⟩ := r8 j c hj
  obtain ⟨u1, u2, u3, u4, u5⟩ := r6 x a e r g1
  obtain ⟨u1', u2', u3', u4', u5'⟩ := r6 x' a' e' c g1'
  have hr := fm_lt r5 g1
  have hc := fm_lt r5 g1'
  have hx := h.2.1.2.2.2.2.2.2.2.2.1 _ g1
  have hx' := h.2.1.2.2.2.2.2.2.2.2.1 _ g1'
  have hit := h.2.1.2.2.2.2.2.2.2.2.2
  have hae := SG_mem G 0 k h.2.1.2.2.2.2.1 _ g1
  dsimp only at hx hx' hae
  have hq : ∀ jj i, zr_alen jj = 1500 → i < rc → inq jj (nI i) := fun jj i hh hi => inq_nI (by omega) (by omega)
  have hq8 : ∀ i, i ≤ it → inq 144 (nI i) := fun i hi => inq_nI (by show i < 8000; omega) (by omega)
  have z : ∀ id i, i < live.length → zt C id (nI i) = ldq C id i := fun id i hi => zt_ldq C id (by omega)
  have hf81 : f_81 C (nI t) = nI (e - a) := by unfold f_81; rw [z 97 t htl, z 95 t htl, g5, g4, pk_sub (by omega)]
  have h131 : rv R 155 r = 1 → o_131 R (nI r) (nI c) = some (f_83 C (nI t) (nI j)) := by
    intro ho
    have e130 : o_130 R (nI r) = some (decide (rv R 156 r = 1)) := by
      unfold o_130
      rw [if_pos (hq 155 r rfl hr), zv_nI _ _ (by omega), zv_nI _ _ (by omega), ho]
      rw [if_pos (by rw [if_neg (by decide)]; exact ⟨hq 156 r rfl hr, by split <;> trivial⟩)]
      rcases u5 with g | g <;> rw [g] <;> rfl
    have e130' : o_130 R (nI c) = some (decide (rv R 155 c = 1)) := by
      unfold o_130
      rw [if_pos (hq 155 c rfl hc), zv_nI _ _ (by omega), zv_nI _ _ (by omega), hcc]
      rw [if_pos (by split; trivial; exact ⟨hq 156 c rfl hc, by split <;> trivial⟩)]
      rcases u4' with g | g <;> rw [g] <;> rfl
    unfold o_131 f_83
    rw [e130]
    simp only [Option.bind_some]
    rw [z 101 t htl, z 99 j hjl, z 93 t htl, z 93 j hjl, g6, g7', if_pos hoc, g3, g3']
    rw [if_pos (hq 153 r rfl hr), if_pos (hq 153 c rfl hc), zv_nI _ _ (by omega : r < 2 ^ 31), zv_nI _ _ (by omega : c < 2 ^ 31)]
    have hob : (if ¬ ((rv R 153 r + rv R 153 c) - (rv R 153 r + rv R 153 c) / 3 * 3) = 0 then True else (inq 153 (nI r) ∧ (if ¬ (rv R 153 r - rv R 153 r / 3 * 3) = 0 then True else (inq 153 (nI c) ∧ (if (rv R 153 c - rv R 153 c / 3 * 3) = 0 then True else True))))) := by
      split
      · trivial
      · refine ⟨hq 153 r rfl hr, ?_⟩
        split
        · trivial
        · exact ⟨hq 153 c rfl hc, by split <;> trivial⟩
    rw [if_pos hob]
    have hbool : ∀ p q s : Bool, (p && (!q || !s)) = (p && !(q && s)) := by decide
    by_cases hcl : rv R 156 r = 1
    · rw [decide_eq_true hcl, if_pos rfl, hbool, Bool.true_or, Bool.true_and]
    · rw [decide_eq_false hcl, if_neg (by decide), e130']
      simp only [Option.bind_some]
      rw [if_pos (by
        split
        · exact ⟨hq 153 r rfl hr, hq 153 c rfl hc, hob⟩
        · trivial), hbool, Bool.false_or]
  have hcl : g_82_26 (n + 1) C (nI j) base (nI t) = (if ¬ ldq C 99 t = 1 then g_82_26 n C (nI j) base (nI t + -1) else (if ¬ rv R 144 x = rv R 144 x' then g_82_26 n C (nI j) base (nI t + -1) else (if nI (e - a) ≤ 0 then g_82_26 n C (nI j) base (nI t + -1) else (if f_83 C (nI t) (nI j) = true then g_82_26 n C (nI j) base (nI t + -1) else some (nI t))))) := by
    rw [g_82_26, if_neg hs2, z 99 t htl, z 91 t htl, z 91 j hjl, hf81, g2, g2']
  have hrf : g_133_4 (m + 1) R (nI c) fi (nI r) = (if ¬ rv R 157 r = 0 then g_133_4 m R (nI c) fi (nI r + -1) else (if rv R 155 r = 0 then g_133_4 m R (nI c) fi (nI r + -1) else (if nI (e - a) ≤ 0 then g_133_4 m R (nI c) fi (nI r + -1) else (if ¬ rv R 144 x = rv R 144 x' then g_133_4 m R (nI c) fi (nI r + -1) else (Option.bind (o_131 R (nI r) (nI c)) fun u13 => (if u13 = true then g_133_4 m R (nI c) fi (nI r + -1) else some (nI r))))))) := by
    rw [g_133_4, if_neg hs, if_pos (hq 157 r rfl hr), if_pos (hq 155 r rfl hr), if_pos (hq 154 r rfl hr), if_pos (hq 152 r rfl hr), zv_nI R 157 (by omega), zv_nI R 155 (by omega), zv_nI R 154 (by omega), zv_nI R 152 (by omega : r < 2 ^ 31), zv_nI R 152 (by omega : c < 2 ^ 31), u1, u1', u3, if_pos (hq8 x hx), if_pos (hq 152 c rfl hc), if_pos (hq8 x' hx'), zv_nI R 144 (by omega), zv_nI R 144 (by omega)]
  rw [hcl, hrf, g7]
  have hz0 : nI (e - a) ≤ 0 ↔ e - a = 0 := by rw [← nI_0, nI_leI (by omega) (by omega)]; omega
  by_cases o1 : rv R 157 r = 0
  · have d1 : (if rv R 157 r = 0 then rv R 155 r else 0) = rv R 155 r := if_pos o1
    have d2 : ¬ ¬ rv R 157 r = 0 := fun hh => hh o1
    rw [d1, if_neg d2]
    rcases u4 with o2 | o2
    · right
      have d3 : ¬ rv R 155 r = 1 := by rw [o2]; decide
      rw [if_pos d3, if_pos o2]; exact ⟨rfl, rfl⟩
    · have d3 : ¬ ¬ rv R 155 r = 1 := fun hh => hh o2
      have d4 : ¬ rv R 155 r = 0 := by rw [o2]; decide
      rw [if_neg d3, if_neg d4]
      by_cases o3 : rv R 144 x = rv R 144 x'
      · have d5 : ¬ ¬ rv R 144 x = rv R 144 x' := fun hh => hh o3
        rw [if_neg d5, if_neg d5]
        by_cases o4 : nI (e - a) ≤ 0
        · right; rw [if_pos o4, if_pos o4]; exact ⟨rfl, rfl⟩
        · rw [if_neg o4, if_neg o4, h131 o2]
          simp only [Option.bind_some]
          by_cases o5 : f_83 C (nI t) (nI j) = true
          · right; rw [if_pos o5, if_pos o5]; exact ⟨rfl, rfl⟩
          · left; rw [if_neg o5, if_neg o5]
            refine ⟨rfl, rfl, o1, x, a, e, g1, ?_⟩
            have : ¬ e - a = 0 := fun hh => o4 (hz0.mpr hh)
            omega
      · right; rw [if_pos o3, if_pos o3]; exact ⟨rfl, by split <;> rfl⟩
  · right
    have d1 : (if rv R 157 r = 0 then rv R 155 r else 0) = 0 := if_neg o1
    have d2 : ¬ (0 : Int32) = 1 := by decide
    rw [d1, if_pos d2, if_pos o1]; exact ⟨rfl, rfl⟩
theorem opener_lock {j c fi b0 : Nat} (h : INV0 C R T D k u G live rc bs nl pl it) (hj : live[j]? = some c) (hoc : rv R 157 c = 0) (hcc : rv R 156 c = 1) (hb0 : live.countP (fun r => decide (r < fi)) = b0) :
    ∀ d s n m, fi + d = s → s ≤ c → live.countP (fun r => decide (r < s)) < n → d < m →
    (g_82_26 n C (nI j) (nI b0) (cI (live.countP (fun r => decide (r < s)))) = some (-1) ∧ g_133_4 m R (nI c) (nI fi) (cI s) = some (-1)) ∨
    (∃ i r, live[i]? = some r ∧ b0 ≤ i ∧ fi ≤ r ∧ r < s ∧ rv R 157 r = 0 ∧ (∃ x a e, (x, a, e, some r) ∈ G ∧ a < e) ∧ g_82_26 n C (nI j) (nI b0) (cI (live.countP (fun r => decide (r < s)))) = some (nI i) ∧ g_133_4 m R (nI c) (nI fi) (cI s) = some (nI r)) := by
  have hL := h.1.2.2.1.1
  have hkL := h.2.1.2.2.1
  obtain ⟨r1, r2, r3, r4, r5, r6, r7, r8⟩ := h.2.2.1
  have hrck := h.2.2.2.1.2.2.1.2
  have hlv := live_le (h.2.2.1)
  have hcrc : c < rc := r3 c (List.mem_of_getElem? hj)
  have hcb : ∀ s, live.countP (fun r => decide (r < s)) ≤ live.length := fun s => List.countP_le_length
  intro d
  induction d with
  | zero =>
    intro s n m hs hsc hn hm
    obtain ⟨n, rfl⟩ : ∃ z, n = z + 1 := ⟨n - 1, by omega⟩
    obtain ⟨m, rfl⟩ : ∃ z, m = z + 1 := ⟨m - 1, by omega⟩
    obtain rfl : s = fi := by omega
    left
    have := hcb s
    rw [hb0]
    refine ⟨?_, ?_⟩
    · rw [g_82_26, if_pos ((cI_lt (by omega) (by omega)).mpr (Nat.le_refl _))]
    · rw [g_133_4, if_pos ((cI_lt (by omega) (by omega)).mpr (Nat.le_refl _))]
  | succ d ih =>
    intro s n m hs hsc hn hm
    obtain ⟨m, rfl⟩ : ∃ z, m = z + 1 := ⟨m - 1, by omega⟩
    obtain ⟨s, rfl⟩ : ∃ z, s = z + 1 := ⟨s - 1, by omega⟩
    have hcs := cnt_lt_succ live s r2
    have hle := hcb s
    by_cases hm' : s ∈ live
    · rw [if_pos hm'] at hcs
      obtain ⟨n, rfl⟩ : ∃ z, n = z + 1 := ⟨n - 1, by omega⟩
      have hget := cnt_get live s r2 hm'
      have hmono : b0 ≤ live.countP (fun r => decide (r < s)) := by
        rw [← hb0]
        exact List.countP_mono_left (fun a _ ha => decide_eq_true (by have := of_decide_eq_true ha; omega))
      rcases cand h hget hj hoc hcc n m (nI fi) (nI b0) (by rw [nI_ltI (by omega) (by omega)]; omega) (by rw [nI_ltI (by omega) (by omega)]; omega) with ⟨q1, q2, q3, q4⟩ | ⟨q1, q2⟩
      · right
        refine ⟨_, s, hget, hmono, by omega, by omega, q3, q4, ?_, ?_⟩
        · rw [hcs, cI_succ]; exact q1
        · rw [cI_succ]; exact q2
      · have e1 : nI (live.countP (fun r => decide (r < s))) + -1 = cI (live.countP (fun r => decide (r < s))) := by rw [← cI_succ, cI_dec]
        have e2 : nI s + -1 = cI s := by rw [← cI_succ, cI_dec]
        rw [hcs, cI_succ, cI_succ, q1, q2, e1, e2]
        rcases ih s n m (by omega) (by omega) (by omega) (by omega) with g | ⟨i, r, g1, g2, g3, g4, g5⟩
        · exact Or.inl g
        · exact Or.inr ⟨i, r, g1, g2, g3, by omega, g5⟩
    · rw [if_neg hm', Nat.add_zero] at hcs
      have hov : rv R 157 s = 1 := r7 s (by omega) hm'
      have e2 : nI s + -1 = cI s := by rw [← cI_succ, cI_dec]
      have hst : g_133_4 (m + 1) R (nI c) (nI fi) (cI (s + 1)) = g_133_4 m R (nI c) (nI fi) (cI s) := by
        rw [cI_succ, g_133_4, if_neg (by rw [nI_ltI (by omega) (by omega)]; omega), if_pos (inq_nI (by show s < 1500; omega) (by omega)), zv_nI _ _ (by omega), hov, if_pos (by decide), e2]
      rw [hcs, hst]
      rcases ih s n m (by omega) (by omega) (by omega) (by omega) with g | ⟨i, r, g1, g2, g3, g4, g5⟩
      · exact Or.inl g
      · exact Or.inr ⟨i, r, g1, g2, g3, by omega, g5⟩
end
