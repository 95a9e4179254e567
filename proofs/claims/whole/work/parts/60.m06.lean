/-! the mathematics; written by wip/whole/m2parts.py -/
def mNL : List (Int32 × List Int32) := [(38, [97, 109, 112]), (60, [108, 116]), (62, [103, 116]), (34, [113, 117, 111, 116]), (39, [97, 112, 111, 115]), (160, [110, 98, 115, 112]), (169, [99, 111, 112, 121]), (174, [114, 101, 103]), (228, [97, 117, 109, 108]), (246, [111, 117, 109, 108]), (252, [117, 117, 109, 108]), (223, [115, 122, 108, 105, 103]), (233, [101, 97, 99, 117, 116, 101]), (8364, [101, 117, 114, 111]), (8230, [104, 101, 108, 108, 105, 112]), (8212, [109, 100, 97, 115, 104])]
def mw (T : List Int32) : Nat → List Int32 → Bool
  | _, [] => true
  | a, c :: w => decide (mA T a = c) && mw T (a + 1) w
def mname (T : List Int32) (a : Nat) : List (Int32 × List Int32) → Option (Nat × Int32)
  | [] => none
  | e :: l => if (mw T a e.2 && decide (mA T (a + e.2.length) = 59)) = true then some (a + e.2.length + 1, e.1) else mname T a l
def mcm (T : List Int32) (a : Nat) : List Int32 → List Int32 → Nat → Bool → Option (Nat × Int32)
  | [], _, _, _ => none
  | c :: s, vs, q, y => if ¬ c = 59 then mcm T a s vs (q + 1) (y && decide (mA T q = c)) else if (y && decide (mA T q = c)) = true then some (q + 1, vs.headD 0) else mcm T a s vs.tail a true
theorem mcm_word (T : List Int32) (a : Nat) (s : List Int32) (v : Int32) (vs : List Int32) : ∀ (w : List Int32) q y, (∀ c ∈ w, ¬ c = 59) →
    mcm T a (w ++ 59 :: s) (v :: vs) q y = if (y && (mw T q w && decide (mA T (q + w.length) = 59))) = true then some (q + w.length + 1, v) else mcm T a s vs a true := by
  intro w
  induction w with
  | nil => intro q y _; simp only [List.nil_append, mcm, not_true_eq_false, if_false, mw, Bool.true_and, List.length_nil, Nat.add_zero, List.headD, List.tail]
  | cons c w ih =>
    intro q y h
    have hc : ¬ c = 59 := h c (List.mem_cons_self ..)
    rw [List.cons_append, mcm, if_pos hc, ih _ _ (fun c hc => h c (List.mem_cons_of_mem _ hc)), mw, List.length_cons]
    have e : q + 1 + w.length = q + (w.length + 1) := by omega
    rw [e, Bool.and_assoc, Bool.and_assoc]
theorem mcm_all (T : List Int32) (a : Nat) : ∀ l : List (Int32 × List Int32), (∀ e ∈ l, ∀ c ∈ e.2, ¬ c = 59) → mcm T a (l.flatMap (fun e => e.2 ++ [59])) (l.map (fun e => e.1)) a true = mname T a l := by
  intro l
  induction l with
  | nil => intro _; rfl
  | cons e l ih =>
    intro h
    rw [List.flatMap_cons, List.map_cons, List.append_assoc]
    rw [show [59] ++ List.flatMap (fun e : Int32 × List Int32 => e.2 ++ [59]) l = 59 :: List.flatMap (fun e : Int32 × List Int32 => e.2 ++ [59]) l from rfl]
    rw [mcm_word T a _ _ _ e.2 a true (h e (List.mem_cons_self ..)), ih (fun e he => h e (List.mem_cons_of_mem _ he)), mname, Bool.true_and]
def nmS : List Int32 := am_byt.getD 2 []
theorem nmS_len : nmS.length = 80 := by decide +kernel
theorem nmS_eq : nmS = mNL.flatMap (fun e => e.2 ++ [59]) := by decide +kernel
theorem nmd_eq : zr_named = mNL.map (fun e => e.1) := by decide +kernel
theorem nmS_cnt : ∀ i, i < 80 → 1 ≤ (nmS.drop i).count 59 := by decide +kernel
theorem sch2 (i : Nat) (h : i < 80) : sch 2 (nI i) = nmS.getD i 0 := by
  unfold sch nmS; rw [nI_clamp (by omega)]
theorem cname_loop {C : zr_Z} {T : List Int32} (hC : mC C T) (a : Nat) (ha : a ≤ 2000) :
    ∀ d i nm q y m, i + d = 80 → nm ≤ 16 → (nmS.drop i).count 59 = 16 - nm → q ≤ 3000 + i → d < m →
      g_65_10 m C (nI a) (nI nm) (nI q) y (nI i) = some (match mcm T a (nmS.drop i) (zr_named.drop nm) q y with | none => (-1, C) | some (e, v) => (nI e, zsc C 0 v)) := by
  have hlen : sln 2 = nI 80 := by decide +kernel
  intro d
  induction d with
  | zero =>
    intro i nm q y m hi hnm hc hq hm
    obtain ⟨m, rfl⟩ : ∃ n', m = n' + 1 := ⟨m - 1, by omega⟩
    obtain rfl : i = 80 := by omega
    simp (disch := omega) only [g_65_10, hlen, nI_leI, Nat.le_refl, if_true]
    rw [List.drop_eq_nil_of_le (by rw [nmS_len]; omega)]; rfl
  | succ d ih =>
    intro i nm q y m hi hnm hc hq hm
    obtain ⟨m, rfl⟩ : ∃ n', m = n' + 1 := ⟨m - 1, by omega⟩
    have hil : i < nmS.length := by rw [nmS_len]; omega
    have h1 : ¬ 80 ≤ i := by omega
    have hcn := nmS_cnt i (by omega)
    have h16 : ¬ 16 ≤ nm := by omega
    have hsci : sci 2 (nI i) := ⟨nI_pos (by omega), by rw [nI_clamp (by omega)]; exact hil⟩
    have hsch : sch 2 (nI i) = nmS[i] := by rw [sch2 i (by omega), List.getD_eq_getElem?_getD, List.getElem?_eq_getElem hil]; rfl
    have hdrop : nmS.drop i = nmS[i] :: nmS.drop (i + 1) := List.drop_eq_getElem_cons hil
    have hob : (if y = true then (sci 2 (nI i) ∧ (if ¬ (zt C 61 (nI q)) = (sch 2 (nI i)) then True else True)) else True) := by
      cases y with
      | true => rw [if_pos rfl]; exact ⟨hsci, by split <;> trivial⟩
      | false => rw [if_neg (by decide)]; trivial
    rw [hdrop] at hc ⊢
    simp (disch := omega) only [g_65_10, hlen, nI_leI, h1, h16, if_false]
    rw [if_pos hob]
    simp (disch := omega) only [olet, hC.at, hsch, nI_1]
    rw [if_pos hsci]
    by_cases h59 : nmS[i] = 59
    · have hc59 : ¬ ¬ nmS[i] = 59 := fun h => h h59
      rw [if_neg hc59]
      rw [h59, List.count_cons_self] at hc
      have hnl : nm < zr_named.length := by show nm < 16; omega
      have hdn : zr_named.drop nm = zr_named[nm] :: zr_named.drop (nm + 1) := List.drop_eq_getElem_cons hnl
      rw [mcm, if_neg hc59, hdn]
      by_cases hy : (y && decide (mA T q = nmS[i])) = true
      · rw [if_pos hy, if_pos hy, if_pos (by
          intro h
          rcases h with h | h
          · exact nI_pos (by omega) h
          · rw [nI_clamp (by omega)] at h; omega)]
        have : znm (nI nm) = zr_named[nm] := by
          unfold znm; rw [nI_clamp (by omega), List.getD_eq_getElem?_getD, List.getElem?_eq_getElem hnl]; rfl
        rw [this]; rfl
      · rw [if_neg hy, if_neg hy]
        rw [ih (i + 1) (nm + 1) a true m (by omega) (by omega) (by omega) (by omega) (by omega)]; rfl
    · rw [if_pos h59]
      rw [List.count_cons_of_ne h59] at hc
      rw [mcm, if_pos h59]
      exact ih (i + 1) nm (q + 1) _ m (by omega) hnm hc (by omega) (by omega)
theorem cname {C : zr_Z} {T : List Int32} (hC : mC C T) {a : Nat} (ha : a ≤ 2000) : o_65 C (nI a) = some (match mname T a mNL with | none => (-1, C) | some (e, v) => (nI e, zsc C 0 v)) := by
  have h := cname_loop hC a ha 80 0 0 a true oF (by omega) (by omega) (by decide +kernel) (by omega) (by unfold oF; omega)
  rw [List.drop_zero, List.drop_zero, nmS_eq, nmd_eq, mcm_all T a mNL (by decide +kernel)] at h
  unfold o_65; exact h
def mN (R : zr_Z) : Prop := ∀ i, i < 97 → R.2.2.1 173 i = zr_names.getD i 0
def mrm (T : List Int32) (a : Nat) : List Int32 → Option (Int32 × Nat × Bool) → Option (Option (Nat × Int32))
  | [], _ => none
  | c :: s, none => if c = -1 then some none else mrm T a s (some (c, a, true))
  | c :: s, some (v, x, y) => if c = 0 then (if (y && decide (mA T x = 59)) = true then some (some (x + 1, v)) else mrm T a s none) else mrm T a s (some (v, x + 1, y && decide (mA T x = c)))
theorem mrm_word (T : List Int32) (a : Nat) (s : List Int32) (v : Int32) : ∀ (w : List Int32) x y, (∀ c ∈ w, ¬ c = 0) →
    mrm T a (w ++ 0 :: s) (some (v, x, y)) = if (y && (mw T x w && decide (mA T (x + w.length) = 59))) = true then some (some (x + w.length + 1, v)) else mrm T a s none := by
  intro w
  induction w with
  | nil => intro x y _; simp only [List.nil_append, mrm, if_true, mw, Bool.true_and, List.length_nil, Nat.add_zero]
  | cons c w ih =>
    intro x y h
    have hc : ¬ c = 0 := h c (List.mem_cons_self ..)
    rw [List.cons_append, mrm, if_neg hc, ih _ _ (fun c hc => h c (List.mem_cons_of_mem _ hc)), mw, List.length_cons]
    have e : x + 1 + w.length = x + (w.length + 1) := by omega
    rw [e, Bool.and_assoc, Bool.and_assoc]
theorem mrm_all (T : List Int32) (a : Nat) : ∀ l : List (Int32 × List Int32), (∀ e ∈ l, ¬ e.1 = -1 ∧ ∀ c ∈ e.2, ¬ c = 0) → mrm T a (l.flatMap (fun e => e.1 :: (e.2 ++ [0])) ++ [-1]) none = some (mname T a l) := by
  intro l
  induction l with
  | nil => intro _; rfl
  | cons e l ih =>
    intro h
    rw [List.flatMap_cons, List.append_assoc, List.cons_append, mrm, if_neg (h e (List.mem_cons_self ..)).1, List.append_assoc]
    rw [show [0] ++ (List.flatMap (fun e : Int32 × List Int32 => e.1 :: (e.2 ++ [0])) l ++ [-1]) = 0 :: (List.flatMap (fun e : Int32 × List Int32 => e.1 :: (e.2 ++ [0])) l ++ [-1]) from rfl]
    rw [mrm_word T a _ _ e.2 a true (h e (List.mem_cons_self ..)).2, ih (fun e he => h e (List.mem_cons_of_mem _ he)), mname, Bool.true_and]
    split <;> rfl
theorem nms_eq : zr_names = mNL.flatMap (fun e => e.1 :: (e.2 ++ [0])) ++ [-1] := by decide +kernel
def rnm (R : zr_Z) : Option (Nat × Int32) → Bool × zr_Z
  | none => (false, R)
  | some (e, v) => (true, zmf (zmf R 50 (nI e)) 51 v)
theorem rname_loop {R : zr_Z} {T : List Int32} (hR : mR R T) (hT : gT T) (hN : mN R) (p : Nat) (hp : p ≤ 2000) :
    ∀ d i, i + d = 97 → ∀ r, (∀ n, d < n → mrm T (p + 1) (zr_names.drop i) none = some r → g_113_239 n R (nI p) (nI i) = some (rnm R r)) ∧
      (∀ n m v x y, d < n → d < m → x ≤ 3000 + i → mrm T (p + 1) (zr_names.drop i) (some (v, x, y)) = some r → g_113_267 m R (nI p) (nI i) v (nI x) y (fun Z x2 => g_113_239 n Z (nI p) x2) = some (rnm R r)) := by
  have hS := hR.sk hT
  have hlen : zr_names.length = 97 := by decide +kernel
  intro d
  induction d with
  | zero =>
    intro i hi r
    have hz : zr_names.drop i = [] := List.drop_eq_nil_of_le (by rw [hlen]; omega)
    rw [hz]
    refine ⟨fun n _ h => ?_, fun n m v x y _ _ _ h => ?_⟩
    · exact absurd h (by simp [mrm])
    · exact absurd h (by simp [mrm])
  | succ d ih =>
    intro i hi r
    have hil : i < zr_names.length := by rw [hlen]; omega
    have hin : inq 173 (nI i) := by
      intro h
      rcases h with h | h
      · exact nI_pos (by omega) h
      · rw [nI_clamp (by omega)] at h
        have : zr_alen 173 = 97 := rfl
        omega
    have hv : zv R 173 (nI i) = zr_names[i] := by
      unfold zv; rw [nI_clamp (by omega), hN i (by omega), List.getD_eq_getElem?_getD, List.getElem?_eq_getElem hil]; rfl
    have hdrop : zr_names.drop i = zr_names[i] :: zr_names.drop (i + 1) := List.drop_eq_getElem_cons hil
    rw [hdrop]
    obtain ⟨ih1, ih2⟩ := ih (i + 1) (by omega) r
    refine ⟨fun n hn h => ?_, fun n m v x y hn hm hx h => ?_⟩
    · obtain ⟨n, rfl⟩ : ∃ n', n = n' + 1 := ⟨n - 1, by omega⟩
      rw [mrm] at h
      simp only [g_113_239, if_pos hS, if_pos hin, hv, nI_1]
      by_cases h1 : zr_names[i] = -1
      · rw [if_pos h1] at h ⊢
        obtain rfl : none = r := Option.some.inj h
        rfl
      · rw [if_neg h1] at h ⊢
        exact ih2 n oF _ (p + 1) true (by omega) (by unfold oF; omega) (by omega) h
    · obtain ⟨m, rfl⟩ : ∃ n', m = n' + 1 := ⟨m - 1, by omega⟩
      rw [mrm] at h
      have hob : (if y = true then (inq 173 (nI i) ∧ (if ¬ (ra R (nI x)) = (zv R 173 (nI i)) then True else True)) else True) := by
        cases y with
        | true => rw [if_pos rfl]; exact ⟨hin, by split <;> trivial⟩
        | false => rw [if_neg (by decide)]; trivial
      simp only [g_113_267, if_pos hS, if_pos hin]
      rw [if_pos hob]
      simp (disch := omega) only [hv, nI_1, hR.at hT, olet]
      by_cases h0 : zr_names[i] = 0
      · rw [if_pos h0] at h ⊢
        cases y with
        | true =>
          rw [if_pos rfl]
          by_cases h59 : mA T x = 59
          · rw [if_neg (fun h => h h59)]
            rw [decide_eq_true h59, Bool.true_and, if_pos rfl] at h
            obtain rfl : some (x + 1, v) = r := Option.some.inj h
            rfl
          · rw [if_pos h59]
            rw [decide_eq_false h59, Bool.and_false, if_neg (by decide)] at h
            exact ih1 n (by omega) h
        | false =>
          rw [if_neg (by decide)]
          rw [Bool.false_and, if_neg (by decide)] at h
          exact ih1 n (by omega) h
      · rw [if_neg h0] at h ⊢
        exact ih2 n m v (x + 1) _ (by omega) (by omega) (by omega) h
theorem rname {R : zr_Z} {T : List Int32} (hR : mR R T) (hT : gT T) (hN : mN R) {p : Nat} (hp : p ≤ 2000) : g_113_239 oF R (nI p) 0 = some (rnm R (mname T (p + 1) mNL)) := by
  have h := (rname_loop hR hT hN p hp 97 0 (by omega) (mname T (p + 1) mNL)).1 oF (by unfold oF; omega)
  rw [nI_0] at h
  apply h
  rw [List.drop_zero, nms_eq, mrm_all T (p + 1) mNL (by decide +kernel)]
theorem mw_rfc (T : List Int32) : ∀ (w : List Int32) a, (∀ c ∈ w, rfc c = true) → mw T a w = true → ∀ t, t < w.length → rfc (mA T (a + t)) = true := by
  intro w
  induction w with
  | nil => intro a _ _ t ht; exact absurd ht (by simp)
  | cons c w ih =>
    intro a h hm t ht
    rw [mw, Bool.and_eq_true, decide_eq_true_eq] at hm
    cases t with
    | zero => rw [Nat.add_zero, hm.1]; exact h c (List.mem_cons_self ..)
    | succ t =>
      have := ih (a + 1) (fun c hc => h c (List.mem_cons_of_mem _ hc)) hm.2 t (by simp only [List.length_cons] at ht; omega)
      rw [show a + (t + 1) = a + 1 + t by omega]; exact this
theorem mname_some {T : List Int32} {a e : Nat} {v : Int32} : ∀ l : List (Int32 × List Int32), (∀ e ∈ l, ∀ c ∈ e.2, rfc c = true) → mname T a l = some (e, v) → a < e ∧ mA T (e - 1) = 59 ∧ ∀ t, a ≤ t → t < e → rfc (mA T t) = true := by
  intro l
  induction l with
  | nil => intro _ h; exact absurd h (by simp [mname])
  | cons w l ih =>
    intro hc h
    rw [mname] at h
    by_cases hm : (mw T a w.2 && decide (mA T (a + w.2.length) = 59)) = true
    · rw [if_pos hm] at h
      have h' := Option.some.inj h
      obtain rfl : a + w.2.length + 1 = e := congrArg Prod.fst h'
      rw [Bool.and_eq_true, decide_eq_true_eq] at hm
      refine ⟨by omega, hm.2, fun t h1 h2 => ?_⟩
      by_cases ht : t = a + w.2.length
      · rw [ht, hm.2]; decide
      · have := mw_rfc T w.2 a (hc w (List.mem_cons_self ..)) hm.1 (t - a) (by omega)
        rw [show a + (t - a) = t by omega] at this; exact this
    · rw [if_neg hm] at h
      exact ih (fun e he => hc e (List.mem_cons_of_mem _ he)) h
theorem ho63n {C : zr_Z} {T : List Int32} (hC : mC C T) {p : Nat} (hp : p ≤ 1800) (h38 : mA T p = 38) (h35 : mA T (p + 1) = 35) :
    o_63 C (nI p) = if (decide (mA T (p + 2) = 120) || decide (mA T (p + 2) = 88)) = true then o_64 C (nI (p + 3)) 16 6 else o_64 C (nI (p + 2)) 10 7 := by
  unfold o_63; rw [hC.at (by omega), if_pos h38, nI_1, hC.at (by omega), if_pos h35, nI_2, hC.at (by omega), nI_3]
  unfold olet
  generalize o_64 C (nI (p + 3)) 16 6 = x
  generalize o_64 C (nI (p + 2)) 10 7 = y
  cases x <;> cases y <;> rfl
theorem ho113n {R : zr_Z} {T : List Int32} (hR : mR R T) (hT : gT T) {p : Nat} (hp : p ≤ 1800) (h38 : mA T p = 38) (h35 : mA T (p + 1) = 35) :
    o_113 R (nI p) = if (decide (mA T (p + 2) = 120) || decide (mA T (p + 2) = 88)) = true then g_113_74 oF R (nI p) true (nI (p + 3)) 0 0 else g_113_74 oF R (nI p) false (nI (p + 2)) 0 0 := by
  unfold o_113; rw [if_pos (hR.sk hT), hR.at hT (by omega), if_pos h38, nI_1, hR.at hT (by omega), if_neg (fun h => h h35), nI_2, hR.at hT (by omega), nI_3]
  unfold olet
  generalize (decide (mA T (p + 2) = 120) || decide (mA T (p + 2) = 88)) = b
  cases b with
  | true => simp only [if_true]
  | false => simp only [Bool.false_eq_true, if_false]
def scq (R R' : zr_Z) : Prop := sceq R R' ∧ ∀ f, ¬ f = 50 → ¬ f = 51 → zf R' f = zf R f
theorem scq.refl (R : zr_Z) : scq R R := ⟨sceq.refl R, fun _ _ _ => rfl⟩
theorem ref_lock {C R : zr_Z} {T : List Int32} (hC : mC C T) (hR : mR R T) (hT : gT T) (hN : mN R) {p : Nat} (hp : p ≤ 1800) :
    (∃ R', o_63 C (nI p) = some (-1, C) ∧ o_113 R (nI p) = some (false, R') ∧ scq R R') ∨
    (∃ e v R', p + 1 < e ∧ e ≤ T.length ∧ mA T p = 38 ∧ mA T (e - 1) = 59 ∧ (∀ t, p ≤ t → t < e → rfc (mA T t) = true) ∧ o_63 C (nI p) = some (nI e, zsc C 0 v) ∧ o_113 R (nI p) = some (true, R') ∧ scq R R' ∧ zf R' 50 = nI e ∧ zf R' 51 = v) := by
  have hl := hT.1
  have hS := hR.sk hT
  by_cases h38 : ¬ mA T p = 38
  · left; refine ⟨R, ?_, ?_, scq.refl R⟩
    · unfold o_63; rw [hC.at (by omega), if_neg h38]
    · unfold o_113; rw [if_pos hS, hR.at hT (by omega), if_neg h38]
  have h38 := Decidable.not_not.mp h38
  have sc2 : ∀ x y, scq R (zmf (zmf R 50 x) 51 y) := fun x y => ⟨((sceq.refl R).zmf (by omega) _).zmf (by omega) _, fun f f1 f2 => by rw [zf_other _ _ f2, zf_other _ _ f1]⟩
  have h38r : rfc (mA T p) = true := by rw [h38]; decide
  by_cases h35 : mA T (p + 1) = 35
  · have h35r : rfc (mA T (p + 1)) = true := by rw [h35]; decide
    have fin : ∀ (hx : Bool) (a : Nat), a = (if hx = true then p + 3 else p + 2) → (hx = true → mA T (p + 2) = 120 ∨ mA T (p + 2) = 88) →
        o_63 C (nI p) = o_64 C (nI a) (if hx = true then 16 else 10) (nI (if hx = true then 6 else 7)) → o_113 R (nI p) = g_113_74 oF R (nI p) hx (nI a) 0 0 →
        ((∃ R', o_63 C (nI p) = some (-1, C) ∧ o_113 R (nI p) = some (false, R') ∧ scq R R') ∨
        (∃ e v R', p + 1 < e ∧ e ≤ T.length ∧ mA T p = 38 ∧ mA T (e - 1) = 59 ∧ (∀ t, p ≤ t → t < e → rfc (mA T t) = true) ∧ o_63 C (nI p) = some (nI e, zsc C 0 v) ∧ o_113 R (nI p) = some (true, R') ∧ scq R R' ∧ zf R' 50 = nI e ∧ zf R' 51 = v)) := by
      intro hx a ha hxx ho1 ho2
      have hap : p + 2 ≤ a ∧ a ≤ p + 3 := by rw [ha]; split <;> omega
      obtain ⟨j', v', b, g1, g2, -⟩ := num_loop hC hR hT hx (nI p) a (if hx = true then 6 else 7) rfl (by omega) (if hx = true then 16 else 10) rfl 8 0 0 oF oF (by omega) (by unfold oF; omega) (fun _ => by unfold oF; split <;> omega) (fun t ht => by omega)
      rw [Nat.add_zero, nI_0] at g1
      rw [Nat.add_zero] at g2
      unfold o_64 at ho1
      rcases g2 (by omega) with ⟨rfl, h0, h1, h2, h3, h4⟩ | ⟨rfl, h1⟩
      · right
        have := mA_lt h2 (by decide)
        refine ⟨a + j' + 1, _, _, by omega, by omega, h38, h2, fun t ht1 ht2 => ?_, ho1.trans h4, ho2.trans g1, sc2 _ _, ?_, zf_same _ _ _⟩
        · by_cases e1 : t = p
          · rw [e1]; exact h38r
          · by_cases e2 : t = p + 1
            · rw [e2]; exact h35r
            · by_cases e3 : t < a
              · have : hx = true ∧ t = p + 2 := by
                  cases hx with
                  | true => exact ⟨rfl, by rw [if_pos rfl] at ha; omega⟩
                  | false => rw [if_neg (by decide)] at ha; omega
                rw [this.2]
                rcases hxx this.1 with h | h <;> rw [h] <;> decide
              · by_cases e4 : t = a + j'
                · rw [e4, h2]; decide
                · have := h3 (t - a) (by omega)
                  rw [show a + (t - a) = t by omega] at this; exact this
        · rw [zf_other _ _ (by decide), zf_same]
      · left; exact ⟨_, ho1.trans h1, ho2.trans g1, sc2 _ _⟩
    by_cases hx : mA T (p + 2) = 120 ∨ mA T (p + 2) = 88
    · have hb : (decide (mA T (p + 2) = 120) || decide (mA T (p + 2) = 88)) = true := by
        rcases hx with h | h <;> rw [h] <;> decide
      refine fin true (p + 3) rfl (fun _ => hx) ?_ ?_
      · rw [ho63n hC hp h38 h35, if_pos hb]; simp only [if_true]; rfl
      · rw [ho113n hR hT hp h38 h35, if_pos hb]
    · have hb : ¬ (decide (mA T (p + 2) = 120) || decide (mA T (p + 2) = 88)) = true := by
        rw [decide_eq_false (fun h => hx (Or.inl h)), decide_eq_false (fun h => hx (Or.inr h))]; decide
      refine fin false (p + 2) rfl (fun h => nomatch h) ?_ ?_
      · rw [ho63n hC hp h38 h35, if_neg hb]; simp only [Bool.false_eq_true, if_false]; rfl
      · rw [ho113n hR hT hp h38 h35, if_neg hb]
  · -- a name
    have ho1 : o_63 C (nI p) = some (match mname T (p + 1) mNL with | none => (-1, C) | some (e, v) => (nI e, zsc C 0 v)) := by
      unfold o_63; rw [hC.at (by omega), if_pos h38, nI_1, hC.at (by omega), if_neg h35, cname hC (by omega)]; rfl
    have ho2 : o_113 R (nI p) = some (rnm R (mname T (p + 1) mNL)) := by
      unfold o_113; rw [if_pos hS, hR.at hT (by omega), if_pos h38, nI_1, hR.at hT (by omega), if_pos h35, rname hR hT hN (by omega)]
    cases hm : mname T (p + 1) mNL with
    | none => left; rw [hm] at ho1 ho2; exact ⟨R, ho1, ho2, scq.refl R⟩
    | some ev =>
      obtain ⟨e, v⟩ := ev
      right; rw [hm] at ho1 ho2
      obtain ⟨h1, h2, h3⟩ := mname_some mNL (by decide +kernel) hm
      have := mA_lt h2 (by decide)
      refine ⟨e, v, _, h1, by omega, h38, h2, fun t ht1 ht2 => ?_, ho1, ho2, sc2 _ _, ?_, zf_same _ _ _⟩
      · by_cases e1 : t = p
        · rw [e1]; exact h38r
        · exact h3 t (by omega) ht2
      · rw [zf_other _ _ (by decide), zf_same]
