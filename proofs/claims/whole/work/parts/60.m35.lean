/-! the mathematics; written by wip/whole/m2parts.py -/
def kpq (R R' : zr_Z) (pl : Nat) (l : List Int32) : Prop :=
  (∀ j, ¬ j = 142 → ∀ i, rv R' j i = rv R j i) ∧ (∀ i, i < pl → rv R' 142 i = rv R 142 i) ∧ rsl R' pl l.length = l ∧ zf R' 10 = nI (pl + l.length) ∧ ∀ f, ¬ f = 10 → ¬ f = 50 → ¬ f = 51 → zf R' f = zf R f
theorem kpq_nil {R : zr_Z} {pl : Nat} (h : zf R 10 = nI pl) : kpq R R pl [] := ⟨fun _ _ _ => rfl, fun _ _ => rfl, rfl, h, fun _ _ _ _ => rfl⟩
theorem kpq_scq {R R1 R2 : zr_Z} {pl : Nat} {l : List Int32} (h : kpq R R1 pl l) (g : scq R1 R2) : kpq R R2 pl l := by
  have hv : ∀ j i, rv R2 j i = rv R1 j i := fun j i => by unfold rv; rw [g.1.2.2.1]
  refine ⟨fun j hj i => (hv j i).trans (h.1 j hj i), fun i hi => (hv 142 i).trans (h.2.1 i hi), ?_, (g.2 10 (by decide) (by decide)).trans h.2.2.2.1, fun f f1 f2 f3 => (g.2 f f2 f3).trans (h.2.2.2.2 f f1 f2 f3)⟩
  rw [rsl_all (R := R1) (fun i => hv 142 i)]; exact h.2.2.1
theorem kpq_snoc {R R1 : zr_Z} {pl : Nat} {l : List Int32} (h : kpq R R1 pl l) (hb : pl + l.length < 20000) (c : Int32) : ∃ R2, o_122 R1 c = some R2 ∧ kpq R R2 pl (l ++ [c]) ∧ (∀ f, ¬ f = 10 → zf R2 f = zf R1 f) := by
  obtain ⟨h1, h2, h3, h4, h5⟩ := h
  have hb' : pl + l.length < 2 ^ 31 := by omega
  refine ⟨zmf (zar R1 142 (nI (pl + l.length)) c) 10 (nI (pl + l.length + 1)), ?_, ⟨?_, ?_, ?_, ?_, ?_⟩, ?_⟩
  · unfold o_122; rw [h4, if_pos (inq_nI (by show pl + l.length < 20000; omega) (by omega)), nI_1]
  · intro j hj i; rw [rv_zmf, rv_oth _ _ _ hj]; exact h1 j hj i
  · intro i hi; rw [rv_zmf, rv_at _ _ _ hb', if_neg (by omega)]; exact h2 i hi
  · rw [List.length_append, List.length_cons, List.length_nil, Nat.zero_add, rsl_snoc, rv_zmf, rv_at _ _ _ hb', if_pos rfl]
    congr 1
    refine Eq.trans (rsl_cong (R := R1) l.length pl (fun i g1 g2 => ?_)) h3
    rw [rv_zmf, rv_at _ _ _ hb', if_neg (by omega)]
  · rw [zf_same, List.length_append]; rfl
  · intro f hf g1 g2; rw [zf_other _ _ hf, zf_zar]; exact h5 f hf g1 g2
  · intro f hf; rw [zf_other _ _ hf, zf_zar]
theorem kpq.mR {R R' : zr_Z} {T : List Int32} {pl : Nat} {l : List Int32} (h : kpq R R' pl l) (g : mR R T) : mR R' T :=
  ⟨(h.2.2.2.2 3 (by decide) (by decide) (by decide)).trans g.1, fun i hi => (h.1 137 (by decide) i).trans (g.2 i hi)⟩
theorem kpq.mN {R R' : zr_Z} {pl : Nat} {l : List Int32} (h : kpq R R' pl l) (g : mN R) : mN R' := fun i hi => (h.1 173 (by decide) i).trans (g i hi)
theorem r120_loop {T : List Int32} (hT : gT T) {R : zr_Z} (hR : mR R T) (hN : mN R) (pl : Nat) (a : Int32) (b : Nat) (hb : b ≤ 1600) : ∀ n i m S l, mrch T b i → (∀ (h : i < b), rfc (mA T b) = false) → b - i ≤ n → n < m → kpq R S pl l → pl + l.length + n ≤ 15000 →
    ∃ R', g_120_8 m S a (nI b) (nI pl) (nI i) = some (nI (l.length + (mun T b n i).length), R') ∧ kpq R R' pl (l ++ mun T b n i) := by
  have hl := hT.1
  intro n
  induction n with
  | zero =>
    intro i m S l hr hf hn hm hk hroom
    obtain ⟨m, rfl⟩ : ∃ z, m = z + 1 := ⟨m - 1, by omega⟩
    have := mrch_le hr
    refine ⟨S, ?_, by rw [mun, List.append_nil]; exact hk⟩
    rw [g_120_8, if_pos ((hk.mR hR).sk hT), if_pos ((nI_leI (by omega) (by omega)).mpr (by omega)), hk.2.2.2.1, pk_sub (by omega), mun, List.length_nil, show pl + l.length - pl = l.length + 0 by omega]
  | succ n ih =>
    intro i m S l hr hf hn hm hk hroom
    obtain ⟨m, rfl⟩ : ∃ z, m = z + 1 := ⟨m - 1, by omega⟩
    have hile := mrch_le hr
    have hSm := hk.mR hR
    rw [mun]
    by_cases hbi : b ≤ i
    · rw [if_pos hbi]
      refine ⟨S, ?_, by rw [List.append_nil]; exact hk⟩
      rw [g_120_8, if_pos (hSm.sk hT), if_pos ((nI_leI (by omega) (by omega)).mpr hbi), hk.2.2.2.1, pk_sub (by omega), List.length_nil, show pl + l.length - pl = l.length + 0 by omega]
    rw [if_neg hbi]
    rcases mrch_inv hr with h | ⟨h, hr'⟩
    · omega
    have hnb : ¬ nI b ≤ nI i := fun h => hbi ((nI_leI (by omega) (by omega)).mp h)
    rw [g_120_8, if_pos (hSm.sk hT), if_neg hnb, hSm.esc hT (by omega)]
    by_cases he : mesc T i = true
    · have e2 : mst T i = 2 := by unfold mst; rw [if_pos he]
      rw [e2] at hr'
      rw [if_pos he, if_pos he, nI_1, hSm.at hT (by omega)]
      obtain ⟨S2, k1, k2, -⟩ := kpq_snoc hk (by omega) (mA T (i + 1))
      obtain ⟨R', g1, g2⟩ := ih (i + 2) m S2 (l ++ [mA T (i + 1)]) hr' (fun _ => hf h) (by omega) (by omega) k2 (by rw [List.length_append]; simp only [List.length_cons, List.length_nil]; omega)
      rw [k1]; simp only [Option.bind_some]
      rw [if_pos ((k2.mR hR).sk hT), nI_2]
      refine ⟨R', ?_, by rw [List.append_assoc] at g2; exact g2⟩
      rw [g1, List.length_append, List.length_cons, List.length_cons, List.length_nil]; congr 3; omega
    · have e1 : mst T i = 1 := by unfold mst; rw [if_neg he]
      rw [e1] at hr'
      rw [if_neg he, if_neg he]
      have one : ∀ S1, scq S S1 → ∃ R', (Option.bind (o_122 S1 (ra S1 (nI i))) fun u12 => (if sok u12 then g_120_8 m u12 a (nI b) (nI pl) (nI i + 1) else none)) = some (nI (l.length + (mA T i :: mun T b n (i + 1)).length), R') ∧ kpq R R' pl (l ++ mA T i :: mun T b n (i + 1)) := by
        intro S1 hs
        have hk1 := kpq_scq hk hs
        obtain ⟨S2, k1, k2, -⟩ := kpq_snoc hk1 (by omega) (mA T i)
        obtain ⟨R', g1, g2⟩ := ih (i + 1) m S2 (l ++ [mA T i]) hr' (fun _ => hf h) (by omega) (by omega) k2 (by rw [List.length_append]; simp only [List.length_cons, List.length_nil]; omega)
        rw [(hk1.mR hR).at hT (by omega), k1]; simp only [Option.bind_some]
        rw [if_pos ((k2.mR hR).sk hT), nI_1]
        refine ⟨R', ?_, by rw [List.append_assoc] at g2; exact g2⟩
        rw [g1, List.length_append, List.length_cons, List.length_cons, List.length_nil]; congr 3; omega
      rcases mrf_ref hSm hT (hk.mN hN) (p := i) (by omega) with ⟨q1, S1, q2, q3⟩ | ⟨e, v, S1, q1, q2, q3, q4, q5, q6, q7, q8, q9, q10⟩
      · rw [q1, q2]; simp only [Option.bind_some]
        have hs1 : sok S1 := ((kpq_scq hk q3).mR hR).sk hT
        rw [if_pos hs1, if_neg (by decide)]
        exact one S1 q3
      · rw [q1, q7]; simp only [Option.bind_some]
        have hk1 := kpq_scq hk q8
        have hle : e ≤ b := Nat.le_of_not_lt (fun hlt => by
          have := q6 b (by omega) hlt
          rw [hf h] at this; exact absurd this (by decide))
        rw [if_pos ((hk1.mR hR).sk hT), if_pos trivial, q9, q10, if_neg (by rw [nI_ltI (by omega) (by omega)]; omega)]
        have hk182 : k_182 v = k_200 v := rfl
        rw [hk182]
        obtain ⟨S2, k1, k2, k3⟩ := kpq_snoc hk1 (by omega) (if k_200 v = true then 65533 else v)
        obtain ⟨R', g1, g2⟩ := ih e m S2 (l ++ [if k_200 v = true then 65533 else v]) (mrch_skip hr (by omega) hle q6) (fun _ => hf h) (by omega) (by omega) k2 (by rw [List.length_append]; simp only [List.length_cons, List.length_nil]; omega)
        rw [k1]; simp only [Option.bind_some]
        rw [if_pos ((k2.mR hR).sk hT), k3 50 (by decide), q9]
        refine ⟨R', ?_, by rw [List.append_assoc] at g2; exact g2⟩
        rw [g1, List.length_append, List.length_cons, List.length_cons, List.length_nil]; congr 3; omega
theorem r120 {T : List Int32} (hT : gT T) {R : zr_Z} (hR : mR R T) (hN : mN R) {pl a b : Nat} (h10 : zf R 10 = nI pl) (hb : b ≤ 1600) (hpl : pl ≤ 5000) (hr : mrch T b a) (hf : a < b → rfc (mA T b) = false) :
    ∃ R', o_120 R (nI a) (nI b) = some (nI (munesc T a b).length, R') ∧ kpq R R' pl (munesc T a b) := by
  have := mrch_le hr
  obtain ⟨R', g1, g2⟩ := r120_loop hT hR hN pl (nI a) b hb (b - a) a oF R [] hr hf (Nat.le_refl _) (by unfold oF; omega) (kpq_nil h10) (by show pl + 0 + (b - a) ≤ 15000; omega)
  refine ⟨R', ?_, g2⟩
  unfold o_120 munesc
  rw [if_pos (hR.sk hT), h10, g1, List.length_nil, Nat.zero_add]
def nrm (R R' : zr_Z) (l : List Int32) : Prop := (∀ j, ¬ j = 141 → ∀ i, rv R' j i = rv R j i) ∧ (∀ i, i < l.length → rv R' 141 i = l.getD i 0) ∧ zf R' 8 = nI l.length ∧ ∀ f, ¬ f = 8 → zf R' f = zf R f
theorem getD_app0 {l : List Int32} {c : Int32} {i : Nat} (hi : i < l.length + 1) : (l ++ [c]).getD i 0 = if i = l.length then c else l.getD i 0 := by
  by_cases h : i = l.length
  · rw [if_pos h, h, List.getD_eq_getElem?_getD, List.getElem?_append_right (Nat.le_refl _), Nat.sub_self]; rfl
  · rw [if_neg h, List.getD_eq_getElem?_getD, List.getElem?_append_left (by omega), List.getD_eq_getElem?_getD]
theorem nrm_snoc {R S : zr_Z} {l : List Int32} (h : nrm R S l) (hl : l.length < 100) (c : Int32) : inq 141 (zf S 8) ∧ nrm R (zmf (zar S 141 (zf S 8) c) 8 (zf S 8 + 1)) (l ++ [c]) := by
  obtain ⟨h1, h2, h3, h4⟩ := h
  have hb : l.length < 2 ^ 31 := by omega
  rw [h3]
  refine ⟨inq_nI (by show l.length < 100; exact hl) hb, fun j hj i => ?_, fun i hi => ?_, ?_, fun f hf => ?_⟩
  · rw [rv_zmf, rv_oth _ _ _ hj]; exact h1 j hj i
  · rw [List.length_append, List.length_cons, List.length_nil] at hi
    rw [rv_zmf, rv_at _ _ _ hb, getD_app0 (by omega)]
    by_cases e : i = l.length
    · rw [if_pos e, if_pos e]
    · rw [if_neg e, if_neg e]; exact h2 i (by omega)
  · rw [zf_same, nI_1, List.length_append]; rfl
  · rw [zf_other _ _ hf, zf_zar]; exact h4 f hf
theorem r123_loop {T : List Int32} (hT : gT T) {R : zr_Z} (hR : mR R T) (a : Int32) (b : Nat) (hb : b ≤ T.length) : ∀ d i n (w : Bool) S l, i + d = b → d < n → nrm R S l → (mnf T d i w l).length ≤ 100 →
    ∃ R', g_123_10 n S a (nI b) (w && !decide (l = [])) (nI i) = some R' ∧ nrm R R' (mnf T d i w l) := by
  have hl := hT.1
  intro d
  induction d with
  | zero =>
    intro i n w S l hi hn hk hlen
    obtain ⟨n, rfl⟩ : ∃ z, n = z + 1 := ⟨n - 1, by omega⟩
    exact ⟨S, by rw [g_123_10, if_pos ((nI_leI (by omega) (by omega)).mpr (by omega))], by rw [mnf]; exact hk⟩
  | succ d ih =>
    intro i n w S l hi hn hk hlen
    obtain ⟨n, rfl⟩ : ∃ z, n = z + 1 := ⟨n - 1, by omega⟩
    have h137 : zv S 137 (nI i) = mA T i := by
      rw [zv_nI _ _ (by omega), hk.1 137 (by decide)]; exact hR.2 i (by omega)
    have hq : inq 137 (nI i) := inq_nI (by show i < 1500; omega) (by omega)
    have h8 : (!decide (zf S 8 ≤ 0)) = !decide (l = []) := by
      have hll : l.length ≤ 100 := Nat.le_trans (mnf_ge T _ _ _ _) hlen
      congr 1
      refine decide_eq_decide.mpr ?_
      rw [hk.2.2.1, ← nI_0, nI_leI (by omega) (by omega)]
      exact ⟨fun h => List.length_eq_zero_iff.mp (by omega), fun h => by rw [h]; exact Nat.le_refl _⟩
    rw [g_123_10, if_neg (by rw [nI_leI (by omega) (by omega)]; omega), if_pos hq, h137, k143, nI_1]
    rw [mnf] at hlen ⊢
    by_cases hw : k_194 (mA T i) = true
    · rw [if_pos hw] at hlen ⊢
      rw [if_pos hw]
      simp only [olet]
      rw [h8]
      exact ih (i + 1) n true S l (by omega) (by omega) hk hlen
    · rw [if_neg hw] at hlen ⊢
      rw [if_neg hw]
      have hge := Nat.le_trans (mnf_ge T d (i + 1) false (l ++ (if w = true ∧ ¬ l = [] then [32] else []) ++ [k_192 (mA T i)])) hlen
      simp only [List.length_append, List.length_cons, List.length_nil] at hge
      have hk192 : (if mA T i < 65 then mA T i else (if 90 < mA T i then mA T i else (mA T i + 32) : Int32) : Int32) = k_192 (mA T i) := rfl
      rw [hk192]
      by_cases hww : w = true ∧ ¬ l = []
      · rw [if_pos hww] at hge hlen ⊢
        simp only [List.length_cons, List.length_nil] at hge
        obtain ⟨hq1, hn1⟩ := nrm_snoc hk (by omega) 32
        obtain ⟨hq2, hn2⟩ := nrm_snoc hn1 (by rw [List.length_append]; simp only [List.length_cons, List.length_nil]; omega) (k_192 (mA T i))
        rw [zf_same] at hq2 hn2
        rw [hww.1, decide_eq_false hww.2, Bool.not_false, Bool.true_and, if_pos rfl, if_pos hq1, if_pos hq2]
        have := ih (i + 1) n false _ _ (by omega) (by omega) hn2 hlen
        rw [Bool.false_and] at this; exact this
      · rw [if_neg hww] at hge hlen ⊢
        simp only [List.length_nil] at hge
        obtain ⟨hq1, hn1⟩ := nrm_snoc hk (by omega) (k_192 (mA T i))
        have hy : ¬ (w && !decide (l = [])) = true := by
          intro hh
          rw [Bool.and_eq_true, Bool.not_eq_true', decide_eq_false_iff_not] at hh
          exact hww hh
        rw [if_neg hy, if_pos hq1]
        rw [List.append_nil] at hlen ⊢
        have := ih (i + 1) n false _ _ (by omega) (by omega) hn1 hlen
        rw [Bool.false_and] at this; exact this
theorem r123 {T : List Int32} (hT : gT T) {R : zr_Z} (hR : mR R T) {a b : Nat} (hab : a ≤ b) (hb : b ≤ T.length) (h100 : b - a ≤ 100) : ∃ R', o_123 R (nI a) (nI b) = some R' ∧ nrm R R' (mnorm T a b) := by
  have h0 : nrm R (zmf R 8 0) [] := ⟨fun _ _ _ => rfl, fun i hi => absurd hi (by simp), zf_same _ _ _, fun f hf => zf_other _ _ hf⟩
  have hl := mnorm_len T a b
  obtain ⟨R', g1, g2⟩ := r123_loop hT hR (nI a) b hb (b - a) a oF false (zmf R 8 0) [] (by omega) (by unfold oF; have := hT.1; omega) h0 (by unfold mnorm at hl; omega)
  rw [Bool.false_and] at g1
  exact ⟨R', by unfold o_123; exact g1, g2⟩
theorem r124 {C R S : zr_Z} {D : List (List Int32)} {l : List Int32} (hD : DEF C R D) (hn : nrm R S l) (hl : l.length ≤ 100) : o_124 S = some (dfind l 0 D) := by
  obtain ⟨d1, d2, d3, d4, d5, d6, d7⟩ := hD
  have h7 : zf S 7 = nI D.length := (hn.2.2.2 7 (by decide)).trans d5
  have h8 : zf S 8 = nI l.length := hn.2.2.1
  have inner : ∀ (d : Nat) (v : List Int32), d < D.length → D.getD d [] = v → v.length = l.length → ∀ e i m K, i + e = l.length → e < m → g_124_31 m S (nI d) true (nI i) K = if v.drop i = l.drop i then some (nI d) else K S (nI (d + 1)) := by
    intro d v hd hv hvl e
    induction e with
    | zero =>
      intro i m K hi hm
      obtain ⟨m, rfl⟩ : ∃ z, m = z + 1 := ⟨m - 1, by omega⟩
      rw [g_124_31, h8, if_pos ((nI_leI (by omega) (by omega)).mpr (by omega)), if_pos rfl, List.drop_eq_nil_of_le (by omega), List.drop_eq_nil_of_le (by omega), if_pos rfl]
    | succ e ih =>
      intro i m K hi hm
      obtain ⟨m, rfl⟩ : ∃ z, m = z + 1 := ⟨m - 1, by omega⟩
      have hidx : (100 : Int32) * nI d + nI i = nI (100 * d + i) := by rw [show (100 : Int32) = nI 100 from rfl, pk_mul, nI_add]
      have hiv : i < v.length := by omega
      have hil : i < l.length := by omega
      have e139 : zv S 139 (nI (100 * d + i)) = v[i] := by
        rw [zv_nI _ _ (by omega), hn.1 139 (by decide), d7 d i hd (by rw [hv]; exact hiv), hv, List.getD_eq_getElem?_getD, List.getElem?_eq_getElem hiv]; rfl
      have e141 : zv S 141 (nI i) = l[i] := by
        rw [zv_nI _ _ (by omega), hn.2.1 i hil, List.getD_eq_getElem?_getD, List.getElem?_eq_getElem hil]; rfl
      rw [g_124_31, h8, if_neg (by rw [nI_leI (by omega) (by omega)]; omega), if_pos rfl, hidx, if_pos (inq_nI (by show 100 * d + i < 2000; omega) (by omega)), if_pos (inq_nI (by show i < 100; omega) (by omega)), e139, e141]
      simp only [olet]
      rw [List.drop_eq_getElem_cons hiv, List.drop_eq_getElem_cons hil]
      by_cases he : v[i] = l[i]
      · rw [decide_eq_true he, nI_1, ih (i + 1) m K (by omega) (by omega), he]
        by_cases hd' : v.drop (i + 1) = l.drop (i + 1)
        · rw [if_pos hd', if_pos (by rw [hd'])]
        · rw [if_neg hd', if_neg (fun h => hd' (List.cons.inj h).2)]
      · rw [decide_eq_false he, if_neg (fun h => he (List.cons.inj h).1)]
        obtain ⟨m, rfl⟩ : ∃ z, m = z + 1 := ⟨m - 1, by omega⟩
        rw [g_124_31, h8]
        split
        · rw [if_neg (by decide), nI_1]
        · rw [if_neg (by decide), if_neg (by decide), nI_1]
  have nofit : ∀ d K, d < D.length → g_124_31 oF S (nI d) false 0 K = K S (nI (d + 1)) := by
    intro d K hd
    obtain ⟨m, hm⟩ := oF_1
    rw [hm, g_124_31]
    split
    · rw [if_neg (by decide), nI_1]
    · rw [if_neg (by decide), if_neg (by decide), nI_1]
  have outer : ∀ (D2 D1 : List (List Int32)) m, D1 ++ D2 = D → D2.length < m → g_124_2 m S (nI D1.length) = some (dfind l D1.length D2) := by
    intro D2
    induction D2 with
    | nil =>
      intro D1 m hDD hm
      obtain ⟨m, rfl⟩ : ∃ z, m = z + 1 := ⟨m - 1, by omega⟩
      rw [List.append_nil] at hDD
      rw [g_124_2, h7, if_pos (by rw [hDD]; exact Int32.le_refl _), dfind]
    | cons v D2 ih =>
      intro D1 m hDD hm
      obtain ⟨m, rfl⟩ : ∃ z, m = z + 1 := ⟨m - 1, by omega⟩
      have hDl : D.length = D1.length + (D2.length + 1) := by rw [← hDD]; simp
      have hget : D.getD D1.length [] = v := by
        rw [← hDD, List.getD_eq_getElem?_getD, List.getElem?_append_right (Nat.le_refl _), Nat.sub_self]; rfl
      have hvl : v.length ≤ 100 := d2 v (by rw [← hDD]; simp)
      have e140 : zv S 140 (nI D1.length) = nI v.length := by
        rw [zv_nI _ _ (by omega), hn.1 140 (by decide), d6 D1.length (by omega), hget]
      have hnext := ih (D1 ++ [v]) m (by rw [← hDD, List.append_assoc]; rfl) (by simp only [List.length_cons] at hm; omega)
      have hl1 : (D1 ++ [v]).length = D1.length + 1 := by simp
      rw [hl1] at hnext
      rw [g_124_2, h7, if_neg (by rw [nI_leI (by omega) (by omega)]; omega), if_pos (inq_nI (by show D1.length < 20; omega) (by omega)), e140, h8, dfind]
      simp only [olet]
      by_cases hlen : v.length = l.length
      · rw [hlen, decide_eq_true rfl]
        have := inner D1.length v (by omega) hget hlen l.length 0 oF (fun Z x1 => g_124_2 m Z x1) (by omega) (by unfold oF; omega)
        rw [nI_0, List.drop_zero, List.drop_zero] at this
        rw [this]
        by_cases hv : v = l
        · rw [if_pos hv, if_pos hv]
        · rw [if_neg hv, if_neg hv]; exact hnext
      · rw [decide_eq_false (by rw [nI_eq (by omega) (by omega)]; exact hlen), nofit D1.length _ (by omega), if_neg (by rintro rfl; exact hlen rfl)]; exact hnext
  have := outer D [] oF rfl (by unfold oF; omega)
  unfold o_124
  rw [List.length_nil, nI_0] at this; exact this
