/-! the mathematics; written by wip/whole/m2parts.py -/
abbrev GS : Type := List Nd × List Nat × Option Nat
def hdI : List Nat → Int32
  | [] => -1
  | i :: _ => nI i
def oI : Option Nat → Int32
  | none => -1
  | some i => nI i
def nNd (t : Tok) (st : List Nat) : Nd := (t.1, hdI st, st.length + 1, if t.1 = 0 then [t.2.1] else t.2.2.1, t.2.2.2, if t.1 = 6 ∨ t.1 = 7 then t.2.1 else -1)
def ndL (nd : Nd) (c : Int32) : Nd := (nd.1, nd.2.1, nd.2.2.1, nd.2.2.2.1 ++ [c], nd.2.2.2.2)
def setL (N : List Nd) (i : Nat) (c : Int32) : List Nd := match N[i]? with | some nd => N.set i (ndL nd c) | none => N
def mkn (S : GS) (t : Tok) : Prop := ¬ t.1 = 9 ∧ ¬ t.1 = 10 ∧ ¬ (t.1 = 0 ∧ ¬ S.2.2 = none)
def gst (S : GS) (t : Tok) : GS :=
  if t.1 = 9 then (S.1, S.2.1.tail, none)
  else if t.1 = 10 then (S.1, S.2.1, none)
  else match (if t.1 = 0 then S.2.2 else none) with
    | some i => (setL S.1 i t.2.1, S.2.1, some i)
    | none => (S.1 ++ [nNd t S.2.1], if t.1 < 4 then S.2.1 else S.1.length :: S.2.1, if t.1 = 0 then some S.1.length else if t.1 = 3 then some S.1.length else none)
def gfold : List Tok → GS → GS
  | [], S => S
  | t :: l, S => gfold l (gst S t)
def gok : List Tok → GS → Prop
  | [], _ => True
  | t :: l, S => (mkn S t → S.2.1.length < 20) ∧ gok l (gst S t)
theorem gfold_app : ∀ (l m : List Tok) (S : GS), gfold (l ++ m) S = gfold m (gfold l S) := by
  intro l
  induction l with
  | nil => intro m S; rfl
  | cons t l ih => intro m S; exact ih m (gst S t)
theorem gok_app : ∀ (l m : List Tok) (S : GS), gok (l ++ m) S ↔ gok l S ∧ gok m (gfold l S) := by
  intro l
  induction l with
  | nil => intro m S; exact ⟨fun h => ⟨trivial, h⟩, fun h => h.2⟩
  | cons t l ih =>
    intro m S
    constructor
    · intro h
      have := (ih m (gst S t)).mp h.2
      exact ⟨⟨h.1, this.1⟩, this.2⟩
    · intro h
      exact ⟨h.1.1, (ih m (gst S t)).mpr ⟨h.1.2, h.2⟩⟩
def SK (N : List Nd) : List Nat → Prop
  | [] => True
  | i :: st => (∃ nd : Nd, N[i]? = some nd ∧ nd.2.1 = hdI st ∧ nd.2.2.1 = st.length + 1) ∧ SK N st
theorem SK_mono {N N' : List Nd} (h : ∀ (i : Nat) (nd : Nd), N[i]? = some nd → ∃ nd' : Nd, N'[i]? = some nd' ∧ nd'.2.1 = nd.2.1 ∧ nd'.2.2.1 = nd.2.2.1) : ∀ st, SK N st → SK N' st := by
  intro st
  induction st with
  | nil => intro _; trivial
  | cons i st ih =>
    rintro ⟨⟨nd, h1, h2, h3⟩, h4⟩
    obtain ⟨nd', g1, g2, g3⟩ := h i nd h1
    exact ⟨⟨nd', g1, g2.trans h2, g3.trans h3⟩, ih h4⟩
theorem SK_app {N : List Nd} {st : List Nat} (h : SK N st) (M : List Nd) : SK (N ++ M) st :=
  SK_mono (fun i nd hi => ⟨nd, by rw [List.getElem?_append_left (List.getElem?_eq_some_iff.mp hi).1]; exact hi, rfl, rfl⟩) st h
theorem setL_get {N : List Nd} {i : Nat} {c : Int32} {nd : Nd} (h : N[i]? = some nd) : setL N i c = N.set i (ndL nd c) := by
  unfold setL; rw [h]
theorem setL_len (N : List Nd) (i : Nat) (c : Int32) : (setL N i c).length = N.length := by
  unfold setL
  cases N[i]? with
  | none => rfl
  | some nd => exact List.length_set
theorem setL_at {N : List Nd} {i j : Nat} {c : Int32} {nd : Nd} (h : N[j]? = some nd) : (setL N i c)[j]? = some (if i = j then ndL nd c else nd) := by
  by_cases e : i = j
  · subst e; rw [setL_get h, if_pos rfl, List.getElem?_set_self (List.getElem?_eq_some_iff.mp h).1]
  · rw [if_neg e]
    unfold setL
    cases N[i]? with
    | none => exact h
    | some nd' => dsimp only; rw [List.getElem?_set_ne e]; exact h
theorem SK_setL {N : List Nd} {st : List Nat} {i : Nat} {c : Int32} (h : SK N st) : SK (setL N i c) st := by
  refine SK_mono (fun j nd hj => ⟨_, setL_at hj, ?_, ?_⟩) st h
  · by_cases e : i = j
    · rw [if_pos e]; rfl
    · rw [if_neg e]
  · by_cases e : i = j
    · rw [if_pos e]; rfl
    · rw [if_neg e]
theorem SK_lt {N : List Nd} {i : Nat} {st : List Nat} (h : SK N (i :: st)) : i < N.length := by
  obtain ⟨⟨nd, h1, -⟩, -⟩ := h
  exact (List.getElem?_eq_some_iff.mp h1).1
def CS (C : zr_Z) (S : GS) : Prop := CN C S.1 ∧ SK S.1 S.2.1 ∧ ∀ i, S.2.2 = some i → CUR C S.1 i
theorem hd_hold {C : zr_Z} {N : List Nd} {st : List Nat} (h : CN C N) (hs : SK N st) : zt C 117 (hdI st) = hdI st.tail := by
  cases st with
  | nil => rfl
  | cons i st =>
    have hi := SK_lt hs
    have h2 := h.2.1
    obtain ⟨⟨nd, h1, h3, h4⟩, -⟩ := hs
    show zt C 117 (nI i) = hdI st
    rw [zt_ldq _ _ (by omega), (h.2.2.2 i nd h1).2.1]; exact h3
theorem hd_depth {C : zr_Z} {N : List Nd} {st : List Nat} (h : CN C N) (hs : SK N st) : f_47 C (hdI st) = nI (st.length + 1) := by
  unfold f_47
  cases st with
  | nil => rw [if_neg (fun hh => hh rfl)]; rfl
  | cons i st =>
    have hi := SK_lt hs
    have h2 := h.2.1
    obtain ⟨⟨nd, h1, h3, h4⟩, -⟩ := hs
    show (if ¬ nI i = -1 then zt C 119 (nI i) + 1 else 1) = _
    rw [if_pos (ne_m1 (by omega)), zt_ldq _ _ (by omega), (h.2.2.2 i nd h1).2.2.1, h4, nI_1]; rfl
theorem cn_new {C : zr_Z} {T : List Int32} {N : List Nd} {st : List Nat} {K va : Int32} {t : Tok} {nl : Nat} (hC : mC C T) (hT : gT T) (h : CN C N) (hs : SK N st) (hn : N.length < 1500) (hnl : nl ≤ 1500) (hld : ∀ i, i < nl → LD1 C T i)
    (ht : (K = 0 ∧ t = tkc va) ∨ ((K = 6 ∨ K = 7) ∧ ∃ i, i < nl ∧ va = nI i ∧ t = (K, ldq C 72 i, ldT C T i, ldU C T i)) ∨ (¬ K = 0 ∧ ¬ K = 6 ∧ ¬ K = 7 ∧ t = tk0 K)) (hroom : (C.1 131).length + lw t ≤ 3900) :
    ∃ C', o_48 C K (hdI st) va = some (nI N.length, C') ∧ CN C' (N ++ [nNd t st]) ∧ NK C C' ∧ (C'.1 131).length = (C.1 131).length + lw t ∧ ((K = 0 ∨ K = 3) → CUR C' (N ++ [nNd t st]) N.length) := by
  obtain ⟨b1, b2, b3, b4⟩ := cn_base (kd := K) (ho := hdI st) (dp := st.length + 1) h hn
  have hz : zs C 115 = nI N.length := by unfold zs; rw [h.1 115 (by decide)]
  rw [o48_eq, hd_depth h hs, hz]
  generalize hB : cb48 C K (hdI st) (nI (st.length + 1)) = B at *
  rcases ht with ⟨rfl, rfl⟩ | ⟨hK, i, hi, rfl, rfl⟩ | ⟨h0, h6, h7, rfl⟩
  · rw [if_neg (fun hh => hh rfl)]
    have hlast : (N ++ [((0, hdI st, st.length + 1, [], [], -1) : Nd)])[N.length]? = some (0, hdI st, st.length + 1, [], [], -1) := by rw [List.getElem?_append_right (Nat.le_refl _), Nat.sub_self]; rfl
    have hroom' : (C.1 131).length + 1 ≤ 3900 := hroom
    obtain ⟨q1, q2, q3, q4, q5⟩ := cn_letter (c := va) b1 hlast b2 (by rw [b4]; omega)
    have he : (N ++ [((0, hdI st, st.length + 1, [], [], -1) : Nd)]).set N.length (0, hdI st, st.length + 1, [] ++ [va], [], -1) = N ++ [nNd (tkc va) st] := by
      rw [List.set_append_right _ _ (Nat.le_refl _), Nat.sub_self]; rfl
    dsimp only at q1 q2
    rw [he] at q1 q2
    refine ⟨_, rfl, q1, b3.trans ⟨fun id hid => q5 id (by omega) (by omega), fun j _ => by unfold zc; rw [q4], by rw [q4]⟩, ?_, fun _ => q2⟩
    rw [q3, b4, List.length_append]; rfl
  · have hKn : ¬ K = 0 := by rcases hK with g | g <;> rw [g] <;> decide
    have hmB : mC B T := (b3.1 61 (by omega)).trans hC
    have hl : ∀ id x, id < 115 → ldq B id x = ldq C id x := fun id x hid => by rw [ldq_eq, ldq_eq, b3.1 id (by omega)]
    have eT : ldT B T i = ldT C T i := by unfold ldT; rw [hl 70 _ (by decide), hl 74 _ (by decide), hl 76 _ (by decide)]
    have eU : ldU B T i = ldU C T i := by unfold ldU; rw [hl 78 _ (by decide), hl 80 _ (by decide)]
    have hLD : LD1 B T i := by
      have := hld i hi
      unfold LD1 at this ⊢
      rw [hl 70 _ (by decide), hl 74 _ (by decide), hl 76 _ (by decide), hl 78 _ (by decide), hl 80 _ (by decide)]; exact this
    have hlw : lw (K, ldq C 72 i, ldT C T i, ldU C T i) = (ldT C T i).length + (ldU C T i).length := by unfold lw; rw [if_neg hKn]
    rw [hlw] at hroom
    obtain ⟨C', g1, g2, g3, g4⟩ := cn_lead (i := i) hmB hT b1 b2 (by omega) hLD (by rw [b4, eT, eU]; omega)
    rw [eT, eU, hl 72 _ (by decide)] at g2
    rw [eT, eU] at g4
    refine ⟨C', ?_, ?_, b3.trans g3, ?_, fun hh => ?_⟩
    · rw [if_pos hKn]
      rcases hK with g | g
      · rw [if_pos g, g1]; rfl
      · rw [if_neg (by rw [g]; decide), if_neg (fun hh => hh g), g1]; rfl
    · have : nNd (K, ldq C 72 i, ldT C T i, ldU C T i) st = (K, hdI st, st.length + 1, ldT C T i, ldU C T i, ldq C 72 i) := by
        unfold nNd; dsimp only; rw [if_neg hKn, if_pos hK]
      rw [this]; exact g2
    · rw [g4, b4, List.length_append, List.length_append, hlw]
    · rcases hK with g | g <;> rw [g] at hh <;> exact absurd hh (by decide)
  · rw [if_pos h0, if_neg h6, if_pos h7]
    have hnd : nNd (tk0 K) st = (K, hdI st, st.length + 1, [], [], -1) := by
      unfold nNd tk0; dsimp only; rw [if_neg h0, if_neg (fun hh => hh.elim h6 h7)]
    have hlw : lw (tk0 K) = 0 := by unfold lw tk0; dsimp only; rw [if_neg h0]; rfl
    refine ⟨B, rfl, by rw [hnd]; exact b1, b3, by rw [b4, hlw]; rfl, fun _ => by rw [hnd]; exact b2⟩
