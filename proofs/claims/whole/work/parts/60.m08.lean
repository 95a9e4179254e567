/-! the mathematics; written by wip/whole/m2parts.py -/
def kd (C : zr_Z) (p : Nat) : Int32 := (C.1 66).getD p (-1)
def vl (C : zr_Z) (p : Nat) : Int32 := (C.1 68).getD p (-1)
abbrev Tok : Type := Int32 × Int32 × List Int32 × List Int32
def mailto : List Int32 := [109, 97, 105, 108, 116, 111, 58]
def tsl (T : List Int32) (a b : Nat) : List Int32 := (T.drop a).take (b - a)
def ldq (C : zr_Z) (id i : Nat) : Int32 := (C.1 id).getD i (-1)
theorem ldq_eq (C : zr_Z) (id i : Nat) : ldq C id i = (C.1 id).getD i (-1) := rfl
def ldT (C : zr_Z) (T : List Int32) (i : Nat) : List Int32 :=
  if ldq C 70 i = 1 then munesc T (ldq C 74 i).toNatClampNeg (ldq C 76 i).toNatClampNeg
  else (if ldq C 70 i = 3 then mailto else []) ++ tsl T (ldq C 74 i).toNatClampNeg (ldq C 76 i).toNatClampNeg
def ldU (C : zr_Z) (T : List Int32) (i : Nat) : List Int32 := munesc T (ldq C 78 i).toNatClampNeg (ldq C 80 i).toNatClampNeg
def tk0 (k : Int32) : Tok := (k, 0, [], [])
def tkc (c : Int32) : Tok := (0, c, [], [])
def ctok (C : zr_Z) (T : List Int32) (p : Nat) : List Tok :=
  if kd C p = 8 then [] else if kd C p = 0 then [tkc (vl C p)] else if kd C p = 6 ∨ kd C p = 7 then
    [(kd C p, ldq C 72 (vl C p).toNatClampNeg, ldT C T (vl C p).toNatClampNeg, ldU C T (vl C p).toNatClampNeg)] else [tk0 (kd C p)]
theorem ctok_eq (C : zr_Z) (T : List Int32) (p : Nat) : ctok C T p = if kd C p = 8 then [] else if kd C p = 0 then [tkc (vl C p)] else if kd C p = 6 ∨ kd C p = 7 then
    [(kd C p, ldq C 72 (vl C p).toNatClampNeg, ldT C T (vl C p).toNatClampNeg, ldU C T (vl C p).toNatClampNeg)] else [tk0 (kd C p)] := rfl
def ctk (C : zr_Z) (T : List Int32) : Nat → Nat → List Tok
  | _, 0 => []
  | a, n + 1 => ctok C T a ++ ctk C T (a + 1) n
theorem ctk_add (C : zr_Z) (T : List Int32) : ∀ n a m, ctk C T a (n + m) = ctk C T a n ++ ctk C T (a + n) m := by
  intro n
  induction n with
  | zero => intro a m; rw [Nat.zero_add]; rfl
  | succ n ih =>
    intro a m
    rw [show n + 1 + m = (n + m) + 1 by omega, ctk, ctk, ih, List.append_assoc, show a + 1 + n = a + (n + 1) by omega]
theorem ctk_cong {C C' : zr_Z} {T : List Int32} : ∀ n a, (∀ p, a ≤ p → p < a + n → ctok C' T p = ctok C T p) → ctk C' T a n = ctk C T a n := by
  intro n
  induction n with
  | zero => intro a _; rfl
  | succ n ih =>
    intro a h
    rw [ctk, ctk, h a (Nat.le_refl _) (by omega), ih (a + 1) (fun p h1 h2 => h p (by omega) (by omega))]
theorem ctk_gone {C : zr_Z} {T : List Int32} : ∀ n a, (∀ p, a ≤ p → p < a + n → kd C p = 8) → ctk C T a n = [] := by
  intro n
  induction n with
  | zero => intro a _; rfl
  | succ n ih =>
    intro a h
    rw [ctk, ih (a + 1) (fun p h1 h2 => h p (by omega) (by omega))]
    unfold ctok; rw [if_pos (h a (Nat.le_refl _) (by omega))]; rfl
theorem ctk_one (C : zr_Z) (T : List Int32) (a : Nat) : ctk C T a 1 = ctok C T a := by
  rw [ctk, ctk, List.append_nil]
def ckeep (C C' : zr_Z) : Prop := (∀ id, ¬ id = 66 → ¬ id = 68 → C'.1 id = C.1 id) ∧ C'.2 = C.2 ∧ (C'.1 66).length = (C.1 66).length ∧ (C'.1 68).length = (C.1 68).length
theorem ckeep.refl (C : zr_Z) : ckeep C C := ⟨fun _ _ _ => rfl, rfl, rfl, rfl⟩
theorem ckeep.trans {C D E : zr_Z} (h : ckeep C D) (g : ckeep D E) : ckeep C E :=
  ⟨fun id h1 h2 => (g.1 id h1 h2).trans (h.1 id h1 h2), g.2.1.trans h.2.1, g.2.2.1.trans h.2.2.1, g.2.2.2.trans h.2.2.2⟩
theorem ckeep.mC {C D : zr_Z} {T : List Int32} (h : ckeep C D) (g : mC C T) : mC D T := (h.1 61 (by decide) (by decide)).trans g
theorem ckeep.ldq {C D : zr_Z} (h : ckeep C D) {id : Nat} (h1 : ¬ id = 66) (h2 : ¬ id = 68) (i : Nat) : ldq D id i = ldq C id i := by
  rw [ldq_eq, ldq_eq, h.1 id h1 h2]
theorem ctok_keep {C D : zr_Z} {T : List Int32} (h : ckeep C D) {p : Nat} (h1 : kd D p = kd C p) (h2 : vl D p = vl C p) : ctok D T p = ctok C T p := by
  unfold ctok ldT ldU
  simp only [h1, h2, h.ldq (id := 70) (by decide) (by decide), h.ldq (id := 72) (by decide) (by decide), h.ldq (id := 74) (by decide) (by decide), h.ldq (id := 76) (by decide) (by decide), h.ldq (id := 78) (by decide) (by decide), h.ldq (id := 80) (by decide) (by decide)]
theorem rput_nI {l : List Int32} {i : Nat} (hi : i < 2 ^ 31) (x : Int32) : rput l (nI i) x = l.set i x := by
  unfold rput; rw [if_neg (nI_pos hi), nI_clamp hi]
theorem getD_set {l : List Int32} {i : Nat} {x : Int32} (h : i < l.length) (p : Nat) : (l.set i x).getD p (-1) = if p = i then x else l.getD p (-1) := by
  rw [List.getD_eq_getElem?_getD, List.getD_eq_getElem?_getD, List.getElem?_set]
  by_cases hp : i = p
  · rw [if_pos hp, if_pos hp.symm]
    subst hp; rw [if_pos h]; rfl
  · rw [if_neg hp, if_neg (fun h => hp h.symm)]
theorem put66 {C : zr_Z} {p : Nat} (hp : p < (C.1 66).length) (hl : (C.1 66).length ≤ 1500) (x : Int32) :
    ckeep C (zput C 66 (nI p) x) ∧ (∀ q, kd (zput C 66 (nI p) x) q = if q = p then x else kd C q) ∧ (∀ q, vl (zput C 66 (nI p) x) q = vl C q) := by
  refine ⟨⟨fun id h1 h2 => ?_, rfl, ?_, ?_⟩, fun q => ?_, fun q => ?_⟩
  · unfold zput; exact mup_oth _ _ h1
  · unfold zput; dsimp only; rw [mup_same, rput_nI (by omega), List.length_set]
  · unfold zput; dsimp only; rw [mup_oth _ _ (by decide)]
  · unfold kd zput; dsimp only; rw [mup_same, rput_nI (by omega), getD_set hp]
  · unfold vl zput; dsimp only; rw [mup_oth _ _ (by decide)]
theorem put68 {C : zr_Z} {p : Nat} (hp : p < (C.1 68).length) (hl : (C.1 68).length ≤ 1500) (x : Int32) :
    ckeep C (zput C 68 (nI p) x) ∧ (∀ q, kd (zput C 68 (nI p) x) q = kd C q) ∧ (∀ q, vl (zput C 68 (nI p) x) q = if q = p then x else vl C q) := by
  refine ⟨⟨fun id h1 h2 => ?_, rfl, ?_, ?_⟩, fun q => ?_, fun q => ?_⟩
  · unfold zput; exact mup_oth _ _ h2
  · unfold zput; dsimp only; rw [mup_oth _ _ (by decide)]
  · unfold zput; dsimp only; rw [mup_same, rput_nI (by omega), List.length_set]
  · unfold kd zput; dsimp only; rw [mup_oth _ _ (by decide)]
  · unfold vl zput; dsimp only; rw [mup_same, rput_nI (by omega), getD_set hp]
theorem erase {C : zr_Z} {a b : Nat} (hab : a ≤ b) (hb : b ≤ (C.1 66).length) (hl : (C.1 66).length ≤ 1500) :
    ckeep C (f_35 C (nI a) (nI b)) ∧ (∀ q, kd (f_35 C (nI a) (nI b)) q = if a ≤ q ∧ q < b then 8 else kd C q) ∧ (∀ q, vl (f_35 C (nI a) (nI b)) q = vl C q) := by
  have loop : ∀ d i n D, i + d = b → d < n → (D.1 66).length = (C.1 66).length → ckeep D (g_35_2 n D (nI a) (nI b) (nI i)) ∧ (∀ q, kd (g_35_2 n D (nI a) (nI b) (nI i)) q = if i ≤ q ∧ q < b then 8 else kd D q) ∧ (∀ q, vl (g_35_2 n D (nI a) (nI b) (nI i)) q = vl D q) := by
    intro d
    induction d with
    | zero =>
      intro i n D hi hn hD
      obtain ⟨n, rfl⟩ : ∃ k, n = k + 1 := ⟨n - 1, by omega⟩
      rw [g_35_2, if_pos ((nI_leI (by omega) (by omega)).mpr (by omega))]
      refine ⟨ckeep.refl D, fun q => ?_, fun q => rfl⟩
      rw [if_neg (by omega)]
    | succ d ih =>
      intro i n D hi hn hD
      obtain ⟨n, rfl⟩ : ∃ k, n = k + 1 := ⟨n - 1, by omega⟩
      rw [g_35_2, if_neg (by rw [nI_leI (by omega) (by omega)]; omega), nI_1]
      obtain ⟨h1, h2, h3⟩ := put66 (C := D) (p := i) (by omega) (by omega) 8
      obtain ⟨g1, g2, g3⟩ := ih (i + 1) n (zput D 66 (nI i) 8) (by omega) (by omega) (h1.2.2.1.trans hD)
      refine ⟨h1.trans g1, fun q => ?_, fun q => (g3 q).trans (h3 q)⟩
      rw [g2, h2]
      by_cases e1 : q = i
      · rw [if_pos e1, if_pos (by omega : i ≤ q ∧ q < b)]; exact ite_self _
      · rw [if_neg e1]
        by_cases e2 : i + 1 ≤ q ∧ q < b
        · rw [if_pos e2, if_pos (by omega)]
        · rw [if_neg e2, if_neg (by omega)]
  unfold f_35
  rw [nI_toInt (by omega), nI_toInt (by omega)]
  exact loop (b - a) a _ C (by omega) (by omega) rfl
