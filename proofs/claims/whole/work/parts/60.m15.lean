/-! the mathematics; written by wip/whole/m2parts.py -/
def lw (t : Tok) : Nat := if t.1 = 0 then 1 else t.2.2.1.length + t.2.2.2.length
def lws (l : List Tok) : Nat := (l.map lw).sum
def cst (c : Int32) : Nat := if c = 38 then 5 else if c = 60 ∨ c = 62 then 4 else if c = 34 then 6 else 1
def csts (l : List Int32) : Nat := (l.map cst).sum
def ow (t : Tok) : Nat :=
  if t.1 = 0 then cst t.2.1 else if t.1 = 1 then 1 else if t.1 = 2 then 6 else if t.1 = 3 then 13 else if t.1 = 4 then 9 else if t.1 = 5 then 17
  else if t.1 = 6 ∨ t.1 = 7 then 23 + csts t.2.2.1 + (if t.2.2.2 = [] then 0 else 9 + csts t.2.2.2) else 0
def ows (l : List Tok) : Nat := (l.map ow).sum
theorem lws_app (l m : List Tok) : lws (l ++ m) = lws l + lws m := by unfold lws; rw [List.map_append, List.sum_append]
theorem ows_app (l m : List Tok) : ows (l ++ m) = ows l + ows m := by unfold ows; rw [List.map_append, List.sum_append]
theorem csts_app (l m : List Int32) : csts (l ++ m) = csts l + csts m := by unfold csts; rw [List.map_append, List.sum_append]
theorem cst_le (c : Int32) : cst c ≤ 6 ∧ 1 ≤ cst c := by unfold cst; repeat (first | split | omega)
theorem csts_le : ∀ l : List Int32, csts l ≤ 6 * l.length := by
  intro l
  induction l with
  | nil => exact Nat.le_refl _
  | cons c l ih =>
    have := (cst_le c).1
    unfold csts at *
    simp only [List.map_cons, List.sum_cons, List.length_cons]; omega
def ew (R : zr_Z) (en : Ent) : Nat := if en.2.2.2 = none ∧ ¬ rv R 143 en.1 = 11 then ows (rtok R en.1 none) else 12 * (en.2.2.1 - en.2.1)
def sumE (f : Ent → Nat) (G : List Ent) : Nat := (G.map f).sum
theorem sumE_app (f : Ent → Nat) (l m : List Ent) : sumE f (l ++ m) = sumE f l + sumE f m := by unfold sumE; rw [List.map_append, List.sum_append]
theorem sumE_cons (f : Ent → Nat) (e : Ent) (m : List Ent) : sumE f (e :: m) = f e + sumE f m := by unfold sumE; rw [List.map_cons, List.sum_cons]
theorem sumE_nil (f : Ent → Nat) : sumE f [] = 0 := rfl
theorem sumE_cong {f g : Ent → Nat} : ∀ G : List Ent, (∀ e ∈ G, f e = g e) → sumE f G = sumE g G := by
  intro G
  induction G with
  | nil => intro _; rfl
  | cons e G ih => intro h; rw [sumE_cons, sumE_cons, h e (List.mem_cons_self ..), ih (fun e he => h e (List.mem_cons_of_mem _ he))]
def ncl (l : List Tok) : Nat := (l.map (fun t => if t.1 = 9 then 1 else 0)).sum
def nop (l : List Tok) : Nat := (l.map (fun t => if t.1 = 4 ∨ t.1 = 5 ∨ t.1 = 6 ∨ t.1 = 7 then 1 else 0)).sum
theorem ncl_app (l m : List Tok) : ncl (l ++ m) = ncl l + ncl m := by unfold ncl; rw [List.map_append, List.sum_append]
theorem nop_app (l m : List Tok) : nop (l ++ m) = nop l + nop m := by unfold nop; rw [List.map_append, List.sum_append]
theorem ncl_tkc : ∀ l : List Int32, ncl (l.map tkc) = 0 := by
  intro l
  induction l with
  | nil => rfl
  | cons c l ih => unfold ncl at *; rw [List.map_cons, List.map_cons, List.sum_cons, ih]; rfl
theorem nop_tkc : ∀ l : List Int32, nop (l.map tkc) = 0 := by
  intro l
  induction l with
  | nil => rfl
  | cons c l ih => unfold nop at *; rw [List.map_cons, List.map_cons, List.sum_cons, ih]; rfl
def ecl (R : zr_Z) (en : Ent) : Nat := ncl (rtok R en.1 en.2.2.2)
def eop (R : zr_Z) (en : Ent) : Nat := nop (rtok R en.1 en.2.2.2)
def NB (R : zr_Z) (G : List Ent) (k u : Nat) : Prop := (∀ A B, G = A ++ B → sumE (ecl R) A ≤ sumE (eop R) A) ∧ (k < u → sumE (ecl R) G + 1 ≤ sumE (eop R) G)
theorem NB.full {R : zr_Z} {G : List Ent} {k u : Nat} (h : NB R G k u) : sumE (ecl R) G ≤ sumE (eop R) G := h.1 G [] (by rw [List.append_nil])
theorem ecl_c {R R' : zr_Z} {en : Ent} (h : rtok R' en.1 en.2.2.2 = rtok R en.1 en.2.2.2) : ecl R' en = ecl R en := by unfold ecl; rw [h]
theorem eop_c {R R' : zr_Z} {en : Ent} (h : rtok R' en.1 en.2.2.2 = rtok R en.1 en.2.2.2) : eop R' en = eop R en := by unfold eop; rw [h]
theorem NB_cong {R R' : zr_Z} {G : List Ent} {k u : Nat} (h : NB R G k u) (hc : ∀ en ∈ G, rtok R' en.1 en.2.2.2 = rtok R en.1 en.2.2.2) : NB R' G k u := by
  refine ⟨fun A B hA => ?_, fun hk => ?_⟩
  · rw [sumE_cong (g := ecl R) A (fun en hen => ecl_c (hc en (by rw [hA]; exact List.mem_append_left _ hen))), sumE_cong (g := eop R) A (fun en hen => eop_c (hc en (by rw [hA]; exact List.mem_append_left _ hen)))]
    exact h.1 A B hA
  · rw [sumE_cong (g := ecl R) G (fun en hen => ecl_c (hc en hen)), sumE_cong (g := eop R) G (fun en hen => eop_c (hc en hen))]
    exact h.2 hk
abbrev kok (k : Int32) : Prop := ((0 ≤ k ∧ k ≤ 7) ∨ k = 11 ∨ k = 12) ∧ ¬ k = 10
def IZ1 (R : zr_Z) (x : Nat) : Prop := (∀ j, 145 ≤ j → j ≤ 148 → rv R j x = nI (rvn R j x)) ∧ (¬ (rv R 143 x = 6 ∨ rv R 143 x = 7) → rv R 147 x = 0 ∧ rv R 148 x = 0 ∧ rv R 149 x = -1 ∧ (¬ rv R 143 x = 3 → rv R 145 x = 0 ∧ rv R 146 x = 0)) ∧ kok (rv R 143 x)
def IZ (R : zr_Z) (G : List Ent) : Prop := ∀ en ∈ G, en.2.2.2 = none → IZ1 R en.1
theorem IZ1_cong {R R' : zr_Z} {x : Nat} (h : IZ1 R x) (hc : ∀ j, 143 ≤ j → j ≤ 149 → rv R' j x = rv R j x) : IZ1 R' x := by
  refine ⟨fun j j1 j2 => ?_, fun hk => ?_, by rw [hc 143 (by omega) (by omega)]; exact h.2.2⟩
  · have := h.1 j j1 j2
    have e : rvn R' j x = rvn R j x := congrArg Int32.toNatClampNeg (hc j (by omega) (by omega))
    rw [e, hc j (by omega) (by omega)]; exact this
  · rw [hc 143 (by omega) (by omega)] at hk
    have := h.2.1 hk
    rw [hc 147 (by omega) (by omega), hc 148 (by omega) (by omega), hc 149 (by omega) (by omega), hc 143 (by omega) (by omega), hc 145 (by omega) (by omega), hc 146 (by omega) (by omega)]; exact this
theorem IZ_cong {R R' : zr_Z} {G : List Ent} (h : IZ R G) (hc : ∀ en ∈ G, ∀ j, 143 ≤ j → j ≤ 149 → rv R' j en.1 = rv R j en.1) : IZ R' G :=
  fun en hen ht => IZ1_cong (h en hen ht) (hc en hen)
theorem IZ1_new {R : zr_Z} {x : Nat} (h5 : rv R 145 x = 0) (h6 : rv R 146 x = 0) (h7 : rv R 147 x = 0) (h8 : rv R 148 x = 0) (h9 : rv R 149 x = -1) (hk : kok (rv R 143 x)) : IZ1 R x := by
  refine ⟨fun j j1 j2 => ?_, fun _ => ⟨h7, h8, h9, fun _ => ⟨h5, h6⟩⟩, hk⟩
  have : j = 145 ∨ j = 146 ∨ j = 147 ∨ j = 148 := by omega
  have hz : rv R j x = 0 := by rcases this with g | g | g | g <;> rw [g] <;> assumption
  have e : rvn R j x = 0 := by unfold rvn; rw [show R.2.2.1 j x = 0 from hz]; rfl
  rw [e, hz]; exact nI_0.symm
theorem NB_app {R R' : zr_Z} {G P : List Ent} {k u k' : Nat} (h : NB R G k u) (hc : ∀ en ∈ G, rtok R' en.1 en.2.2.2 = rtok R en.1 en.2.2.2)
    (hP : ∀ A B, P = A ++ B → sumE (ecl R') A ≤ sumE (eop R') A + (if k < u then 1 else 0)) : NB R' (G ++ P) k' k' := by
  refine ⟨fun A B hA => ?_, fun hk => absurd hk (by omega)⟩
  have h' := NB_cong h hc
  rcases List.append_eq_append_iff.mp hA with ⟨w, e1, e2⟩ | ⟨w, e1, e2⟩
  · rw [e1, sumE_app, sumE_app]
    have := hP w B e2
    by_cases hk : k < u
    · rw [if_pos hk] at this; have := h'.2 hk; omega
    · rw [if_neg hk] at this; have := h'.full; omega
  · exact h'.1 A w e1
theorem NB_less {R : zr_Z} {G G0 Gs : List Ent} {k u : Nat} (h : NB R G k u) (hG : G = G0 ++ Gs) (hs : ∀ en ∈ Gs, eop R en = 0) : NB R G0 k u := by
  refine ⟨fun A B hA => h.1 A (B ++ Gs) (by rw [hG, hA, List.append_assoc]), fun hk => ?_⟩
  have := h.2 hk
  rw [hG, sumE_app, sumE_app] at this
  have h0 : sumE (eop R) Gs = 0 := by
    clear this hG
    induction Gs with
    | nil => rfl
    | cons e l ih => rw [sumE_cons, hs e (List.mem_cons_self ..), ih (fun en hen => hs en (List.mem_cons_of_mem _ hen))]
  omega
def gleft (en : Ent) : Nat := if en.2.2.2 = none then 0 else en.2.2.1 - en.2.1
def IT (C R : zr_Z) (T : List Int32) (D : List (List Int32)) : Prop := mC C T ∧ mR R T ∧ gT T ∧ mN R ∧ DEF C R D
def IS (C R : zr_Z) (T : List Int32) (k u : Nat) (G : List Ent) (it : Nat) : Prop :=
  (C.1 66).length = T.length ∧ (C.1 68).length = T.length ∧ k ≤ T.length ∧ (∀ q, u ≤ q → q < T.length → kd C q = 0 ∧ vl C q = mA T q) ∧
  SG C R T 0 G k ∧ chn R 0 (G.map (fun en => en.1)) ∧ (0 :: G.map (fun en => en.1)).Nodup ∧ zf R 20 = nI it ∧ (∀ en ∈ G, en.1 ≤ it) ∧ it + sumE gleft G ≤ 2 * k
def RUN1 (C R : zr_Z) (G : List Ent) (i r : Nat) : Prop := ∃ x a e, (x, a, e, some r) ∈ G ∧
  ldq C 91 i = rv R 144 x ∧ ldq C 93 i = rv R 153 r ∧ ldq C 95 i = nI a ∧ ldq C 97 i = nI e ∧ ldq C 101 i = rv R 156 r ∧ ldq C 99 i = (if rv R 157 r = 0 then rv R 155 r else 0) ∧
  (∀ q, a ≤ q → q < e → kd C q = 0 ∧ vl C q = rv R 144 x)
def IR (C R : zr_Z) (T : List Int32) (G : List Ent) (live : List Nat) (rc : Nat) : Prop :=
  (∀ id ∈ [91, 93, 95, 97, 99, 101], (C.1 id).length = live.length) ∧ live.Pairwise (fun a b => a < b) ∧ (∀ r ∈ live, r < rc) ∧ zf R 28 = nI rc ∧
  G.filterMap (fun en => en.2.2.2) = List.range rc ∧
  (∀ x a e r, (x, a, e, some r) ∈ G → rv R 152 r = nI x ∧ rv R 143 x = 10 ∧ rv R 154 r = nI (e - a) ∧ (rv R 155 r = 0 ∨ rv R 155 r = 1) ∧ (rv R 156 r = 0 ∨ rv R 156 r = 1)) ∧
  (∀ r, r < rc → ¬ r ∈ live → rv R 157 r = 1) ∧ (∀ i r, live[i]? = some r → RUN1 C R G i r)
def BR1 (C R : zr_Z) (G : List Ent) (live : List Nat) (b : Nat) (w : Nat × Nat × Nat × Nat) : Prop :=
  (w.1, w.2.1, w.2.1 + 1 + w.2.2.1, none) ∈ G ∧ w.2.2.1 ≤ 1 ∧ rv R 143 w.1 = 11 ∧ rv R 144 w.1 = nI w.2.2.1 ∧ rv R 158 b = nI w.1 ∧ rv R 159 b = nI (w.2.1 + 1 + w.2.2.1) ∧ rv R 160 b = nI w.2.2.2 ∧
  rv R 161 b = ldq C 112 b ∧ rv R 162 b = nI w.2.2.1 ∧ rv R 163 b = ldq C 108 b ∧ (ldq C 108 b = 0 ∨ ldq C 108 b = 1) ∧ ldq C 104 b = nI w.2.1 ∧ ldq C 106 b = nI w.2.2.1 ∧
  ldq C 110 b = nI (live.countP (fun r => decide (r < w.2.2.2)))
def IB (C R : zr_Z) (G : List Ent) (live : List Nat) (rc k : Nat) (bs : List (Nat × Nat × Nat × Nat)) : Prop :=
  (∀ id ∈ [104, 106, 108, 110, 112], bs.length ≤ (C.1 id).length) ∧ zf R 35 = nI bs.length ∧ (bs.length ≤ k ∧ rc ≤ k) ∧ zc C 1 = zf R 36 ∧ (∃ n, n ≤ k ∧ zc C 1 = nI n) ∧
  (∀ b w, bs[b]? = some w → BR1 C R G live b w ∧ w.2.2.2 ≤ rc) ∧ bs.Pairwise (fun u w => u.2.2.2 ≤ w.2.2.2 ∧ u.1 < w.1)
def LD1 (C : zr_Z) (T : List Int32) (i : Nat) : Prop :=
  (∃ a b t u, ldq C 70 i = 1 ∧ ldq C 74 i = nI a ∧ ldq C 76 i = nI b ∧ ldq C 78 i = nI t ∧ ldq C 80 i = nI u ∧ b ≤ T.length + 1 ∧ u ≤ T.length + 1 ∧ mrch T b a ∧ (a < b → rfc (mA T b) = false) ∧ mrch T u t ∧ (t < u → rfc (mA T u) = false)) ∨
  (∃ a b, (ldq C 70 i = 0 ∨ ldq C 70 i = 2 ∨ ldq C 70 i = 3) ∧ ldq C 74 i = nI a ∧ ldq C 76 i = nI b ∧ ldq C 78 i = 0 ∧ ldq C 80 i = 0 ∧ a ≤ b ∧ b ≤ T.length)
def IL (C : zr_Z) (T : List Int32) (k nl : Nat) : Prop :=
  (∀ id ∈ [70, 72, 74, 76, 78, 80], (C.1 id).length = nl) ∧ nl ≤ k ∧ (∀ i, i < nl → LD1 C T i) ∧ (∀ q, (kd C q = 6 ∨ kd C q = 7) → ∃ i, i < nl ∧ vl C q = nI i)
def IP (R : zr_Z) (G : List Ent) (k pl : Nat) : Prop :=
  zf R 10 = nI pl ∧ pl ≤ 2 * k ∧ (∀ en ∈ G, en.2.2.2 = none → (rv R 143 en.1 = 3 ∨ rv R 143 en.1 = 6 ∨ rv R 143 en.1 = 7) → rvn R 145 en.1 + rvn R 146 en.1 ≤ pl ∧ rvn R 147 en.1 + rvn R 148 en.1 ≤ pl) ∧ ∀ en ∈ G, en.2.2.2 = none → rv R 143 en.1 = 11 → rvn R 145 en.1 + rvn R 146 en.1 = 0 ∧ rvn R 147 en.1 + rvn R 148 en.1 = 0
def IW (R : zr_Z) (G : List Ent) (k u : Nat) : Prop :=
  5 * sumE (fun en => lws (rtok R en.1 en.2.2.2)) G ≤ 13 * u ∧ sumE (ew R) G ≤ 12 * u ∧ NB R G k u ∧ IZ R G
def IX (R : zr_Z) (T : List Int32) (G : List Ent) (k : Nat) : Prop := ∀ n, n ≤ k → (∀ j, k - n ≤ j → j < k → mA T j = 32) → ∃ G' Gs, G = G' ++ Gs ∧ Gs.length = n ∧ ∀ en ∈ Gs, en.2.2.2 = none ∧ en.2.2.1 = en.2.1 + 1 ∧ rv R 143 en.1 = 0 ∧ rv R 144 en.1 = 32
def INV (C R : zr_Z) (T : List Int32) (D : List (List Int32)) (k : Nat) (G : List Ent) (live : List Nat) (rc : Nat) (bs : List (Nat × Nat × Nat × Nat)) (nl pl it : Nat) : Prop :=
  IT C R T D ∧ IS C R T k k G it ∧ IR C R T G live rc ∧ IB C R G live rc k bs ∧ IL C T k nl ∧ IP R G k pl ∧ IW R G k k ∧ IX R T G k ∧ (∀ r ∈ live, rv R 157 r = 0) ∧ ∀ id ∈ [104, 106, 108, 110, 112], (C.1 id).length = bs.length

def INV0 (C R : zr_Z) (T : List Int32) (D : List (List Int32)) (k u : Nat) (G : List Ent) (live : List Nat) (rc : Nat) (bs : List (Nat × Nat × Nat × Nat)) (nl pl it : Nat) : Prop :=
  IT C R T D ∧ IS C R T k u G it ∧ IR C R T G live rc ∧ IB C R G live rc k bs ∧ IL C T u nl ∧ IP R G u pl ∧ IW R G k u
theorem INV.z {C R : zr_Z} {T : List Int32} {D : List (List Int32)} {k : Nat} {G : List Ent} {live : List Nat} {rc : Nat} {bs : List (Nat × Nat × Nat × Nat)} {nl pl it : Nat} (h : INV C R T D k G live rc bs nl pl it) : INV0 C R T D k k G live rc bs nl pl it :=
  ⟨h.1, h.2.1, h.2.2.1, h.2.2.2.1, h.2.2.2.2.1, h.2.2.2.2.2.1, h.2.2.2.2.2.2.1⟩
theorem INV.ov {C R : zr_Z} {T : List Int32} {D : List (List Int32)} {k : Nat} {G : List Ent} {live : List Nat} {rc : Nat} {bs : List (Nat × Nat × Nat × Nat)} {nl pl it : Nat} (h : INV C R T D k G live rc bs nl pl it) : ∀ r ∈ live, rv R 157 r = 0 := h.2.2.2.2.2.2.2.2.1
theorem INV.bl {C R : zr_Z} {T : List Int32} {D : List (List Int32)} {k : Nat} {G : List Ent} {live : List Nat} {rc : Nat} {bs : List (Nat × Nat × Nat × Nat)} {nl pl it : Nat} (h : INV C R T D k G live rc bs nl pl it) : ∀ id ∈ [104, 106, 108, 110, 112], (C.1 id).length = bs.length := h.2.2.2.2.2.2.2.2.2
theorem INV.ix {C R : zr_Z} {T : List Int32} {D : List (List Int32)} {k : Nat} {G : List Ent} {live : List Nat} {rc : Nat} {bs : List (Nat × Nat × Nat × Nat)} {nl pl it : Nat} (h : INV C R T D k G live rc bs nl pl it) : IX R T G k := h.2.2.2.2.2.2.2.1
abbrev mrows : List Nat := [66, 68, 70, 72, 74, 76, 78, 80]
def CK (C C' : zr_Z) : Prop := (∀ id, ¬ id ∈ mrows → C'.1 id = C.1 id) ∧ (C'.1 66).length = (C.1 66).length ∧ (C'.1 68).length = (C.1 68).length ∧ zc C' 1 = zc C 1
def RK (R R' : zr_Z) (it pl : Nat) : Prop :=
  (∀ j, (j < 142 ∨ 151 < j) → ∀ i, rv R' j i = rv R j i) ∧ (∀ j, 143 ≤ j → j ≤ 149 → ∀ x, x ≤ it → rv R' j x = rv R j x) ∧ (∀ i, i < pl → rv R' 142 i = rv R 142 i) ∧
  (∀ f ∈ [3, 7, 28, 35, 36], zf R' f = zf R f)
theorem RK.refl (R : zr_Z) (it pl : Nat) : RK R R it pl := ⟨fun _ _ _ => rfl, fun _ _ _ _ _ => rfl, fun _ _ => rfl, fun _ _ => rfl⟩
theorem RK.trans {R S U : zr_Z} {it it' pl pl' : Nat} (h : RK R S it pl) (g : RK S U it' pl') (hi : it ≤ it') (hp : pl ≤ pl') : RK R U it pl :=
  ⟨fun j hj i => (g.1 j hj i).trans (h.1 j hj i), fun j h1 h2 x hx => (g.2.1 j h1 h2 x (by omega)).trans (h.2.1 j h1 h2 x hx), fun i hi => (g.2.2.1 i (by omega)).trans (h.2.2.1 i hi), fun f hf => (g.2.2.2 f hf).trans (h.2.2.2 f hf)⟩
theorem rsl_cong {R R' : zr_Z} : ∀ n a, (∀ i, a ≤ i → i < a + n → rv R' 142 i = rv R 142 i) → rsl R' a n = rsl R a n := by
  intro n
  induction n with
  | zero => intro a _; rfl
  | succ n ih =>
    intro a h
    rw [rsl, rsl, h a (Nat.le_refl _) (by omega), ih (a + 1) (fun i h1 h2 => h i (by omega) (by omega))]
theorem RK.rtok {R R' : zr_Z} {it pl x : Nat} {t : Option Nat} (h : RK R R' it pl) (hx : x ≤ it) (hp : t = none → (rv R 143 x = 3 ∨ rv R 143 x = 6 ∨ rv R 143 x = 7) → rvn R 145 x + rvn R 146 x ≤ pl ∧ rvn R 147 x + rvn R 148 x ≤ pl) :
    rtok R' x t = rtok R x t := by
  have e : ∀ j, 143 ≤ j → j ≤ 149 → rv R' j x = rv R j x := fun j h1 h2 => h.2.1 j h1 h2 x hx
  have en : ∀ j, 143 ≤ j → j ≤ 149 → rvn R' j x = rvn R j x := fun j h1 h2 => congrArg Int32.toNatClampNeg (e j h1 h2)
  cases t with
  | some r =>
    show List.replicate (rvn R' 154 r) _ = List.replicate (rvn R 154 r) _
    rw [e 144 (by omega) (by omega), show rvn R' 154 r = rvn R 154 r from congrArg Int32.toNatClampNeg (h.1 154 (by omega) r)]
  | none =>
    rw [rtok_eq, rtok_eq]
    rw [e 143 (by omega) (by omega), e 144 (by omega) (by omega), e 149 (by omega) (by omega), en 145 (by omega) (by omega), en 146 (by omega) (by omega), en 147 (by omega) (by omega), en 148 (by omega) (by omega)]
    by_cases h3 : rv R 143 x = 3
    · have := hp rfl (Or.inl h3)
      rw [rsl_cong (rvn R 146 x) (rvn R 145 x) (fun i h1 h2 => h.2.2.1 i (by omega))]
      rw [h3]; simp only [if_true]
    · by_cases h67 : rv R 143 x = 6 ∨ rv R 143 x = 7
      · have := hp rfl (Or.inr h67)
        rw [rsl_cong (rvn R 146 x) (rvn R 145 x) (fun i h1 h2 => h.2.2.1 i (by omega)), rsl_cong (rvn R 148 x) (rvn R 147 x) (fun i h1 h2 => h.2.2.1 i (by omega))]
      · simp only [if_neg h3, if_neg h67]
