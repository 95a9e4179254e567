/-! the mathematics; written by wip/whole/m2parts.py -/
def rv (R : zr_Z) (j i : Nat) : Int32 := R.2.2.1 j i
def rvn (R : zr_Z) (j i : Nat) : Nat := (R.2.2.1 j i).toNatClampNeg
def rsl (R : zr_Z) : Nat → Nat → List Int32
  | _, 0 => []
  | a, n + 1 => rv R 142 a :: rsl R (a + 1) n
def rtok (R : zr_Z) (x : Nat) : Option Nat → List Tok
  | some r => List.replicate (rvn R 154 r) (tkc (rv R 144 x))
  | none =>
    if rv R 143 x = 0 then [tkc (rv R 144 x)]
    else if rv R 143 x = 3 then tk0 3 :: ((rsl R (rvn R 145 x) (rvn R 146 x)).map tkc ++ [tk0 10])
    else if rv R 143 x = 6 ∨ rv R 143 x = 7 then [(rv R 143 x, rv R 149 x, rsl R (rvn R 145 x) (rvn R 146 x), rsl R (rvn R 147 x) (rvn R 148 x))]
    else if rv R 143 x = 11 then (if rv R 144 x = 1 then [tkc 33] else []) ++ [tkc 91]
    else if rv R 143 x = 12 then [tk0 9]
    else [tk0 (rv R 143 x)]
theorem rtok_eq (R : zr_Z) (x : Nat) : rtok R x none =
    if rv R 143 x = 0 then [tkc (rv R 144 x)]
    else if rv R 143 x = 3 then tk0 3 :: ((rsl R (rvn R 145 x) (rvn R 146 x)).map tkc ++ [tk0 10])
    else if rv R 143 x = 6 ∨ rv R 143 x = 7 then [(rv R 143 x, rv R 149 x, rsl R (rvn R 145 x) (rvn R 146 x), rsl R (rvn R 147 x) (rvn R 148 x))]
    else if rv R 143 x = 11 then (if rv R 144 x = 1 then [tkc 33] else []) ++ [tkc 91]
    else if rv R 143 x = 12 then [tk0 9]
    else [tk0 (rv R 143 x)] := rfl
abbrev Ent : Type := Nat × Nat × Nat × Option Nat
def SG (C R : zr_Z) (T : List Int32) : Nat → List Ent → Nat → Prop
  | a, [], b => a = b
  | a, en :: l, b => en.2.1 = a ∧ a ≤ en.2.2.1 ∧ ctk C T a (en.2.2.1 - a) = rtok R en.1 en.2.2.2 ∧ SG C R T en.2.2.1 l b
theorem SG_app {C R : zr_Z} {T : List Int32} : ∀ (l1 l2 : List Ent) a b, SG C R T a (l1 ++ l2) b ↔ ∃ m, SG C R T a l1 m ∧ SG C R T m l2 b := by
  intro l1
  induction l1 with
  | nil => intro l2 a b; exact ⟨fun h => ⟨a, rfl, h⟩, fun ⟨m, h1, h2⟩ => by rw [show a = m from h1]; exact h2⟩
  | cons en l1 ih =>
    intro l2 a b
    constructor
    · rintro ⟨h1, h2, h3, h4⟩
      obtain ⟨m, g1, g2⟩ := (ih l2 _ b).mp h4
      exact ⟨m, ⟨h1, h2, h3, g1⟩, g2⟩
    · rintro ⟨m, ⟨h1, h2, h3, h4⟩, h5⟩
      exact ⟨h1, h2, h3, (ih l2 _ b).mpr ⟨m, h4, h5⟩⟩
theorem SG_le {C R : zr_Z} {T : List Int32} : ∀ (l : List Ent) a b, SG C R T a l b → a ≤ b := by
  intro l
  induction l with
  | nil => intro a b h; exact Nat.le_of_eq h
  | cons en l ih => intro a b h; exact Nat.le_trans h.2.1 (ih _ _ h.2.2.2)
theorem SG_mem {C R : zr_Z} {T : List Int32} : ∀ (l : List Ent) a b, SG C R T a l b → ∀ en ∈ l, a ≤ en.2.1 ∧ en.2.1 ≤ en.2.2.1 ∧ en.2.2.1 ≤ b := by
  intro l
  induction l with
  | nil => intro a b _ en hen; exact absurd hen (by simp)
  | cons e l ih =>
    intro a b h en hen
    rcases List.mem_cons.mp hen with rfl | hen
    · exact ⟨Nat.le_of_eq h.1.symm, by rw [h.1]; exact h.2.1, SG_le _ _ _ h.2.2.2⟩
    · have := ih _ _ h.2.2.2 en hen
      have := h.2.1
      omega
theorem SG_cong {C R C' R' : zr_Z} {T : List Int32} : ∀ (l : List Ent) a b, SG C R T a l b → (∀ p, a ≤ p → p < b → ctok C' T p = ctok C T p) → (∀ en ∈ l, rtok R' en.1 en.2.2.2 = rtok R en.1 en.2.2.2) → SG C' R' T a l b := by
  intro l
  induction l with
  | nil => intro a b h _ _; exact h
  | cons en l ih =>
    intro a b h hc hr
    have := SG_le _ _ _ h.2.2.2
    have := h.2.1
    refine ⟨h.1, h.2.1, ?_, ih _ _ h.2.2.2 (fun p h1 h2 => hc p (by omega) h2) (fun en hen => hr en (List.mem_cons_of_mem _ hen))⟩
    rw [hr en (List.mem_cons_self ..), ← h.2.2.1]
    exact ctk_cong _ _ (fun p h1 h2 => hc p h1 (by omega))
theorem SG_one {C R : zr_Z} {T : List Int32} {x a b : Nat} {t : Option Nat} (h : a ≤ b) (hk : ctk C T a (b - a) = rtok R x t) : SG C R T a [(x, a, b, t)] b := ⟨rfl, h, hk, rfl⟩
def chn (R : zr_Z) : Nat → List Nat → Prop
  | u, [] => rv R 150 u = 0 ∧ zf R 21 = nI u
  | u, v :: l => rv R 150 u = nI v ∧ rv R 151 v = nI u ∧ chn R v l
theorem chn_cong {R R' : zr_Z} : ∀ (l : List Nat) u, chn R u l → (∀ v, v ∈ u :: l → rv R' 150 v = rv R 150 v) → (∀ v, v ∈ l → rv R' 151 v = rv R 151 v) → zf R' 21 = zf R 21 → chn R' u l := by
  intro l
  induction l with
  | nil => intro u h h1 _ h3; exact ⟨(h1 u (by simp)).trans h.1, h3.trans h.2⟩
  | cons v l ih =>
    intro u h h1 h2 h3
    exact ⟨(h1 u (by simp)).trans h.1, (h2 v (by simp)).trans h.2.1, ih v h.2.2 (fun w hw => h1 w (List.mem_cons_of_mem _ hw)) (fun w hw => h2 w (List.mem_cons_of_mem _ hw)) h3⟩
def lastOf : Nat → List Nat → Nat
  | u, [] => u
  | _, v :: l => lastOf v l
theorem lastOf_app : ∀ (l : List Nat) u v, lastOf u (l ++ [v]) = v := by
  intro l
  induction l with
  | nil => intro u v; rfl
  | cons w l ih => intro u v; exact ih w v
theorem lastOf_mem : ∀ (l : List Nat) u, lastOf u l ∈ u :: l := by
  intro l
  induction l with
  | nil => intro u; simp [lastOf]
  | cons v l ih => intro u; exact List.mem_cons_of_mem _ (ih v)
theorem chn_last {R : zr_Z} : ∀ (l : List Nat) u, chn R u l → zf R 21 = nI (lastOf u l) ∧ rv R 150 (lastOf u l) = 0 := by
  intro l
  induction l with
  | nil => intro u h; exact ⟨h.2, h.1⟩
  | cons v l ih => intro u h; exact ih v h.2.2
def putR (R : zr_Z) (x b : Nat) (R' : zr_Z) : Prop :=
  (∀ v, rv R' 150 v = if v = x then rv R 150 b else if v = b then nI x else rv R 150 v) ∧
  (∀ v, rv R' 151 v = if ¬ rv R 150 b = 0 ∧ nI v = rv R 150 b ∧ v < 8000 then nI x else if v = x then nI b else rv R 151 v) ∧
  zf R' 21 = if rv R 150 b = 0 then nI x else zf R 21
theorem chn_put {R R' : zr_Z} {x : Nat} (hx0 : ¬ x = 0) (hx : x < 8000) : ∀ (l1 l2 : List Nat) u, (∀ v ∈ u :: (l1 ++ l2), ¬ v = x ∧ v < 8000) → (u :: (l1 ++ l2)).Nodup → (∀ v ∈ l1 ++ l2, ¬ v = 0) →
    chn R u (l1 ++ l2) → putR R x (lastOf u l1) R' → chn R' u (l1 ++ x :: l2) := by
  intro l1
  induction l1 with
  | nil =>
    intro l2 u hne hnd h0 h hp
    simp only [List.nil_append] at *
    have hux : ¬ u = x := (hne u (by simp)).1
    have hp : putR R x u R' := hp
    obtain ⟨p1, p2, p3⟩ := hp
    refine ⟨by rw [p1, if_neg hux, if_pos rfl], ?_, ?_⟩
    · rw [p2]
      by_cases hc : ¬ rv R 150 u = 0 ∧ nI x = rv R 150 u ∧ x < 8000
      · exfalso
        cases l2 with
        | nil => exact hc.1 h.1
        | cons v l2 =>
          have := hc.2.1.trans h.1
          rw [nI_eq (by omega) (by have := (hne v (by simp)).2; omega)] at this
          exact (hne v (by simp)).1 this.symm
      · rw [if_neg hc, if_pos rfl]
    · cases l2 with
      | nil =>
        refine ⟨?_, ?_⟩
        · rw [p1, if_pos rfl]; exact h.1
        · rw [p3, if_pos h.1]
      | cons v l2 =>
        have hv := hne v (by simp)
        have hv0 := h0 v (by simp)
        have hnz : ¬ rv R 150 u = 0 := by rw [h.1, ← nI_0, nI_eq (by omega) (by omega)]; exact hv0
        refine ⟨?_, ?_, ?_⟩
        · rw [p1, if_pos rfl]; exact h.1
        · rw [p2, if_pos ⟨hnz, h.1.symm, hv.2⟩]
        · refine chn_cong l2 v h.2.2 (fun w hw => ?_) (fun w hw => ?_) ?_
          · have hwu : ¬ w = u := by
              rintro rfl
              exact (List.nodup_cons.mp hnd).1 hw
            rw [p1, if_neg (hne w (List.mem_cons_of_mem _ hw)).1, if_neg hwu]
          · have hwx := hne w (List.mem_cons_of_mem _ (List.mem_cons_of_mem _ hw))
            rw [p2, if_neg, if_neg hwx.1]
            rintro ⟨_, hh, _⟩
            rw [h.1, nI_eq (by omega) (by omega)] at hh
            subst hh
            exact (List.nodup_cons.mp (List.nodup_cons.mp hnd).2).1 hw
          · rw [p3, if_neg hnz]
  | cons v l1 ih =>
    intro l2 u hne hnd h0 h hp
    have hv := hne v (by simp)
    have hu := hne u (by simp)
    have hmem : lastOf v l1 ∈ v :: l1 := lastOf_mem l1 v
    have hub : ¬ u = lastOf v l1 := by
      rintro e
      rw [← e] at hmem
      refine (List.nodup_cons.mp hnd).1 ?_
      rcases List.mem_cons.mp hmem with rfl | hm
      · simp
      · exact List.mem_cons_of_mem _ (List.mem_append_left _ hm)
    have hp : putR R x (lastOf v l1) R' := hp
    have hrec := ih l2 v (fun w hw => hne w (List.mem_cons_of_mem _ hw)) (List.nodup_cons.mp hnd).2 (fun w hw => h0 w (List.mem_cons_of_mem _ hw)) h.2.2 hp
    refine ⟨?_, ?_, hrec⟩
    · rw [hp.1, if_neg hu.1, if_neg hub]; exact h.1
    · rw [hp.2.1]
      show (if ¬rv R 150 (lastOf v l1) = 0 ∧ nI v = rv R 150 (lastOf v l1) ∧ v < 8000 then nI x else if v = x then nI (lastOf v l1) else rv R 151 v) = nI u
      rw [if_neg, if_neg hv.1]
      · exact h.2.1
      · rintro ⟨h1, h2, h3⟩
        have key : ∀ (l1 l2 : List Nat) w, chn R w (l1 ++ l2) → rv R 150 (lastOf w l1) = (match l2 with | [] => 0 | z :: _ => nI z) := by
          intro l1
          induction l1 with
          | nil => intro l2 w hw; cases l2 with
            | nil => exact hw.1
            | cons z l2 => exact hw.1
          | cons y l1 ihk => intro l2 w hw; exact ihk l2 y hw.2.2
        have hk := key l1 l2 v h.2.2
        cases l2 with
        | nil => exact h1 hk
        | cons z l2 =>
          rw [hk, nI_eq (by omega) (by have := (hne z (by simp)).2; omega)] at h2
          subst h2
          refine (List.nodup_cons.mp (List.nodup_cons.mp hnd).2).1 ?_
          show v ∈ l1 ++ v :: l2
          simp
theorem chn_ahead {R : zr_Z} : ∀ (l1 l2 : List Nat) u x, chn R u (l1 ++ x :: l2) → rv R 151 x = nI (lastOf u l1) := by
  intro l1
  induction l1 with
  | nil => intro l2 u x h; exact h.2.1
  | cons v l1 ih => intro l2 u x h; exact ih l2 v x h.2.2
theorem chn_behind {R : zr_Z} : ∀ (l1 l2 : List Nat) u, chn R u (l1 ++ l2) → rv R 150 (lastOf u l1) = (match l2 with | [] => 0 | z :: _ => nI z) := by
  intro l1
  induction l1 with
  | nil => intro l2 w hw; cases l2 with
    | nil => exact hw.1
    | cons z l2 => exact hw.1
  | cons y l1 ihk => intro l2 w hw; exact ihk l2 y hw.2.2
theorem chn_drop {R R' : zr_Z} : ∀ (l : List Nat) u x, (u :: (l ++ [x])).Nodup → chn R u (l ++ [x]) → (∀ v, rv R' 150 v = if v = lastOf u l then 0 else rv R 150 v) → (∀ v, rv R' 151 v = rv R 151 v) → zf R' 21 = nI (lastOf u l) → chn R' u l := by
  intro l
  induction l with
  | nil => intro u x _ h h1 h2 h3; exact ⟨by rw [h1]; exact if_pos rfl, h3⟩
  | cons v l ih =>
    intro u x hnd h h1 h2 h3
    have hmem : lastOf v l ∈ v :: l := lastOf_mem l v
    have hub : ¬ u = lastOf v l := by
      rintro e
      rw [← e] at hmem
      refine (List.nodup_cons.mp hnd).1 ?_
      rcases List.mem_cons.mp hmem with rfl | hm
      · simp
      · exact List.mem_cons_of_mem _ (List.mem_append_left _ hm)
    refine ⟨?_, (h2 v).trans h.2.1, ih v x (List.nodup_cons.mp hnd).2 h.2.2 h1 h2 h3⟩
    rw [h1]
    show (if u = lastOf v l then 0 else rv R 150 u) = nI v
    rw [if_neg hub]; exact h.1
