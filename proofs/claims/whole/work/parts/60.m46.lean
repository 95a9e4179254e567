/-! the mathematics; written by wip/whole/m2parts.py -/
def NK (C C' : zr_Z) : Prop := (∀ id, (id < 115 ∨ 131 < id) → C'.1 id = C.1 id) ∧ (∀ j, ¬ j = 0 → zc C' j = zc C j) ∧ C'.2.2 = C.2.2
theorem NK.refl (C : zr_Z) : NK C C := ⟨fun _ _ => rfl, fun _ _ => rfl, rfl⟩
theorem NK.trans {C D E : zr_Z} (h : NK C D) (g : NK D E) : NK C E := ⟨fun id hid => (g.1 id hid).trans (h.1 id hid), fun j hj => (g.2.1 j hj).trans (h.2.1 j hj), g.2.2.trans h.2.2⟩
theorem NK_put {C D : zr_Z} {id : Nat} {i v : Int32} (h : NK C D) (h1 : 115 ≤ id) (h2 : id ≤ 131) : NK C (zput D id i v) :=
  ⟨fun id' hid' => by rw [zput_oth (by omega)]; exact h.1 id' hid', h.2.1, h.2.2⟩
theorem NK_add {C D : zr_Z} {id : Nat} {v : Int32} (h : NK C D) (h1 : 115 ≤ id) (h2 : id ≤ 131) : NK C (zadd D id v) :=
  ⟨fun id' hid' => by rw [zadd_oth (by omega)]; exact h.1 id' hid', h.2.1, h.2.2⟩
theorem cadd.row {C C' : zr_Z} {l : List Int32} (h : cadd C C' l) : C'.1 131 = C.1 131 ++ l ∧ ∀ id, ¬ id = 131 → C'.1 id = C.1 id :=
  ⟨by rw [h.1, mup_same], fun id hid => by rw [h.1, mup_oth _ _ hid]⟩
theorem cadd.nk {C C' : zr_Z} {l : List Int32} (h : cadd C C' l) : NK C C' := ⟨fun id hid => h.row.2 id (by omega), h.2.1, h.2.2⟩
theorem cadd.trans {C D E : zr_Z} {l m : List Int32} (h : cadd C D l) (g : cadd D E m) : cadd C E (l ++ m) := by
  refine ⟨?_, fun j hj => (g.2.1 j hj).trans (h.2.1 j hj), g.2.2.trans h.2.2⟩
  funext id
  by_cases e : id = 131
  · subst e; rw [mup_same, g.row.1, h.row.1, List.append_assoc]
  · rw [mup_oth _ _ e, g.row.2 id e, h.row.2 id e]
theorem c38 {C : zr_Z} {T : List Int32} (hC : mC C T) (hT : gT T) {i a b : Nat} {mail : Bool} (hi : i < 2 ^ 31) (ha : ldq C 74 i = nI a) (hb : ldq C 76 i = nI b) (hab : a ≤ b) (hbT : b ≤ T.length)
    (hroom : (C.1 131).length + ((if mail = true then mailto else []) ++ tsl T a b).length ≤ 3900) :
    ∃ C', o_38 C (nI i) mail = some C' ∧ cadd C C' ((if mail = true then mailto else []) ++ tsl T a b) := by
  have hl := hT.1
  have loop2 : ∀ d p m (Z : zr_Z), p + d = b → d < m → mC Z T → ldq Z 76 i = nI b → (Z.1 131).length + d ≤ 3900 → ∃ C', g_38_46 m Z (nI i) mail (nI p) = some C' ∧ cadd Z C' (mtl T p d) := by
    intro d
    induction d with
    | zero =>
      intro p m Z hp hm hZ hz _
      obtain ⟨m, rfl⟩ : ∃ z, m = z + 1 := ⟨m - 1, by omega⟩
      refine ⟨Z, ?_, cadd_nil Z⟩
      rw [g_38_46, zt_ldq _ _ hi, hz, if_pos ((nI_leI (by omega) (by omega)).mpr (by omega))]
    | succ d ih =>
      intro p m Z hp hm hZ hz hr
      obtain ⟨m, rfl⟩ : ∃ z, m = z + 1 := ⟨m - 1, by omega⟩
      rw [g_38_46, zt_ldq _ _ hi, hz, if_neg (by rw [nI_leI (by omega) (by omega)]; omega), hZ.at (by omega), nI_1]
      obtain ⟨C', g1, g2⟩ := ih (p + 1) m (zadd Z 131 (mA T p)) (by omega) (by omega) (mC_zadd hZ (by decide) _) (by rw [ldq_eq, zadd_oth (by decide)]; exact hz) (cadd_len (C := Z) (by omega) rfl)
      exact ⟨C', g1, cadd_cons (by omega) ⟨rfl, fun _ _ => rfl, rfl⟩ g2⟩
  have htl : tsl T a b = mtl T a (b - a) := by
    have := tsl_eq (T := T) (b - a) a (by omega)
    rw [show a + (b - a) = b by omega] at this; exact this
  rw [List.length_append, htl, mtl_len] at hroom
  unfold o_38
  cases mail with
  | false =>
    obtain ⟨C', g1, g2⟩ := loop2 (b - a) a oF C (by omega) (by unfold oF; omega) hC hb (by omega)
    refine ⟨C', ?_, by rw [htl]; exact g2⟩
    rw [show oF = 999999 + 1 from rfl, g_38_2, if_neg (by decide), zt_ldq _ _ hi, ha]; exact g1
  | true =>
    have hs : sln 3 = nI 7 := by decide +kernel
    have hm7 : mailto.length = 7 := rfl
    rw [if_pos rfl] at hroom
    have loop1 : ∀ d q m (Z : zr_Z), q + d = 7 → d < m → mC Z T → ldq Z 74 i = nI a → ldq Z 76 i = nI b → (Z.1 131).length + d + (b - a) ≤ 3900 → ∃ C', g_38_2 m Z (nI i) true (nI q) = some C' ∧ cadd Z C' (mailto.drop q ++ mtl T a (b - a)) := by
      intro d
      induction d with
      | zero =>
        intro q m Z hq hm hZ z1 z2 hr
        obtain ⟨m, rfl⟩ : ∃ z, m = z + 1 := ⟨m - 1, by omega⟩
        obtain rfl : q = 7 := by omega
        obtain ⟨C', g1, g2⟩ := loop2 (b - a) a oF Z (by omega) (by unfold oF; omega) hZ z2 (by omega)
        refine ⟨C', ?_, by rw [List.drop_eq_nil_of_le (by rw [hm7]; omega), List.nil_append]; exact g2⟩
        rw [g_38_2, if_pos rfl, hs, if_pos (Int32.le_refl _), zt_ldq _ _ hi, z1]; exact g1
      | succ d ih =>
        intro q m Z hq hm hZ z1 z2 hr
        obtain ⟨m, rfl⟩ : ∃ z, m = z + 1 := ⟨m - 1, by omega⟩
        have hsc : sci 3 (nI q) ∧ sch 3 (nI q) = mailto.getD q 0 := by
          have : q = 0 ∨ q = 1 ∨ q = 2 ∨ q = 3 ∨ q = 4 ∨ q = 5 ∨ q = 6 := by omega
          rcases this with rfl | rfl | rfl | rfl | rfl | rfl | rfl <;> decide +kernel
        obtain ⟨C', g1, g2⟩ := ih (q + 1) m (zadd Z 131 (mailto.getD q 0)) (by omega) (by omega) (mC_zadd hZ (by decide) _) (by rw [ldq_eq, zadd_oth (by decide)]; exact z1) (by rw [ldq_eq, zadd_oth (by decide)]; exact z2) (by have := cadd_len (C := Z) (C1 := Z) (c := mailto.getD q 0) (n := d + (b - a)) (by omega) rfl; omega)
        refine ⟨C', ?_, ?_⟩
        · rw [g_38_2, if_pos rfl, hs, if_neg (by rw [nI_leI (by omega) (by omega)]; omega), if_pos hsc.1, hsc.2, nI_1]; exact g1
        · rw [List.drop_eq_getElem_cons (by rw [hm7]; omega), List.cons_append]
          have : mailto[q]'(by rw [hm7]; omega) = mailto.getD q 0 := by rw [List.getD_eq_getElem?_getD, List.getElem?_eq_getElem (by rw [hm7]; omega)]; rfl
          rw [this]
          exact cadd_cons (by omega) ⟨rfl, fun _ _ => rfl, rfl⟩ g2
    obtain ⟨C', g1, g2⟩ := loop1 7 0 oF C (by omega) (by unfold oF; omega) hC ha hb (by omega)
    refine ⟨C', ?_, by rw [if_pos rfl, htl]; exact g2⟩
    rw [nI_0] at g1; exact g1
