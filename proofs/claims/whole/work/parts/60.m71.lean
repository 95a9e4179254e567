/-! the mathematics; written by wip/whole/m2parts.py -/
def KR (Z Z' : zr_Z) : Prop := Z'.2.2 = Z.2.2 ∧ Z'.1 58 = Z.1 58 ∧ Z'.1 134 = Z.1 134 ∧ (zc Z' 2 = 0 → zc Z 2 = 0 ∧ zc Z' 3 = zc Z 3)
theorem KR.refl (Z : zr_Z) : KR Z Z := ⟨rfl, rfl, rfl, fun h => ⟨h, rfl⟩⟩
theorem KR.trans {Z D E : zr_Z} (h : KR Z D) (g : KR D E) : KR Z E := ⟨g.1.trans h.1, g.2.1.trans h.2.1, g.2.2.1.trans h.2.2.1, fun e => ⟨(h.2.2.2 (g.2.2.2 e).1).1, (g.2.2.2 e).2.trans (h.2.2.2 (g.2.2.2 e).1).2⟩⟩
def KRs (Z : zr_Z) (x : Option zr_Z) : Prop := ∀ r, x = some r → KR Z r
def KRp {α : Type} (Z : zr_Z) (x : Option (α × zr_Z)) : Prop := ∀ r, x = some r → KR Z r.2
theorem KR_nones {Z : zr_Z} : KRs Z none := fun r h => absurd h (by simp)
theorem KR_nonep {α : Type} {Z : zr_Z} : KRp Z (none : Option (α × zr_Z)) := fun r h => absurd h (by simp)
theorem KR_somes {Z e : zr_Z} (h : KR Z e) : KRs Z (some e) := fun r hr => by rw [← Option.some.inj hr]; exact h
theorem KR_somep {α : Type} {Z : zr_Z} {e : α × zr_Z} (h : KR Z e.2) : KRp Z (some e) := fun r hr => by rw [← Option.some.inj hr]; exact h
theorem KR_if {Z a b : zr_Z} {c : Prop} [Decidable c] (ha : KR Z a) (hb : KR Z b) : KR Z (if c then a else b) := by
  by_cases h : c
  · rw [if_pos h]; exact ha
  · rw [if_neg h]; exact hb
theorem KR_if2 {α : Type} {Z : zr_Z} {a b : α × zr_Z} {c : Prop} [Decidable c] (ha : KR Z a.2) (hb : KR Z b.2) : KR Z (if c then a else b).2 := by
  by_cases h : c
  · rw [if_pos h]; exact ha
  · rw [if_neg h]; exact hb
theorem KR_ifos {Z : zr_Z} {a b : Option zr_Z} {c : Prop} [Decidable c] (ha : KRs Z a) (hb : KRs Z b) : KRs Z (if c then a else b) := by
  by_cases h : c
  · rw [if_pos h]; exact ha
  · rw [if_neg h]; exact hb
theorem KR_ifop {α : Type} {Z : zr_Z} {a b : Option (α × zr_Z)} {c : Prop} [Decidable c] (ha : KRp Z a) (hb : KRp Z b) : KRp Z (if c then a else b) := by
  by_cases h : c
  · rw [if_pos h]; exact ha
  · rw [if_neg h]; exact hb
theorem KR_bvs {α : Type} {Z : zr_Z} {x : Option α} {f : α → Option zr_Z} (h : ∀ u, KRs Z (f u)) : KRs Z (Option.bind x f) := by
  cases x with
  | none => exact KR_nones
  | some u => exact h u
theorem KR_bvp {α β : Type} {Z : zr_Z} {x : Option α} {f : α → Option (β × zr_Z)} (h : ∀ u, KRp Z (f u)) : KRp Z (Option.bind x f) := by
  cases x with
  | none => exact KR_nonep
  | some u => exact h u
theorem KR_bss {Z S : zr_Z} {x : Option zr_Z} {f : zr_Z → Option zr_Z} (hS : KR Z S) (hx : KRs S x) (h : ∀ u, KR Z u → KRs Z (f u)) : KRs Z (Option.bind x f) := by
  cases x with
  | none => exact KR_nones
  | some u => exact h u (hS.trans (hx u rfl))
theorem KR_bsp {β : Type} {Z S : zr_Z} {x : Option zr_Z} {f : zr_Z → Option (β × zr_Z)} (hS : KR Z S) (hx : KRs S x) (h : ∀ u, KR Z u → KRp Z (f u)) : KRp Z (Option.bind x f) := by
  cases x with
  | none => exact KR_nonep
  | some u => exact h u (hS.trans (hx u rfl))
theorem KR_bps {α : Type} {Z S : zr_Z} {x : Option (α × zr_Z)} {f : α × zr_Z → Option zr_Z} (hS : KR Z S) (hx : KRp S x) (h : ∀ u : α × zr_Z, KR Z u.2 → KRs Z (f u)) : KRs Z (Option.bind x f) := by
  cases x with
  | none => exact KR_nones
  | some u => exact h u (hS.trans (hx u rfl))
theorem KR_bpp {α β : Type} {Z S : zr_Z} {x : Option (α × zr_Z)} {f : α × zr_Z → Option (β × zr_Z)} (hS : KR Z S) (hx : KRp S x) (h : ∀ u : α × zr_Z, KR Z u.2 → KRp Z (f u)) : KRp Z (Option.bind x f) := by
  cases x with
  | none => exact KR_nonep
  | some u => exact h u (hS.trans (hx u rfl))
theorem KR_loss {Z v : zr_Z} {k : zr_Z → Option zr_Z} (hv : KR Z v) (h : ∀ x, KR Z x → KRs Z (k x)) : KRs Z (olet v k) := h v hv
theorem KR_losp {β : Type} {Z v : zr_Z} {k : zr_Z → Option (β × zr_Z)} (hv : KR Z v) (h : ∀ x, KR Z x → KRp Z (k x)) : KRp Z (olet v k) := h v hv
theorem KR_lovs {α : Type} {Z : zr_Z} {v : α} {k : α → Option zr_Z} (h : ∀ x, KRs Z (k x)) : KRs Z (olet v k) := h v
theorem KR_lovp {α β : Type} {Z : zr_Z} {v : α} {k : α → Option (β × zr_Z)} (h : ∀ x, KRp Z (k x)) : KRp Z (olet v k) := h v
theorem KR_ts {Z S : zr_Z} {x : Option zr_Z} (hS : KR Z S) (hx : KRs S x) : KRs Z x := fun r hr => hS.trans (hx r hr)
theorem KR_tp {α : Type} {Z S : zr_Z} {x : Option (α × zr_Z)} (hS : KR Z S) (hx : KRp S x) : KRp Z x := fun r hr => hS.trans (hx r hr)

theorem KR_zput {Z D : zr_Z} {id : Nat} {i v : Int32} (h : KR Z D) (hid : ¬ id = 58 ∧ ¬ id = 134) : KR Z (zput D id i v) := ⟨h.1, (mup_oth D.1 _ (fun e => hid.1 e.symm)).trans h.2.1, (mup_oth D.1 _ (fun e => hid.2 e.symm)).trans h.2.2.1, h.2.2.2⟩
theorem KR_zadd {Z D : zr_Z} {id : Nat} {v : Int32} (h : KR Z D) (hid : ¬ id = 58 ∧ ¬ id = 134) : KR Z (zadd D id v) := ⟨h.1, (mup_oth D.1 _ (fun e => hid.1 e.symm)).trans h.2.1, (mup_oth D.1 _ (fun e => hid.2 e.symm)).trans h.2.2.1, h.2.2.2⟩
theorem KR_zcut {Z D : zr_Z} {id : Nat} {v : Int32} (h : KR Z D) (hid : ¬ id = 58 ∧ ¬ id = 134) : KR Z (zcut D id v) := ⟨h.1, (mup_oth D.1 _ (fun e => hid.1 e.symm)).trans h.2.1, (mup_oth D.1 _ (fun e => hid.2 e.symm)).trans h.2.2.1, h.2.2.2⟩
theorem KR_zfill {Z D : zr_Z} {id : Nat} {i v : Int32} (h : KR Z D) (hid : ¬ id = 58 ∧ ¬ id = 134) : KR Z (zfill D id i v) := ⟨h.1, (mup_oth D.1 _ (fun e => hid.1 e.symm)).trans h.2.1, (mup_oth D.1 _ (fun e => hid.2 e.symm)).trans h.2.2.1, h.2.2.2⟩
theorem KR_zsc {Z D : zr_Z} {j : Nat} {x : Int32} (h : KR Z D) (hj : ¬ j = 2 ∧ ¬ j = 3) : KR Z (zsc D j x) := ⟨h.1, h.2.1, h.2.2.1, fun e => by
  rw [zc_oth D x (fun e => hj.1 e.symm)] at e; rw [zc_oth D x (fun e => hj.2 e.symm)]; exact h.2.2.2 e⟩
theorem KRk_f_52 (Z : zr_Z) (k p : Int32) (hk : ¬ k = 0) : KR Z (f_52 Z k p) := ⟨rfl, rfl, rfl, fun e => by
  unfold f_52 at e; rw [zc_oth _ _ (by decide), zc_same] at e; exact absurd e hk⟩
theorem KRk_f_77 (Z : zr_Z) (b : Int32) : KR Z (f_77 Z b) := by
  unfold f_77; exact (KR_zcut (KR_zcut (KR_zcut (KR_zcut (KR_zcut (KR_zcut (KR.refl Z) (by decide)) (by decide)) (by decide)) (by decide)) (by decide)) (by decide))

theorem KRk_g_74_135 : ∀ (n : Nat) (Z : zr_Z) (a : Int32) (b : Int32) (p : Int32), KR Z (g_74_135 n Z a b p)
  | 0, Z, _, _, _ => by
    unfold g_74_135; exact KR.refl Z
  | n + 1, Z, a, b, p => by
    rw [g_74_135]; exact (KR_if (KR.refl Z) (KR.trans (KR_zput (KR.refl Z) (by decide)) (KRk_g_74_135 _ _ _ _ _)))

theorem KRk_g_35_2 : ∀ (n : Nat) (Z : zr_Z) (a : Int32) (b : Int32) (p : Int32), KR Z (g_35_2 n Z a b p)
  | 0, Z, _, _, _ => by
    unfold g_35_2; exact KR.refl Z
  | n + 1, Z, a, b, p => by
    rw [g_35_2]; exact (KR_if (KR.refl Z) (KR.trans (KR_zput (KR.refl Z) (by decide)) (KRk_g_35_2 _ _ _ _ _)))

theorem KRk_f_35 (Z : zr_Z) (a : Int32) (b : Int32) : KR Z (f_35 Z a b) := by
  unfold f_35; exact (KR.trans (KR.refl Z) (KRk_g_35_2 _ _ _ _ _))

theorem KRk_f_74 (Z : zr_Z) (a : Int32) (b : Int32) : KR Z (f_74 Z a b) := by
  unfold f_74; exact (KR.trans (KR_zput (KR_zput (KR_zput (KR_zput (KR.trans (KR.trans (KR.refl Z) (KRk_f_35 _ _ _)) (KRk_f_35 _ _ _)) (by decide)) (by decide)) (by decide)) (by decide)) (KRk_g_74_135 _ _ _ _ _))

theorem KRk_g_80_27 : ∀ (n : Nat) (Y : zr_Z) (Z : zr_Z) (base : Int32) (x2 : Int32) (x3 : Int32) (x4 : Int32) (K2 : (zr_Z → Int32 → Option zr_Z)), KR Y Z → (∀ (a0 : zr_Z) (a1 : Int32), KR Y a0 → KRs Y (K2 a0 a1)) → KRs Y (g_80_27 n Z base x2 x3 x4 K2)
  | 0, Y, _, _, _, _, _, _, _, _ => by
    unfold g_80_27; exact KR_nones
  | n + 1, Y, Z, base, x2, x3, x4, K2, hZ, hK => by
    rw [g_80_27]; exact (KR_ifos (hK _ _ hZ) (KR_ifos (hK _ _ hZ) (KR_bvs (fun u3 => (KRk_g_80_27 _ _ _ _ _ _ _ _ (KR.trans hZ (KRk_f_74 _ _ _)) hK)))))

theorem KRk_g_80_2 : ∀ (n : Nat) (Z : zr_Z) (base : Int32) (x2 : Int32), KRs Z (g_80_2 n Z base x2)
  | 0, Z, _, _ => by
    unfold g_80_2; exact KR_nones
  | n + 1, Z, base, x2 => by
    rw [g_80_2]; exact (KR_ifos (KR_somes (KR.trans (KR.refl Z) (KRk_f_77 _ _))) (KR_bvs (fun u2 => (KRk_g_80_27 _ _ _ _ _ _ _ _ (KR.refl Z) (fun Z x2 hZ => (KR_ts hZ (KRk_g_80_2 _ _ _ _)))))))

theorem KRk_o_80 (Z : zr_Z) (base : Int32) : KRs Z (o_80 Z base) := by
  unfold o_80; exact (KR_ts (KR.refl Z) (KRk_g_80_2 _ _ _ _))

theorem KRk_g_56_2 : ∀ (n : Nat) (Z : zr_Z) (p : Int32) (q : Int32), KR Z (g_56_2 n Z p q)
  | 0, Z, _, _ => by
    unfold g_56_2; exact KR.refl Z
  | n + 1, Z, p, q => by
    rw [g_56_2]; exact (KR_if (KR_zput (KR.trans (KR.refl Z) (KRk_f_35 _ _ _)) (by decide)) (KR_if (KR_zput (KR.trans (KR.refl Z) (KRk_f_35 _ _ _)) (by decide)) (KR.trans (KR.refl Z) (KRk_g_56_2 _ _ _ _))))

theorem KRk_f_56 (Z : zr_Z) (p : Int32) : KR Z (f_56 Z p) := by
  unfold f_56; exact (KR.trans (KR.refl Z) (KRk_g_56_2 _ _ _ _))

theorem KRk_f_27 (Z : zr_Z) (p : Int32) (im : Bool) : KR Z (f_27 Z p im) := by
  unfold f_27; exact (KR_zadd (KR_zadd (KR_zadd (KR_zadd (KR_zadd (KR_zsc (KR.refl Z) (by decide)) (by decide)) (by decide)) (by decide)) (by decide)) (by decide))

theorem KRk_f_51 (Z : zr_Z) (p : Int32) : KR Z (f_51 Z p).2 := by
  unfold f_51; exact (KR_if2 (KR_if2 (KR.trans (KR.refl Z) (KRk_f_27 _ _ _)) (KR.refl Z)) (KR.trans (KR.refl Z) (KRk_f_27 _ _ _)))

theorem KRk_g_64_6 : ∀ (n : Nat) (Z : zr_Z) (a : Int32) (base : Int32) (most : Int32) (x4 : Int32) (x5 : Int32), KRp Z (g_64_6 n Z a base most x4 x5)
  | 0, Z, _, _, _, _, _ => by
    unfold g_64_6; exact KR_nonep
  | n + 1, Z, a, base, most, x4, x5 => by
    rw [g_64_6]; exact (KR_ifop (KR_ifop (KR_somep (KR.refl Z)) (KR_ifop (KR_lovp (fun y10 => (KR_somep (KR_zsc (KR.refl Z) (by decide))))) (KR_somep (KR.refl Z)))) (KR_ifop (KR_ifop (KR_somep (KR.refl Z)) (KR_ifop (KR_lovp (fun y23 => (KR_somep (KR_zsc (KR.refl Z) (by decide))))) (KR_somep (KR.refl Z)))) (KR_lovp (fun x27 => (KR_tp (KR.refl Z) (KRk_g_64_6 _ _ _ _ _ _ _))))))

theorem KRk_o_64 (Z : zr_Z) (a : Int32) (base : Int32) (most : Int32) : KRp Z (o_64 Z a base most) := by
  unfold o_64; exact (KR_tp (KR.refl Z) (KRk_g_64_6 _ _ _ _ _ _ _))

theorem KRk_g_65_10 : ∀ (n : Nat) (Z : zr_Z) (a : Int32) (x2 : Int32) (x3 : Int32) (y4 : Bool) (x5 : Int32), KRp Z (g_65_10 n Z a x2 x3 y4 x5)
  | 0, Z, _, _, _, _, _ => by
    unfold g_65_10; exact KR_nonep
  | n + 1, Z, a, x2, x3, y4, x5 => by
    rw [g_65_10]; exact (KR_ifop (KR_somep (KR.refl Z)) (KR_ifop (KR_somep (KR.refl Z)) (KR_ifop (KR_lovp (fun y9 => (KR_ifop (KR_ifop (KR_tp (KR.refl Z) (KRk_g_65_10 _ _ _ _ _ _ _)) (KR_ifop (KR_ifop (KR_somep (KR_zsc (KR.refl Z) (by decide))) KR_nonep) (KR_tp (KR.refl Z) (KRk_g_65_10 _ _ _ _ _ _ _)))) KR_nonep))) KR_nonep)))

theorem KRk_o_65 (Z : zr_Z) (a : Int32) : KRp Z (o_65 Z a) := by
  unfold o_65; exact (KR_tp (KR.refl Z) (KRk_g_65_10 _ _ _ _ _ _ _))

theorem KRk_o_63 (Z : zr_Z) (p : Int32) : KRp Z (o_63 Z p) := by
  unfold o_63; exact (KR_ifop (KR_ifop (KR_lovp (fun y7 => (KR_ifop (KR_bpp (KR.refl Z) (KRk_o_64 _ _ _ _) (fun u9 hu9 => (KR_somep hu9))) (KR_bpp (KR.refl Z) (KRk_o_64 _ _ _ _) (fun u10 hu10 => (KR_somep hu10)))))) (KR_bpp (KR.refl Z) (KRk_o_65 _ _) (fun u11 hu11 => (KR_somep hu11)))) (KR_somep (KR.refl Z)))

theorem KRk_o_61 (Z : zr_Z) (p : Int32) : KRp Z (o_61 Z p) := by
  unfold o_61; exact (KR_bpp (KR.refl Z) (KRk_o_63 _ _) (fun u1 hu1 => (KR_ifop (KR_ifop (KR_losp (KR.trans (KR_zput (KR.trans hu1 (KRk_f_52 _ _ _ (by decide))) (by decide)) (KRk_f_35 _ _ _)) (fun Z4 hZ4 => (KR_somep hZ4))) (KR_somep (KR.trans (KR_zput hu1 (by decide)) (KRk_f_35 _ _ _)))) (KR_somep hu1))))

theorem KRk_f_78 (Z : zr_Z) (a : Int32) (b : Int32) : KR Z (f_78 Z a b) := by
  unfold f_78; exact (KR_zadd (KR_zadd (KR_zadd (KR_zadd (KR_zadd (KR_zadd (KR.refl Z) (by decide)) (by decide)) (by decide)) (by decide)) (by decide)) (by decide))

theorem KRk_f_37 (Z : zr_Z) (m : Int32) (k : Int32) (a : Int32) (b : Int32) (t : Int32) (u : Int32) : KR Z (f_37 Z m k a b t u) := by
  unfold f_37; exact (KR_zadd (KR_zadd (KR_zadd (KR_zadd (KR_zadd (KR_zadd (KR.refl Z) (by decide)) (by decide)) (by decide)) (by decide)) (by decide)) (by decide))

theorem KRk_g_28_2 : ∀ (n : Nat) (Z : zr_Z) (k : Int32), KR Z (g_28_2 n Z k)
  | 0, Z, _ => by
    unfold g_28_2; exact KR.refl Z
  | n + 1, Z, k => by
    rw [g_28_2]; exact (KR_if (KR.refl Z) (KR_if (KR.trans (KR.refl Z) (KRk_g_28_2 _ _ _)) (KR.trans (KR_zput (KR.refl Z) (by decide)) (KRk_g_28_2 _ _ _))))

theorem KRk_f_28 (Z : zr_Z) : KR Z (f_28 Z) := by
  unfold f_28; exact (KR.trans (KR.refl Z) (KRk_g_28_2 _ _ _))

theorem KRk_f_36 (Z : zr_Z) (k : Int32) (a : Int32) (b : Int32) : KR Z (f_36 Z k a b) := by
  unfold f_36; exact (KR_zput (KR_zput (KR_zput (KR.refl Z) (by decide)) (by decide)) (by decide))

theorem KRk_f_60 (Z : zr_Z) (p : Int32) : KR Z (f_60 Z p).2 := by
  unfold f_60; exact (KR_if2 (KR_if2 (KR.trans (KR.refl Z) (KRk_f_52 _ _ _ (by decide))) (KR.refl Z)) (KR.trans (KR.trans (KR.trans (KR.refl Z) (KRk_f_37 _ _ _ _ _ _ _)) (KRk_f_36 _ _ _ _)) (KRk_f_28 _)))

theorem KRk_f_57 (Z : zr_Z) (p : Int32) : KR Z (f_57 Z p).2 := by
  unfold f_57; exact (KR_if2 (KR_if2 (KR.trans (KR.refl Z) (KRk_f_35 _ _ _)) (KR.refl Z)) (KR_zput (KR.trans (KR.refl Z) (KRk_f_35 _ _ _)) (by decide)))

theorem KRk_f_26 (Z : zr_Z) (b : Int32) : KR Z (f_26 Z b) := by
  unfold f_26; exact (KR_zcut (KR_zcut (KR_zcut (KR_zcut (KR_zcut (KR.refl Z) (by decide)) (by decide)) (by decide)) (by decide)) (by decide))

theorem KRk_f_32 (Z : zr_Z) (p : Int32) : KR Z (f_32 Z p).2 := by
  unfold f_32; exact (KR_if2 (KR_if2 (KR.trans (KR.refl Z) (KRk_f_37 _ _ _ _ _ _ _)) (KR.refl Z)) (KR.refl Z))

theorem KRk_g_20_11 : ∀ (n : Nat) (Z : zr_Z) (a : Int32) (b : Int32) (bg : Int32) (k : Int32), KR Z (g_20_11 n Z a b bg k).2
  | 0, Z, _, _, _, _ => by
    unfold g_20_11; exact KR.refl Z
  | n + 1, Z, a, b, bg, k => by
    rw [g_20_11]; exact (KR_if2 (KR.refl Z) (KR_if2 (KR.refl Z) (KR.trans (KR.refl Z) (KRk_g_20_11 _ _ _ _ _ _))))

theorem KRk_g_22_13 : ∀ (n : Nat) (Z : zr_Z) (a : Int32) (b : Int32) (wh : Int32) (q : Int32), KR Z (g_22_13 n Z a b wh q)
  | 0, Z, _, _, _, _ => by
    unfold g_22_13; exact KR.refl Z
  | n + 1, Z, a, b, wh, q => by
    rw [g_22_13]; exact (KR_if (KR.refl Z) (KR_if (KR.trans (KR.refl Z) (KRk_g_22_13 _ _ _ _ _ _)) (KR_if (KR.trans (KR_zadd (KR.refl Z) (by decide)) (KRk_g_22_13 _ _ _ _ _ _)) (KR_if (KR.trans (KR_zadd (KR.refl Z) (by decide)) (KRk_g_22_13 _ _ _ _ _ _)) (KR.trans (KR_zadd (KR_zadd (KR.refl Z) (by decide)) (by decide)) (KRk_g_22_13 _ _ _ _ _ _))))))

theorem KRk_f_22 (Z : zr_Z) (a : Int32) (b : Int32) : KR Z (f_22 Z a b) := by
  unfold f_22; exact (KR.trans (KR_zcut (KR.refl Z) (by decide)) (KRk_g_22_13 _ _ _ _ _ _))

theorem KRk_f_20 (Z : zr_Z) (a : Int32) (b : Int32) : KR Z (f_20 Z a b).2 := by
  unfold f_20; exact (KR.trans (KR.trans (KR.refl Z) (KRk_f_22 _ _ _)) (KRk_g_20_11 _ _ _ _ _ _))

theorem KRk_f_31 (Z : zr_Z) (k : Int32) (p : Int32) : KR Z (f_31 Z k p).2 := by
  unfold f_31; exact (KR_if2 (KR_if2 (KR.refl Z) (KR_if2 (KR_if2 (KR.trans (KR.trans (KR.refl Z) (KRk_f_20 _ _ _)) (KRk_f_37 _ _ _ _ _ _ _)) (KR.trans (KR.refl Z) (KRk_f_20 _ _ _))) (KR.refl Z))) (KR_if2 (KR_if2 (KR.refl Z) (KR_if2 (KR_if2 (KR.trans (KR.trans (KR.refl Z) (KRk_f_20 _ _ _)) (KRk_f_37 _ _ _ _ _ _ _)) (KR.trans (KR.refl Z) (KRk_f_20 _ _ _))) (KR.refl Z))) (KR_if2 (KR_if2 (KR.trans (KR.trans (KR.refl Z) (KRk_f_20 _ _ _)) (KRk_f_37 _ _ _ _ _ _ _)) (KR.trans (KR.refl Z) (KRk_f_20 _ _ _))) (KR_if2 (KR.refl Z) (KR_if2 (KR_if2 (KR.trans (KR.trans (KR.refl Z) (KRk_f_20 _ _ _)) (KRk_f_37 _ _ _ _ _ _ _)) (KR.trans (KR.refl Z) (KRk_f_20 _ _ _))) (KR.refl Z))))))

theorem KRk_o_29 (Z : zr_Z) (p : Int32) : KRp Z (o_29 Z p) := by
  unfold o_29; exact (KR_ifop (KR_ifop (KR_somep (KR.trans (KR.refl Z) (KRk_f_26 _ _))) (KR_ifop (KR_lovp (fun x4 => (KR_ifop (KR_lovp (fun y9 => (KR_losp (KR.trans (KR.trans (KR.trans (KR.refl Z) (KRk_f_32 _ _)) (KRk_f_31 _ _ _)) (KRk_f_35 _ _ _)) (fun Z10 hZ10 => (KR_losp (KR.trans hZ10 (KRk_f_36 _ _ _ _)) (fun Z14 hZ14 => (KR_bsp (KR.trans hZ14 (KRk_f_35 _ _ _)) (KRk_o_80 _ _) (fun u15 hu15 => (KR_ifop (KR_somep (KR.trans hu15 (KRk_f_26 _ _))) (KR_somep (KR.trans (KR.trans hu15 (KRk_f_26 _ _)) (KRk_f_28 _)))))))))))) (KR_losp (KR.trans (KR.trans (KR.trans (KR.refl Z) (KRk_f_32 _ _)) (KRk_f_31 _ _ _)) (KRk_f_26 _ _)) (fun Z17 hZ17 => (KR_somep hZ17)))))) (KR_ifop (KR_lovp (fun y22 => (KR_losp (KR.trans (KR.trans (KR.refl Z) (KRk_f_32 _ _)) (KRk_f_35 _ _ _)) (fun Z23 hZ23 => (KR_losp (KR.trans hZ23 (KRk_f_36 _ _ _ _)) (fun Z27 hZ27 => (KR_bsp (KR.trans hZ27 (KRk_f_35 _ _ _)) (KRk_o_80 _ _) (fun u28 hu28 => (KR_ifop (KR_somep (KR.trans hu28 (KRk_f_26 _ _))) (KR_somep (KR.trans (KR.trans hu28 (KRk_f_26 _ _)) (KRk_f_28 _)))))))))))) (KR_somep (KR.trans (KR.trans (KR.refl Z) (KRk_f_32 _ _)) (KRk_f_26 _ _)))))) (KR_somep (KR.refl Z)))

theorem KRk_g_58_31 : ∀ (n : Nat) (Z : zr_Z) (p : Int32) (x2 : Int32) (x3 : Int32) (y4 : Bool) (x5 : Int32), KRp Z (g_58_31 n Z p x2 x3 y4 x5)
  | 0, Z, _, _, _, _, _ => by
    unfold g_58_31; exact KR_nonep
  | n + 1, Z, p, x2, x3, y4, x5 => by
    rw [g_58_31]; exact (KR_ifop (KR_losp (KR_zput (KR_zput (KR.trans (KR.trans (KR.refl Z) (KRk_f_35 _ _ _)) (KRk_f_35 _ _ _)) (by decide)) (by decide)) (fun Z2 hZ2 => (KR_ifop (KR_somep hZ2) (KR_ifop (KR_somep hZ2) (KR_ifop (KR_somep hZ2) (KR_somep (KR.trans (KR.trans hZ2 (KRk_f_35 _ _ _)) (KRk_f_35 _ _ _)))))))) (KR_ifop (KR_lovp (fun y11 => (KR_tp (KR.refl Z) (KRk_g_58_31 _ _ _ _ _ _ _)))) (KR_lovp (fun y16 => (KR_tp (KR_zput (KR.refl Z) (by decide)) (KRk_g_58_31 _ _ _ _ _ _ _))))))

theorem KRk_o_58 (Z : zr_Z) (p : Int32) : KRp Z (o_58 Z p) := by
  unfold o_58; exact (KR_lovp (fun x1 => (KR_ifop (KR_tp (KR.refl Z) (KRk_g_58_31 _ _ _ _ _ _ _)) (KR_somep (KR.refl Z)))))

theorem KRk_g_54_6 : ∀ (n : Nat) (Z : zr_Z) (x1 : Int32), KRs Z (g_54_6 n Z x1)
  | 0, Z, _ => by
    unfold g_54_6; exact KR_nones
  | n + 1, Z, x1 => by
    rw [g_54_6]; exact (KR_ifos (KR_bss (KR.refl Z) (KRk_o_80 _ _) (fun u2 hu2 => (KR_somes hu2))) (KR_ifos (KR_bss (KR.refl Z) (KRk_o_80 _ _) (fun u4 hu4 => (KR_somes hu4))) (KR_ifos (KR_ts (KR.trans (KR.refl Z) (KRk_f_56 _ _)) (KRk_g_54_6 _ _ _)) (KR_ifos (KR_lovs (fun x7 => (KR_ts (KR.trans (KR.refl Z) (KRk_f_51 _ _)) (KRk_g_54_6 _ _ _)))) (KR_ifos (KR_bps (KR.refl Z) (KRk_o_61 _ _) (fun u9 hu9 => (KR_ts hu9 (KRk_g_54_6 _ _ _)))) (KR_ifos (KR_lovs (fun x11 => (KR_ts (KR.trans (KR.refl Z) (KRk_f_78 _ _ _)) (KRk_g_54_6 _ _ _)))) (KR_ifos (KR_lovs (fun x13 => (KR_ts (KR.trans (KR.refl Z) (KRk_f_60 _ _)) (KRk_g_54_6 _ _ _)))) (KR_ifos (KR_lovs (fun x15 => (KR_ts (KR.trans (KR.refl Z) (KRk_f_51 _ _)) (KRk_g_54_6 _ _ _)))) (KR_ifos (KR_lovs (fun x17 => (KR_ts (KR.trans (KR.refl Z) (KRk_f_57 _ _)) (KRk_g_54_6 _ _ _)))) (KR_ifos (KR_bps (KR.refl Z) (KRk_o_29 _ _) (fun u19 hu19 => (KR_ts hu19 (KRk_g_54_6 _ _ _)))) (KR_ifos (KR_lovs (fun x21 => (KR_ts (KR.trans (KR.refl Z) (KRk_f_78 _ _ _)) (KRk_g_54_6 _ _ _)))) (KR_ifos (KR_bps (KR.refl Z) (KRk_o_58 _ _) (fun u23 hu23 => (KR_ts hu23 (KRk_g_54_6 _ _ _)))) (KR_ts (KR.refl Z) (KRk_g_54_6 _ _ _))))))))))))))

theorem KRk_f_25 (Z : zr_Z) : KR Z (f_25 Z) := by
  unfold f_25; exact (KR_zsc (KR.trans (KR.refl Z) (KRk_f_26 _ _)) (by decide))

theorem KRk_g_34_22 : ∀ (n : Nat) (Z : zr_Z) (p : Int32), KR Z (g_34_22 n Z p)
  | 0, Z, _ => by
    unfold g_34_22; exact KR.refl Z
  | n + 1, Z, p => by
    rw [g_34_22]; exact (KR_if (KR_zcut (KR_zcut (KR_zcut (KR_zcut (KR_zcut (KR_zcut (KR.refl Z) (by decide)) (by decide)) (by decide)) (by decide)) (by decide)) (by decide)) (KR.trans (KR_zadd (KR.refl Z) (by decide)) (KRk_g_34_22 _ _ _)))

theorem KRk_f_34 (Z : zr_Z) : KR Z (f_34 Z) := by
  unfold f_34; exact (KR.trans (KR_zcut (KR_zfill (KR.refl Z) (by decide)) (by decide)) (KRk_g_34_22 _ _ _))

