/-! the mathematics; written by wip/whole/m2parts.py -/
def KQ (Z Z' : zr_Z) : Prop := Z'.1 = Z.1 ∧ Z'.2.1 = Z.2.1 ∧ Z'.2.2.2.2 = Z.2.2.2.2 ∧ Z'.2.2.1 138 = Z.2.2.1 138 ∧ Z'.2.2.1 172 = Z.2.2.1 172 ∧ zf Z' 49 = zf Z 49 ∧ zf Z' 0 = zf Z 0
theorem KQ.refl (Z : zr_Z) : KQ Z Z := ⟨rfl, rfl, rfl, rfl, rfl, rfl, rfl⟩
theorem KQ.trans {Z D E : zr_Z} (h : KQ Z D) (g : KQ D E) : KQ Z E := ⟨g.1.trans h.1, g.2.1.trans h.2.1, g.2.2.1.trans h.2.2.1, g.2.2.2.1.trans h.2.2.2.1, g.2.2.2.2.1.trans h.2.2.2.2.1, g.2.2.2.2.2.1.trans h.2.2.2.2.2.1, g.2.2.2.2.2.2.trans h.2.2.2.2.2.2⟩
def KQs (Z : zr_Z) (x : Option zr_Z) : Prop := ∀ r, x = some r → KQ Z r
def KQp {α : Type} (Z : zr_Z) (x : Option (α × zr_Z)) : Prop := ∀ r, x = some r → KQ Z r.2
theorem KQ_nones {Z : zr_Z} : KQs Z none := fun r h => absurd h (by simp)
theorem KQ_nonep {α : Type} {Z : zr_Z} : KQp Z (none : Option (α × zr_Z)) := fun r h => absurd h (by simp)
theorem KQ_somes {Z e : zr_Z} (h : KQ Z e) : KQs Z (some e) := fun r hr => by rw [← Option.some.inj hr]; exact h
theorem KQ_somep {α : Type} {Z : zr_Z} {e : α × zr_Z} (h : KQ Z e.2) : KQp Z (some e) := fun r hr => by rw [← Option.some.inj hr]; exact h
theorem KQ_if {Z a b : zr_Z} {c : Prop} [Decidable c] (ha : KQ Z a) (hb : KQ Z b) : KQ Z (if c then a else b) := by
  by_cases h : c
  · rw [if_pos h]; exact ha
  · rw [if_neg h]; exact hb
theorem KQ_if2 {α : Type} {Z : zr_Z} {a b : α × zr_Z} {c : Prop} [Decidable c] (ha : KQ Z a.2) (hb : KQ Z b.2) : KQ Z (if c then a else b).2 := by
  by_cases h : c
  · rw [if_pos h]; exact ha
  · rw [if_neg h]; exact hb
theorem KQ_ifos {Z : zr_Z} {a b : Option zr_Z} {c : Prop} [Decidable c] (ha : KQs Z a) (hb : KQs Z b) : KQs Z (if c then a else b) := by
  by_cases h : c
  · rw [if_pos h]; exact ha
  · rw [if_neg h]; exact hb
theorem KQ_ifop {α : Type} {Z : zr_Z} {a b : Option (α × zr_Z)} {c : Prop} [Decidable c] (ha : KQp Z a) (hb : KQp Z b) : KQp Z (if c then a else b) := by
  by_cases h : c
  · rw [if_pos h]; exact ha
  · rw [if_neg h]; exact hb
theorem KQ_bvs {α : Type} {Z : zr_Z} {x : Option α} {f : α → Option zr_Z} (h : ∀ u, KQs Z (f u)) : KQs Z (Option.bind x f) := by
  cases x with
  | none => exact KQ_nones
  | some u => exact h u
theorem KQ_bvp {α β : Type} {Z : zr_Z} {x : Option α} {f : α → Option (β × zr_Z)} (h : ∀ u, KQp Z (f u)) : KQp Z (Option.bind x f) := by
  cases x with
  | none => exact KQ_nonep
  | some u => exact h u
theorem KQ_bss {Z S : zr_Z} {x : Option zr_Z} {f : zr_Z → Option zr_Z} (hS : KQ Z S) (hx : KQs S x) (h : ∀ u, KQ Z u → KQs Z (f u)) : KQs Z (Option.bind x f) := by
  cases x with
  | none => exact KQ_nones
  | some u => exact h u (hS.trans (hx u rfl))
theorem KQ_bsp {β : Type} {Z S : zr_Z} {x : Option zr_Z} {f : zr_Z → Option (β × zr_Z)} (hS : KQ Z S) (hx : KQs S x) (h : ∀ u, KQ Z u → KQp Z (f u)) : KQp Z (Option.bind x f) := by
  cases x with
  | none => exact KQ_nonep
  | some u => exact h u (hS.trans (hx u rfl))
theorem KQ_bps {α : Type} {Z S : zr_Z} {x : Option (α × zr_Z)} {f : α × zr_Z → Option zr_Z} (hS : KQ Z S) (hx : KQp S x) (h : ∀ u : α × zr_Z, KQ Z u.2 → KQs Z (f u)) : KQs Z (Option.bind x f) := by
  cases x with
  | none => exact KQ_nones
  | some u => exact h u (hS.trans (hx u rfl))
theorem KQ_bpp {α β : Type} {Z S : zr_Z} {x : Option (α × zr_Z)} {f : α × zr_Z → Option (β × zr_Z)} (hS : KQ Z S) (hx : KQp S x) (h : ∀ u : α × zr_Z, KQ Z u.2 → KQp Z (f u)) : KQp Z (Option.bind x f) := by
  cases x with
  | none => exact KQ_nonep
  | some u => exact h u (hS.trans (hx u rfl))
theorem KQ_loss {Z v : zr_Z} {k : zr_Z → Option zr_Z} (hv : KQ Z v) (h : ∀ x, KQ Z x → KQs Z (k x)) : KQs Z (olet v k) := h v hv
theorem KQ_losp {β : Type} {Z v : zr_Z} {k : zr_Z → Option (β × zr_Z)} (hv : KQ Z v) (h : ∀ x, KQ Z x → KQp Z (k x)) : KQp Z (olet v k) := h v hv
theorem KQ_lovs {α : Type} {Z : zr_Z} {v : α} {k : α → Option zr_Z} (h : ∀ x, KQs Z (k x)) : KQs Z (olet v k) := h v
theorem KQ_lovp {α β : Type} {Z : zr_Z} {v : α} {k : α → Option (β × zr_Z)} (h : ∀ x, KQp Z (k x)) : KQp Z (olet v k) := h v
theorem KQ_ts {Z S : zr_Z} {x : Option zr_Z} (hS : KQ Z S) (hx : KQs S x) : KQs Z x := fun r hr => hS.trans (hx r hr)
theorem KQ_tp {α : Type} {Z S : zr_Z} {x : Option (α × zr_Z)} (hS : KQ Z S) (hx : KQp S x) : KQp Z x := fun r hr => hS.trans (hx r hr)

theorem KQ_zmf {Z D : zr_Z} {f : Nat} {x : Int32} (h : KQ Z D) (hf : ¬ f = 49 ∧ ¬ f = 0) : KQ Z (zmf D f x) := ⟨h.1, h.2.1, h.2.2.1, h.2.2.2.1, h.2.2.2.2.1, (zf_other D x (fun e => hf.1 e.symm)).trans h.2.2.2.2.2.1, (zf_other D x (fun e => hf.2 e.symm)).trans h.2.2.2.2.2.2⟩
theorem KQ_zar {Z D : zr_Z} {j : Nat} {i x : Int32} (h : KQ Z D) (hj : ¬ j = 138 ∧ ¬ j = 172) : KQ Z (zar D j i x) := ⟨h.1, h.2.1, h.2.2.1, (mup_oth D.2.2.1 _ (fun e => hj.1 e.symm)).trans h.2.2.2.1, (mup_oth D.2.2.1 _ (fun e => hj.2 e.symm)).trans h.2.2.2.2.1, h.2.2.2.2.2.1, h.2.2.2.2.2.2⟩
theorem KQk_g_134_208 : ∀ (n : Nat) (Z : zr_Z) (fi : Int32) (x2 : Int32), KQs Z (g_134_208 n Z fi x2)
  | 0, Z, _, _ => by
    unfold g_134_208; exact KQ_nones
  | n + 1, Z, fi, x2 => by
    rw [g_134_208]; exact (KQ_ifos (KQ_somes (KQ.refl Z)) (KQ_ifos (KQ_ts (KQ_zar (KQ.refl Z) (by decide)) (KQk_g_134_208 _ _ _ _)) KQ_nones))

theorem KQk_o_125 (Z : zr_Z) (wh : Int32) (le : Int32) : KQp Z (o_125 Z wh le) := by
  unfold o_125; exact (KQ_ifop (KQ_ifop (KQ_ifop (KQ_ifop (KQ_ifop (KQ_ifop (KQ_ifop (KQ_somep (KQ_zar (KQ_zar (KQ_zar (KQ_zar (KQ_zar (KQ_zar (KQ_zar (KQ_zmf (KQ.refl Z) (by decide)) (by decide)) (by decide)) (by decide)) (by decide)) (by decide)) (by decide)) (by decide))) KQ_nonep) KQ_nonep) KQ_nonep) KQ_nonep) KQ_nonep) KQ_nonep) KQ_nonep)

theorem KQk_o_126 (Z : zr_Z) (xx : Int32) (be : Int32) : KQs Z (o_126 Z xx be) := by
  unfold o_126; exact (KQ_ifos (KQ_ifos (KQ_ifos (KQ_ifos (KQ_ifos (KQ_somes (KQ_zmf (KQ_zar (KQ_zar (KQ_zar (KQ.refl Z) (by decide)) (by decide)) (by decide)) (by decide))) (KQ_ifos (KQ_somes (KQ_zar (KQ_zar (KQ_zar (KQ_zar (KQ.refl Z) (by decide)) (by decide)) (by decide)) (by decide))) KQ_nones)) KQ_nones) KQ_nones) KQ_nones) KQ_nones)

theorem KQk_g_134_177 : ∀ (n : Nat) (Y : zr_Z) (Z : zr_Z) (fi : Int32) (x2 : Int32) (y3 : Bool) (x6 : Int32) (K34 : (zr_Z → Int32 → Bool → Option zr_Z)), KQ Y Z → (∀ (a0 : zr_Z) (a1 : Int32) (a2 : Bool), KQ Y a0 → KQs Y (K34 a0 a1 a2)) → KQs Y (g_134_177 n Z fi x2 y3 x6 K34)
  | 0, Y, _, _, _, _, _, _, _, _ => by
    unfold g_134_177; exact KQ_nones
  | n + 1, Y, Z, fi, x2, y3, x6, K34, hZ, hK => by
    rw [g_134_177]; exact (KQ_ifos (hK _ _ _ hZ) (KQ_ifos (KQk_g_134_177 _ _ _ _ _ _ _ _ (KQ_zar hZ (by decide)) hK) KQ_nones))

theorem KQk_g_134_34 : ∀ (n : Nat) (Y : zr_Z) (Z : zr_Z) (fi : Int32) (x2 : Int32) (y3 : Bool) (K2 : (zr_Z → Int32 → Option zr_Z)), KQ Y Z → (∀ (a0 : zr_Z) (a1 : Int32), KQ Y a0 → KQs Y (K2 a0 a1)) → KQs Y (g_134_34 n Z fi x2 y3 K2)
  | 0, Y, _, _, _, _, _, _, _ => by
    unfold g_134_34; exact KQ_nones
  | n + 1, Y, Z, fi, x2, y3, K2, hZ, hK => by
    rw [g_134_34]; exact (KQ_ifos (KQ_ifos (KQ_ifos (hK _ _ hZ) (KQ_bvs (fun u4 => (KQ_lovs (fun y8 => (KQ_ifos (KQ_ifos (KQ_ifos (KQ_lovs (fun x16 => (KQ_ifos (KQ_ifos (KQ_ifos (KQ_ifos (KQ_bps (KQ_zar (KQ_zar hZ (by decide)) (by decide)) (KQk_o_125 _ _ _) (fun u24 hu24 => (KQ_ifos (KQ_bss hu24 (KQk_o_126 _ _ _) (fun u26 hu26 => (KQ_bps hu26 (KQk_o_125 _ _ _) (fun u27 hu27 => (KQ_ifos (KQ_ifos (KQ_bss hu27 (KQk_o_126 _ _ _) (fun u30 hu30 => (KQk_g_134_177 _ _ _ _ _ _ _ _ hu30 (fun Z x2 y3 hZ => (KQk_g_134_34 _ _ _ _ _ _ _ hZ hK))))) KQ_nones) KQ_nones))))) KQ_nones))) KQ_nones) KQ_nones) KQ_nones) KQ_nones))) KQ_nones) KQ_nones) (KQk_g_134_34 _ _ _ _ _ _ _ hZ hK))))))) KQ_nones) (hK _ _ hZ))

theorem KQk_g_134_2 : ∀ (n : Nat) (Z : zr_Z) (fi : Int32) (x2 : Int32), KQs Z (g_134_2 n Z fi x2)
  | 0, Z, _, _ => by
    unfold g_134_2; exact KQ_nones
  | n + 1, Z, fi, x2 => by
    rw [g_134_2]; exact (KQ_ifos (KQ_ts (KQ.refl Z) (KQk_g_134_208 _ _ _ _)) (KQ_ifos (KQ_ifos (KQ_lovs (fun y8 => (KQk_g_134_34 _ _ _ _ _ _ _ (KQ.refl Z) (fun Z x2 hZ => (KQ_ts hZ (KQk_g_134_2 _ _ _ _)))))) KQ_nones) KQ_nones))

theorem KQk_o_134 (Z : zr_Z) (fi : Int32) : KQs Z (o_134 Z fi) := by
  unfold o_134; exact (KQ_ts (KQ.refl Z) (KQk_g_134_2 _ _ _ _))

theorem KQk_o_148 (Z : zr_Z) (nu : Int32) (pl : Int32) : KQs Z (o_148 Z nu pl) := by
  unfold o_148; exact (KQ_somes (KQ_zmf (KQ_zmf (KQ.refl Z) (by decide)) (by decide)))

theorem KQk_o_150 (Z : zr_Z) (wh : Int32) (ho : Int32) : KQp Z (o_150 Z wh ho) := by
  unfold o_150; exact (KQ_ifop (KQ_ifop (KQ_ifop (KQ_ifop (KQ_ifop (KQ_ifop (KQ_ifop (KQ_ifop (KQ_ifop (KQ_ifop (KQ_ifop (KQ_somep (KQ_zmf (KQ_zar (KQ_zar (KQ_zar (KQ_zar (KQ_zar (KQ_zar (KQ_zar (KQ_zar (KQ.refl Z) (by decide)) (by decide)) (by decide)) (by decide)) (by decide)) (by decide)) (by decide)) (by decide)) (by decide))) (KQ_ifop (KQ_somep (KQ_zmf (KQ_zar (KQ_zar (KQ_zar (KQ_zar (KQ_zar (KQ_zar (KQ_zar (KQ_zar (KQ.refl Z) (by decide)) (by decide)) (by decide)) (by decide)) (by decide)) (by decide)) (by decide)) (by decide)) (by decide))) (KQ_bsp (KQ_zar (KQ_zar (KQ_zar (KQ_zar (KQ_zar (KQ_zar (KQ_zar (KQ_zar (KQ.refl Z) (by decide)) (by decide)) (by decide)) (by decide)) (by decide)) (by decide)) (by decide)) (by decide)) (KQk_o_148 _ _ _) (fun u16 hu16 => (KQ_somep (KQ_zmf hu16 (by decide))))))) KQ_nonep) KQ_nonep) KQ_nonep) KQ_nonep) KQ_nonep) KQ_nonep) KQ_nonep) KQ_nonep) KQ_nonep) KQ_nonep)

theorem KQk_o_122 (Z : zr_Z) (c : Int32) : KQs Z (o_122 Z c) := by
  unfold o_122; exact (KQ_ifos (KQ_somes (KQ_zmf (KQ_zar (KQ.refl Z) (by decide)) (by decide))) KQ_nones)

theorem KQk_o_151 (Z : zr_Z) (c : Int32) (a : Int32) (ho : Int32) : KQp Z (o_151 Z c a ho) := by
  unfold o_151; exact (KQ_ifop (KQ_bsp (KQ.refl Z) (KQk_o_122 _ _) (fun u2 hu2 => (KQ_ifop (KQ_ifop (KQ_somep (KQ_zar hu2 (by decide))) KQ_nonep) KQ_nonep))) (KQ_bpp (KQ.refl Z) (KQk_o_150 _ _ _) (fun u5 hu5 => (KQ_ifop (KQ_bsp (KQ_zar hu5 (by decide)) (KQk_o_122 _ _) (fun u7 hu7 => (KQ_ifop (KQ_ifop (KQ_somep (KQ_zar hu7 (by decide))) KQ_nonep) KQ_nonep))) KQ_nonep))))

theorem KQk_g_152_65 : ∀ (n : Nat) (Y : zr_Z) (Z : zr_Z) (x1 : Int32) (x2 : Int32) (x3 : Int32) (x4 : Int32) (x6 : Int32) (K19 : (zr_Z → Int32 → Int32 → Int32 → Int32 → Option zr_Z)), KQ Y Z → (∀ (a0 : zr_Z) (a1 : Int32) (a2 : Int32) (a3 : Int32) (a4 : Int32), KQ Y a0 → KQs Y (K19 a0 a1 a2 a3 a4)) → KQs Y (g_152_65 n Z x1 x2 x3 x4 x6 K19)
  | 0, Y, _, _, _, _, _, _, _, _, _ => by
    unfold g_152_65; exact KQ_nones
  | n + 1, Y, Z, x1, x2, x3, x4, x6, K19, hZ, hK => by
    rw [g_152_65]; exact (KQ_ifos (KQ_ifos (KQ_ifos (hK _ _ _ _ _ hZ) KQ_nones) (KQ_ifos (KQ_bps hZ (KQk_o_151 _ _ _ _) (fun u5 hu5 => (KQk_g_152_65 _ _ _ _ _ _ _ _ _ hu5 hK))) KQ_nones)) KQ_nones)

theorem KQk_g_152_19 : ∀ (n : Nat) (Z : zr_Z) (x1 : Int32) (x2 : Int32) (x3 : Int32) (x4 : Int32), KQs Z (g_152_19 n Z x1 x2 x3 x4)
  | 0, Z, _, _, _, _ => by
    unfold g_152_19; exact KQ_nones
  | n + 1, Z, x1, x2, x3, x4 => by
    rw [g_152_19]; exact (KQ_ifos (KQ_somes (KQ.refl Z)) (KQ_ifos (KQ_ifos (KQ_ifos (KQ_ifos (KQ_ifos (KQ_bps (KQ.refl Z) (KQk_o_150 _ _ _) (fun u7 hu7 => (KQ_ifos (KQ_ifos (KQ_ifos (KQ_ifos (KQ_ifos (KQ_ifos (KQ_ifos (KQ_ifos (KQ_ifos (KQ_ifos (KQ_lovs (fun x21 => (KQ_ifos (KQ_ts (KQ_zar (KQ_zar (KQ_zar (KQ_zar (KQ_zar hu7 (by decide)) (by decide)) (by decide)) (by decide)) (by decide)) (KQk_g_152_19 _ _ _ _ _ _)) KQ_nones))) KQ_nones) KQ_nones) KQ_nones) KQ_nones) KQ_nones) KQ_nones) KQ_nones) KQ_nones) KQ_nones) KQ_nones))) (KQ_ifos (KQ_ifos (KQ_ts (KQ.refl Z) (KQk_g_152_19 _ _ _ _ _ _)) KQ_nones) KQ_nones)) (KQ_ifos (KQ_ifos (KQ_bps (KQ.refl Z) (KQk_o_151 _ _ _ _) (fun u27 hu27 => (KQ_ifos (KQ_ts hu27 (KQk_g_152_19 _ _ _ _ _ _)) KQ_nones))) (KQ_bps (KQ.refl Z) (KQk_o_151 _ _ _ _) (fun u29 hu29 => (KQ_bps hu29 (KQk_o_151 _ _ _ _) (fun u30 hu30 => (KQ_ifos (KQ_ts hu30 (KQk_g_152_19 _ _ _ _ _ _)) KQ_nones)))))) KQ_nones)) (KQk_g_152_65 _ _ _ _ _ _ _ _ _ (KQ.refl Z) (fun Z x1 x2 x3 x4 hZ => (KQ_ts hZ (KQk_g_152_19 _ _ _ _ _ _))))) (KQ_ifos (KQ_bps (KQ.refl Z) (KQk_o_151 _ _ _ _) (fun u33 hu33 => (KQ_ifos (KQ_ts hu33 (KQk_g_152_19 _ _ _ _ _ _)) KQ_nones))) KQ_nones)) KQ_nones))

theorem KQk_o_152 (Z : zr_Z) : KQs Z (o_152 Z) := by
  unfold o_152; exact (KQ_ifos (KQ_ts (KQ_zmf (KQ.refl Z) (by decide)) (KQk_g_152_19 _ _ _ _ _ _)) KQ_nones)

theorem KQk_o_127 (Z : zr_Z) (wh : Int32) (le : Int32) : KQp Z (o_127 Z wh le) := by
  unfold o_127; exact (KQ_bpp (KQ.refl Z) (KQk_o_125 _ _ _) (fun u1 hu1 => (KQ_bsp hu1 (KQk_o_126 _ _ _) (fun u2 hu2 => (KQ_somep hu2)))))

theorem KQk_o_129 (Z : zr_Z) : KQs Z (o_129 Z) := by
  unfold o_129; exact (KQ_ifos (KQ_ifos (KQ_somes (KQ_zar (KQ_zmf (KQ.refl Z) (by decide)) (by decide))) KQ_nones) KQ_nones)

theorem KQk_g_147_24 : ∀ (n : Nat) (Z : zr_Z) (k : Int32) (x2 : Int32) (x3 : Int32), KQp Z (g_147_24 n Z k x2 x3)
  | 0, Z, _, _, _ => by
    unfold g_147_24; exact KQ_nonep
  | n + 1, Z, k, x2, x3 => by
    rw [g_147_24]; exact (KQ_ifop (KQ_ifop (KQ_bpp (KQ.refl Z) (KQk_o_127 _ _ _) (fun u5 hu5 => (KQ_ifop (KQ_somep hu5) KQ_nonep))) (KQ_bsp (KQ.refl Z) (KQk_o_129 _) (fun u6 hu6 => (KQ_ifop (KQ_tp hu6 (KQk_g_147_24 _ _ _ _ _)) KQ_nonep)))) KQ_nonep)

theorem KQk_g_147_2 : ∀ (n : Nat) (Z : zr_Z) (k : Int32) (x2 : Int32), KQp Z (g_147_2 n Z k x2)
  | 0, Z, _, _ => by
    unfold g_147_2; exact KQ_nonep
  | n + 1, Z, k, x2 => by
    rw [g_147_2]; exact (KQ_ifop (KQ_ifop (KQ_tp (KQ.refl Z) (KQk_g_147_24 _ _ _ _ _)) (KQ_tp (KQ.refl Z) (KQk_g_147_2 _ _ _ _))) KQ_nonep)

theorem KQk_o_147 (Z : zr_Z) (k : Int32) : KQp Z (o_147 Z k) := by
  unfold o_147; exact (KQ_ifop (KQ_tp (KQ.refl Z) (KQk_g_147_2 _ _ _ _)) KQ_nonep)

theorem KQk_g_113_267 : ∀ (n : Nat) (Y : zr_Z) (Z : zr_Z) (k : Int32) (x2 : Int32) (x3 : Int32) (x4 : Int32) (y5 : Bool) (K239 : (zr_Z → Int32 → Option (Bool × zr_Z))), KQ Y Z → (∀ (a0 : zr_Z) (a1 : Int32), KQ Y a0 → KQp Y (K239 a0 a1)) → KQp Y (g_113_267 n Z k x2 x3 x4 y5 K239)
  | 0, Y, _, _, _, _, _, _, _, _, _ => by
    unfold g_113_267; exact KQ_nonep
  | n + 1, Y, Z, k, x2, x3, x4, y5, K239, hZ, hK => by
    rw [g_113_267]; exact (KQ_ifop (KQ_ifop (KQ_ifop (KQ_ifop (KQ_ifop (hK _ _ hZ) (KQ_somep (KQ_zmf (KQ_zmf hZ (by decide)) (by decide)))) (hK _ _ hZ)) (KQ_ifop (KQ_lovp (fun y10 => (KQk_g_113_267 _ _ _ _ _ _ _ _ _ hZ hK))) KQ_nonep)) KQ_nonep) KQ_nonep)

theorem KQk_g_113_239 : ∀ (n : Nat) (Z : zr_Z) (k : Int32) (x2 : Int32), KQp Z (g_113_239 n Z k x2)
  | 0, Z, _, _ => by
    unfold g_113_239; exact KQ_nonep
  | n + 1, Z, k, x2 => by
    rw [g_113_239]; exact (KQ_ifop (KQ_ifop (KQ_ifop (KQ_somep (KQ.refl Z)) (KQ_ifop (KQk_g_113_267 _ _ _ _ _ _ _ _ _ (KQ.refl Z) (fun Z x2 hZ => (KQ_tp hZ (KQk_g_113_239 _ _ _ _)))) KQ_nonep)) KQ_nonep) KQ_nonep)

theorem KQk_g_113_74 : ∀ (n : Nat) (Z : zr_Z) (k : Int32) (y2 : Bool) (x3 : Int32) (x4 : Int32) (x5 : Int32), KQp Z (g_113_74 n Z k y2 x3 x4 x5)
  | 0, Z, _, _, _, _, _ => by
    unfold g_113_74; exact KQ_nonep
  | n + 1, Z, k, y2, x3, x4, x5 => by
    rw [g_113_74]; exact (KQ_ifop (KQ_ifop (KQ_somep (KQ_zmf (KQ_zmf (KQ.refl Z) (by decide)) (by decide))) (KQ_ifop (KQ_ifop (KQ_somep (KQ_zmf (KQ_zmf (KQ.refl Z) (by decide)) (by decide))) (KQ_lovp (fun x35 => (KQ_tp (KQ.refl Z) (KQk_g_113_74 _ _ _ _ _ _ _))))) (KQ_ifop (KQ_lovp (fun x40 => (KQ_tp (KQ.refl Z) (KQk_g_113_74 _ _ _ _ _ _ _)))) (KQ_somep (KQ_zmf (KQ_zmf (KQ.refl Z) (by decide)) (by decide)))))) KQ_nonep)

theorem KQk_o_113 (Z : zr_Z) (k : Int32) : KQp Z (o_113 Z k) := by
  unfold o_113; exact (KQ_ifop (KQ_ifop (KQ_ifop (KQ_tp (KQ.refl Z) (KQk_g_113_239 _ _ _ _)) (KQ_lovp (fun y7 => (KQ_lovp (fun x11 => (KQ_tp (KQ.refl Z) (KQk_g_113_74 _ _ _ _ _ _ _))))))) (KQ_somep (KQ.refl Z))) KQ_nonep)

theorem KQk_g_137_8 : ∀ (n : Nat) (Z : zr_Z) (k : Int32) (x2 : Int32) (x3 : Int32), KQp Z (g_137_8 n Z k x2 x3)
  | 0, Z, _, _, _ => by
    unfold g_137_8; exact KQ_nonep
  | n + 1, Z, k, x2, x3 => by
    rw [g_137_8]; exact (KQ_ifop (KQ_ifop (KQ_lovp (fun y2 => (KQ_lovp (fun y3 => (KQ_lovp (fun y4 => (KQ_lovp (fun y5 => (KQ_bpp (KQ.refl Z) (KQk_o_127 _ _ _) (fun u6 hu6 => (KQ_ifop (KQ_ifop (KQ_ifop (KQ_ifop (KQ_ifop (KQ_ifop (KQ_ifop (KQ_losp (KQ_zar (KQ_zar (KQ_zar (KQ_zar (KQ_zar (KQ_zar hu6 (by decide)) (by decide)) (by decide)) (by decide)) (by decide)) (by decide)) (fun Z25 hZ25 => (KQ_somep (KQ_zmf hZ25 (by decide))))) KQ_nonep) KQ_nonep) KQ_nonep) KQ_nonep) KQ_nonep) KQ_nonep) KQ_nonep))))))))))) (KQ_tp (KQ.refl Z) (KQk_g_137_8 _ _ _ _ _))) KQ_nonep)

theorem KQk_o_137 (Z : zr_Z) (k : Int32) : KQp Z (o_137 Z k) := by
  unfold o_137; exact (KQ_ifop (KQ_tp (KQ.refl Z) (KQk_g_137_8 _ _ _ _ _)) KQ_nonep)

theorem KQk_g_142_210 : ∀ (n : Nat) (Z : zr_Z) (k : Int32) (x2 : Int32) (x4 : Int32), KQp Z (g_142_210 n Z k x2 x4)
  | 0, Z, _, _, _ => by
    unfold g_142_210; exact KQ_nonep
  | n + 1, Z, k, x2, x4 => by
    rw [g_142_210]; exact (KQ_ifop (KQ_ifop (KQ_tp (KQ.refl Z) (KQk_g_142_210 _ _ _ _ _)) (KQ_lovp (fun y11 => (KQ_somep (KQ_zmf (KQ.refl Z) (by decide)))))) KQ_nonep)

theorem KQk_g_142_166 : ∀ (n : Nat) (Z : zr_Z) (k : Int32) (x2 : Int32), KQp Z (g_142_166 n Z k x2)
  | 0, Z, _, _ => by
    unfold g_142_166; exact KQ_nonep
  | n + 1, Z, k, x2 => by
    rw [g_142_166]; exact (KQ_ifop (KQ_ifop (KQ_tp (KQ.refl Z) (KQk_g_142_166 _ _ _ _)) (KQ_ifop (KQ_somep (KQ.refl Z)) (KQ_ifop (KQ_tp (KQ.refl Z) (KQk_g_142_210 _ _ _ _ _)) (KQ_somep (KQ.refl Z))))) KQ_nonep)

theorem KQk_g_142_99 : ∀ (n : Nat) (Z : zr_Z) (k : Int32) (x2 : Int32), KQp Z (g_142_99 n Z k x2)
  | 0, Z, _, _ => by
    unfold g_142_99; exact KQ_nonep
  | n + 1, Z, k, x2 => by
    rw [g_142_99]; exact (KQ_ifop (KQ_ifop (KQ_ifop (KQ_tp (KQ.refl Z) (KQk_g_142_166 _ _ _ _)) (KQ_somep (KQ_zmf (KQ.refl Z) (by decide)))) (KQ_ifop (KQ_ifop (KQ_tp (KQ.refl Z) (KQk_g_142_166 _ _ _ _)) (KQ_somep (KQ_zmf (KQ.refl Z) (by decide)))) (KQ_ifop (KQ_ifop (KQ_tp (KQ.refl Z) (KQk_g_142_166 _ _ _ _)) (KQ_somep (KQ_zmf (KQ.refl Z) (by decide)))) (KQ_ifop (KQ_ifop (KQ_tp (KQ.refl Z) (KQk_g_142_166 _ _ _ _)) (KQ_somep (KQ_zmf (KQ.refl Z) (by decide)))) (KQ_tp (KQ.refl Z) (KQk_g_142_99 _ _ _ _)))))) KQ_nonep)

theorem KQk_g_142_4 : ∀ (n : Nat) (Z : zr_Z) (k : Int32) (x2 : Int32), KQp Z (g_142_4 n Z k x2)
  | 0, Z, _, _ => by
    unfold g_142_4; exact KQ_nonep
  | n + 1, Z, k, x2 => by
    rw [g_142_4]; exact (KQ_ifop (KQ_ifop (KQ_tp (KQ.refl Z) (KQk_g_142_4 _ _ _ _)) (KQ_ifop (KQ_ifop (KQ_tp (KQ.refl Z) (KQk_g_142_166 _ _ _ _)) (KQ_ifop (KQ_tp (KQ.refl Z) (KQk_g_142_166 _ _ _ _)) (KQ_ifop (KQ_tp (KQ.refl Z) (KQk_g_142_166 _ _ _ _)) (KQ_tp (KQ.refl Z) (KQk_g_142_99 _ _ _ _))))) (KQ_ifop (KQ_tp (KQ.refl Z) (KQk_g_142_4 _ _ _ _)) (KQ_ifop (KQ_tp (KQ.refl Z) (KQk_g_142_4 _ _ _ _)) (KQ_ifop (KQ_tp (KQ.refl Z) (KQk_g_142_4 _ _ _ _)) (KQ_ifop (KQ_ifop (KQ_tp (KQ.refl Z) (KQk_g_142_166 _ _ _ _)) (KQ_ifop (KQ_tp (KQ.refl Z) (KQk_g_142_166 _ _ _ _)) (KQ_ifop (KQ_tp (KQ.refl Z) (KQk_g_142_166 _ _ _ _)) (KQ_tp (KQ.refl Z) (KQk_g_142_99 _ _ _ _))))) (KQ_tp (KQ.refl Z) (KQk_g_142_4 _ _ _ _)))))))) KQ_nonep)

theorem KQk_o_142 (Z : zr_Z) (k : Int32) : KQp Z (o_142 Z k) := by
  unfold o_142; exact (KQ_ifop (KQ_tp (KQ.refl Z) (KQk_g_142_4 _ _ _ _)) KQ_nonep)

theorem KQk_g_128_2 : ∀ (n : Nat) (Z : zr_Z) (k : Int32) (n_ : Int32) (x3 : Int32), KQs Z (g_128_2 n Z k n_ x3)
  | 0, Z, _, _, _ => by
    unfold g_128_2; exact KQ_nones
  | n + 1, Z, k, n_, x3 => by
    rw [g_128_2]; exact (KQ_ifos (KQ_ifos (KQ_somes (KQ.refl Z)) (KQ_bps (KQ.refl Z) (KQk_o_127 _ _ _) (fun u2 hu2 => (KQ_ifos (KQ_ts hu2 (KQk_g_128_2 _ _ _ _ _)) KQ_nones)))) KQ_nones)

theorem KQk_o_128 (Z : zr_Z) (k : Int32) (n_ : Int32) : KQs Z (o_128 Z k n_) := by
  unfold o_128; exact (KQ_ifos (KQ_ts (KQ.refl Z) (KQk_g_128_2 _ _ _ _ _)) KQ_nones)

theorem KQk_g_138_2 : ∀ (n : Nat) (Z : zr_Z) (x1 : Int32), KQs Z (g_138_2 n Z x1)
  | 0, Z, _ => by
    unfold g_138_2; exact KQ_nones
  | n + 1, Z, x1 => by
    rw [g_138_2]; exact (KQ_ifos (KQ_somes (KQ.refl Z)) (KQ_ifos (KQ_ifos (KQ_ifos (KQ_ts (KQ_zar (KQ.refl Z) (by decide)) (KQk_g_138_2 _ _ _)) KQ_nones) KQ_nones) KQ_nones))

theorem KQk_o_138 (Z : zr_Z) : KQs Z (o_138 Z) := by
  unfold o_138; exact (KQ_ts (KQ.refl Z) (KQk_g_138_2 _ _ _))

theorem KQk_g_145_110 : ∀ (n : Nat) (Z : zr_Z) (k : Int32) (x2 : Int32) (x3 : Int32) (x4 : Int32), KQp Z (g_145_110 n Z k x2 x3 x4)
  | 0, Z, _, _, _, _ => by
    unfold g_145_110; exact KQ_nonep
  | n + 1, Z, k, x2, x3, x4 => by
    rw [g_145_110]; exact (KQ_ifop (KQ_ifop (KQ_ifop (KQ_ifop (KQ_bsp (KQ_zar (KQ.refl Z) (by decide)) (KQk_o_128 _ _ _) (fun u4 hu4 => (KQ_ifop (KQ_bpp hu4 (KQk_o_127 _ _ _) (fun u5 hu5 => (KQ_ifop (KQ_bsp hu5 (KQk_o_138 _) (fun u6 hu6 => (KQ_ifop (KQ_somep hu6) KQ_nonep))) KQ_nonep))) KQ_nonep))) KQ_nonep) KQ_nonep) (KQ_bsp (KQ.refl Z) (KQk_o_122 _ _) (fun u7 hu7 => (KQ_ifop (KQ_tp hu7 (KQk_g_145_110 _ _ _ _ _ _)) KQ_nonep)))) KQ_nonep)

theorem KQk_o_145 (Z : zr_Z) (k : Int32) : KQp Z (o_145 Z k) := by
  unfold o_145; exact (KQ_ifop (KQ_bpp (KQ.refl Z) (KQk_o_142 _ _) (fun u1 hu1 => (KQ_ifop (KQ_ifop (KQ_bpp hu1 (KQk_o_127 _ _ _) (fun u3 hu3 => (KQ_ifop (KQ_ifop (KQ_ifop (KQ_tp (KQ_zar hu3 (by decide)) (KQk_g_145_110 _ _ _ _ _ _)) (KQ_bsp (KQ_zar hu3 (by decide)) (KQk_o_122 _ _) (fun u6 hu6 => (KQ_ifop (KQ_bsp hu6 (KQk_o_122 _ _) (fun u7 hu7 => (KQ_ifop (KQ_bsp hu7 (KQk_o_122 _ _) (fun u8 hu8 => (KQ_ifop (KQ_bsp hu8 (KQk_o_122 _ _) (fun u9 hu9 => (KQ_ifop (KQ_bsp hu9 (KQk_o_122 _ _) (fun u10 hu10 => (KQ_ifop (KQ_bsp hu10 (KQk_o_122 _ _) (fun u11 hu11 => (KQ_ifop (KQ_bsp hu11 (KQk_o_122 _ _) (fun u12 hu12 => (KQ_ifop (KQ_tp hu12 (KQk_g_145_110 _ _ _ _ _ _)) KQ_nonep))) KQ_nonep))) KQ_nonep))) KQ_nonep))) KQ_nonep))) KQ_nonep))) KQ_nonep)))) KQ_nonep) KQ_nonep))) (KQ_bvp (fun u13 => (KQ_ifop (KQ_bsp hu1 (KQk_o_148 _ _ _) (fun u15 hu15 => (KQ_ifop (KQ_bpp hu15 (KQk_o_127 _ _ _) (fun u16 hu16 => (KQ_ifop (KQ_somep hu16) KQ_nonep))) KQ_nonep))) (KQ_bpp hu1 (KQk_o_127 _ _ _) (fun u17 hu17 => (KQ_ifop (KQ_somep hu17) KQ_nonep))))))) KQ_nonep))) KQ_nonep)

theorem KQk_o_139 (Z : zr_Z) (k : Int32) (im : Bool) : KQp Z (o_139 Z k im) := by
  unfold o_139; exact (KQ_bpp (KQ.refl Z) (KQk_o_127 _ _ _) (fun u4 hu4 => (KQ_ifop (KQ_ifop (KQ_ifop (KQ_ifop (KQ_ifop (KQ_losp (KQ_zmf (KQ_zar (KQ_zar (KQ_zar (KQ_zar (KQ_zar hu4 (by decide)) (by decide)) (by decide)) (by decide)) (by decide)) (by decide)) (fun Z13 hZ13 => (KQ_ifop (KQ_ifop (KQ_somep (KQ_zmf (KQ_zar hZ13 (by decide)) (by decide))) KQ_nonep) KQ_nonep))) KQ_nonep) KQ_nonep) KQ_nonep) KQ_nonep) KQ_nonep)))

theorem KQk_g_117_113 : ∀ (n : Nat) (Z : zr_Z) (k : Int32) (x2 : Int32) (x3 : Int32) (y4 : Bool), KQp Z (g_117_113 n Z k x2 x3 y4)
  | 0, Z, _, _, _, _ => by
    unfold g_117_113; exact KQ_nonep
  | n + 1, Z, k, x2, x3, y4 => by
    rw [g_117_113]; exact (KQ_ifop (KQ_ifop (KQ_lovp (fun y8 => (KQ_tp (KQ.refl Z) (KQk_g_117_113 _ _ _ _ _ _)))) (KQ_somep (KQ_zmf (KQ_zmf (KQ_zmf (KQ.refl Z) (by decide)) (by decide)) (by decide)))) KQ_nonep)

theorem KQk_g_117_15 : ∀ (n : Nat) (Z : zr_Z) (k : Int32) (x2 : Int32), KQp Z (g_117_15 n Z k x2)
  | 0, Z, _, _ => by
    unfold g_117_15; exact KQ_nonep
  | n + 1, Z, k, x2 => by
    rw [g_117_15]; exact (KQ_ifop (KQ_ifop (KQ_somep (KQ_zmf (KQ_zmf (KQ_zmf (KQ.refl Z) (by decide)) (by decide)) (by decide))) (KQ_ifop (KQ_somep (KQ_zmf (KQ_zmf (KQ_zmf (KQ.refl Z) (by decide)) (by decide)) (by decide))) (KQ_ifop (KQ_somep (KQ_zmf (KQ_zmf (KQ_zmf (KQ.refl Z) (by decide)) (by decide)) (by decide))) (KQ_ifop (KQ_somep (KQ_zmf (KQ_zmf (KQ_zmf (KQ.refl Z) (by decide)) (by decide)) (by decide))) (KQ_lovp (fun x20 => (KQ_tp (KQ.refl Z) (KQk_g_117_15 _ _ _ _)))))))) KQ_nonep)

theorem KQk_o_117 (Z : zr_Z) (k : Int32) : KQp Z (o_117 Z k) := by
  unfold o_117; exact (KQ_ifop (KQ_ifop (KQ_tp (KQ.refl Z) (KQk_g_117_113 _ _ _ _ _ _)) (KQ_tp (KQ.refl Z) (KQk_g_117_15 _ _ _ _))) KQ_nonep)

theorem KQk_g_118_44 : ∀ (n : Nat) (Z : zr_Z) (k : Int32) (x2 : Int32) (x3 : Int32) (x4 : Int32), KQp Z (g_118_44 n Z k x2 x3 x4)
  | 0, Z, _, _, _, _ => by
    unfold g_118_44; exact KQ_nonep
  | n + 1, Z, k, x2, x3, x4 => by
    rw [g_118_44]; exact (KQ_ifop (KQ_ifop (KQ_somep (KQ_zmf (KQ_zmf (KQ_zmf (KQ.refl Z) (by decide)) (by decide)) (by decide))) (KQ_ifop (KQ_somep (KQ_zmf (KQ_zmf (KQ_zmf (KQ.refl Z) (by decide)) (by decide)) (by decide))) (KQ_ifop (KQ_somep (KQ_zmf (KQ_zmf (KQ_zmf (KQ.refl Z) (by decide)) (by decide)) (by decide))) (KQ_lovp (fun x16 => (KQ_tp (KQ.refl Z) (KQk_g_118_44 _ _ _ _ _ _))))))) KQ_nonep)

theorem KQk_o_118 (Z : zr_Z) (k : Int32) : KQp Z (o_118 Z k) := by
  unfold o_118; exact (KQ_ifop (KQ_ifop (KQ_lovp (fun x5 => (KQ_tp (KQ.refl Z) (KQk_g_118_44 _ _ _ _ _ _)))) (KQ_ifop (KQ_lovp (fun x10 => (KQ_tp (KQ.refl Z) (KQk_g_118_44 _ _ _ _ _ _)))) (KQ_ifop (KQ_lovp (fun x15 => (KQ_tp (KQ.refl Z) (KQk_g_118_44 _ _ _ _ _ _)))) (KQ_somep (KQ.refl Z))))) KQ_nonep)

theorem KQk_o_119 (Z : zr_Z) (k : Int32) : KQp Z (o_119 Z k) := by
  unfold o_119; exact (KQ_ifop (KQ_ifop (KQ_bvp (fun u2 => (KQ_bpp (KQ.refl Z) (KQk_o_117 _ _) (fun u3 hu3 => (KQ_ifop (KQ_bvp (fun u9 => (KQ_ifop (KQ_somep (KQ_zmf (KQ_zmf (KQ_zmf (KQ_zmf hu3 (by decide)) (by decide)) (by decide)) (by decide))) (KQ_bpp hu3 (KQk_o_118 _ _) (fun u14 hu14 => (KQ_ifop (KQ_ifop (KQ_bvp (fun u19 => (KQ_somep (KQ_zmf (KQ_zmf (KQ_zmf (KQ_zmf hu14 (by decide)) (by decide)) (by decide)) (by decide))))) (KQ_somep (KQ_zmf (KQ_zmf (KQ_zmf (KQ_zmf hu14 (by decide)) (by decide)) (by decide)) (by decide)))) KQ_nonep)))))) KQ_nonep))))) (KQ_somep (KQ.refl Z))) KQ_nonep)

theorem KQk_g_120_8 : ∀ (n : Nat) (Z : zr_Z) (a : Int32) (b : Int32) (x3 : Int32) (x4 : Int32), KQp Z (g_120_8 n Z a b x3 x4)
  | 0, Z, _, _, _, _ => by
    unfold g_120_8; exact KQ_nonep
  | n + 1, Z, a, b, x3, x4 => by
    rw [g_120_8]; exact (KQ_ifop (KQ_ifop (KQ_somep (KQ.refl Z)) (KQ_ifop (KQ_bsp (KQ.refl Z) (KQk_o_122 _ _) (fun u3 hu3 => (KQ_ifop (KQ_tp hu3 (KQk_g_120_8 _ _ _ _ _ _)) KQ_nonep))) (KQ_bpp (KQ.refl Z) (KQk_o_113 _ _) (fun u4 hu4 => (KQ_ifop (KQ_ifop (KQ_ifop (KQ_bsp hu4 (KQk_o_122 _ _) (fun u7 hu7 => (KQ_ifop (KQ_tp hu7 (KQk_g_120_8 _ _ _ _ _ _)) KQ_nonep))) (KQ_bsp hu4 (KQk_o_122 _ _) (fun u11 hu11 => (KQ_ifop (KQ_tp hu11 (KQk_g_120_8 _ _ _ _ _ _)) KQ_nonep)))) (KQ_bsp hu4 (KQk_o_122 _ _) (fun u12 hu12 => (KQ_ifop (KQ_tp hu12 (KQk_g_120_8 _ _ _ _ _ _)) KQ_nonep)))) KQ_nonep))))) KQ_nonep)

theorem KQk_o_120 (Z : zr_Z) (a : Int32) (b : Int32) : KQp Z (o_120 Z a b) := by
  unfold o_120; exact (KQ_ifop (KQ_tp (KQ.refl Z) (KQk_g_120_8 _ _ _ _ _ _)) KQ_nonep)

theorem KQk_g_116_16 : ∀ (n : Nat) (Z : zr_Z) (k : Int32) (x2 : Int32), KQp Z (g_116_16 n Z k x2)
  | 0, Z, _, _ => by
    unfold g_116_16; exact KQ_nonep
  | n + 1, Z, k, x2 => by
    rw [g_116_16]; exact (KQ_ifop (KQ_ifop (KQ_ifop (KQ_bvp (fun u3 => (KQ_somep (KQ_zmf (KQ_zmf (KQ_zmf (KQ.refl Z) (by decide)) (by decide)) (by decide))))) (KQ_somep (KQ.refl Z))) (KQ_ifop (KQ_ifop (KQ_bvp (fun u6 => (KQ_somep (KQ_zmf (KQ_zmf (KQ_zmf (KQ.refl Z) (by decide)) (by decide)) (by decide))))) (KQ_somep (KQ.refl Z))) (KQ_lovp (fun x10 => (KQ_tp (KQ.refl Z) (KQk_g_116_16 _ _ _ _)))))) KQ_nonep)

theorem KQk_o_116 (Z : zr_Z) (k : Int32) : KQp Z (o_116 Z k) := by
  unfold o_116; exact (KQ_ifop (KQ_ifop (KQ_tp (KQ.refl Z) (KQk_g_116_16 _ _ _ _)) (KQ_somep (KQ.refl Z))) KQ_nonep)

theorem KQk_g_123_10 : ∀ (n : Nat) (Z : zr_Z) (a : Int32) (b : Int32) (y3 : Bool) (x4 : Int32), KQs Z (g_123_10 n Z a b y3 x4)
  | 0, Z, _, _, _, _ => by
    unfold g_123_10; exact KQ_nones
  | n + 1, Z, a, b, y3, x4 => by
    rw [g_123_10]; exact (KQ_ifos (KQ_somes (KQ.refl Z)) (KQ_ifos (KQ_ifos (KQ_lovs (fun y7 => (KQ_ts (KQ.refl Z) (KQk_g_123_10 _ _ _ _ _ _)))) (KQ_ifos (KQ_ifos (KQ_ifos (KQ_ts (KQ_zmf (KQ_zar (KQ_zmf (KQ_zar (KQ.refl Z) (by decide)) (by decide)) (by decide)) (by decide)) (KQk_g_123_10 _ _ _ _ _ _)) KQ_nones) KQ_nones) (KQ_ifos (KQ_ts (KQ_zmf (KQ_zar (KQ.refl Z) (by decide)) (by decide)) (KQk_g_123_10 _ _ _ _ _ _)) KQ_nones))) KQ_nones))

theorem KQk_o_123 (Z : zr_Z) (a : Int32) (b : Int32) : KQs Z (o_123 Z a b) := by
  unfold o_123; exact (KQ_ts (KQ_zmf (KQ.refl Z) (by decide)) (KQk_g_123_10 _ _ _ _ _ _))

theorem KQk_o_140 (Z : zr_Z) (k : Int32) : KQp Z (o_140 Z k) := by
  unfold o_140; exact (KQ_ifop (KQ_ifop (KQ_bpp (KQ_zmf (KQ.refl Z) (by decide)) (KQk_o_127 _ _ _) (fun u5 hu5 => (KQ_ifop (KQ_somep hu5) KQ_nonep))) (KQ_ifop (KQ_ifop (KQ_ifop (KQ_bpp (KQ_zmf (KQ.refl Z) (by decide)) (KQk_o_119 _ _) (fun u9 hu9 => (KQ_ifop (KQ_ifop (KQ_ifop (KQ_bpp (KQ_zar hu9 (by decide)) (KQk_o_120 _ _ _) (fun u12 hu12 => (KQ_ifop (KQ_ifop (KQ_ifop (KQ_ifop (KQ_ifop (KQ_ifop (KQ_ifop (KQ_ifop (KQ_ifop (KQ_ifop (KQ_bsp (KQ_zar (KQ_zar (KQ_zar (KQ_zar (KQ_zar hu12 (by decide)) (by decide)) (by decide)) (by decide)) (by decide)) (KQk_o_134 _ _) (fun u25 hu25 => (KQ_ifop (KQ_bpp hu25 (KQk_o_127 _ _ _) (fun u26 hu26 => (KQ_ifop (KQ_ifop (KQ_ifop (KQ_somep hu26) (KQ_bsp hu26 (KQk_o_138 _) (fun u29 hu29 => (KQ_ifop (KQ_somep hu29) KQ_nonep)))) KQ_nonep) KQ_nonep))) KQ_nonep))) KQ_nonep) KQ_nonep) KQ_nonep) KQ_nonep) (KQ_bpp (KQ_zar (KQ_zar (KQ_zar hu12 (by decide)) (by decide)) (by decide)) (KQk_o_127 _ _ _) (fun u30 hu30 => (KQ_ifop (KQ_somep hu30) KQ_nonep)))) KQ_nonep) (KQ_bpp (KQ_zar (KQ_zar hu12 (by decide)) (by decide)) (KQk_o_120 _ _ _) (fun u31 hu31 => (KQ_ifop (KQ_ifop (KQ_ifop (KQ_ifop (KQ_ifop (KQ_ifop (KQ_ifop (KQ_bsp (KQ_zar (KQ_zar (KQ_zar hu31 (by decide)) (by decide)) (by decide)) (KQk_o_134 _ _) (fun u41 hu41 => (KQ_ifop (KQ_bpp hu41 (KQk_o_127 _ _ _) (fun u42 hu42 => (KQ_ifop (KQ_ifop (KQ_ifop (KQ_somep hu42) (KQ_bsp hu42 (KQk_o_138 _) (fun u45 hu45 => (KQ_ifop (KQ_somep hu45) KQ_nonep)))) KQ_nonep) KQ_nonep))) KQ_nonep))) KQ_nonep) KQ_nonep) KQ_nonep) KQ_nonep) (KQ_bpp (KQ_zar hu31 (by decide)) (KQk_o_127 _ _ _) (fun u46 hu46 => (KQ_ifop (KQ_somep hu46) KQ_nonep)))) KQ_nonep) KQ_nonep)))) KQ_nonep) KQ_nonep) KQ_nonep))) KQ_nonep) (KQ_bpp hu9 (KQk_o_116 _ _) (fun u47 hu47 => (KQ_ifop (KQ_ifop (KQ_bsp hu47 (KQk_o_123 _ _ _) (fun u49 hu49 => (KQ_ifop (KQ_bvp (fun u50 => (KQ_ifop (KQ_ifop (KQ_ifop (KQ_ifop (KQ_ifop (KQ_bsp (KQ_zar (KQ_zar hu49 (by decide)) (by decide)) (KQk_o_134 _ _) (fun u59 hu59 => (KQ_ifop (KQ_bpp hu59 (KQk_o_127 _ _ _) (fun u60 hu60 => (KQ_ifop (KQ_ifop (KQ_ifop (KQ_somep hu60) (KQ_bsp hu60 (KQk_o_138 _) (fun u63 hu63 => (KQ_ifop (KQ_somep hu63) KQ_nonep)))) KQ_nonep) KQ_nonep))) KQ_nonep))) KQ_nonep) KQ_nonep) KQ_nonep) KQ_nonep) (KQ_ifop (KQ_ifop (KQ_ifop (KQ_ifop (KQ_ifop (KQ_bsp (KQ_zar (KQ_zar hu49 (by decide)) (by decide)) (KQk_o_134 _ _) (fun u72 hu72 => (KQ_ifop (KQ_bpp hu72 (KQk_o_127 _ _ _) (fun u73 hu73 => (KQ_ifop (KQ_ifop (KQ_ifop (KQ_somep hu73) (KQ_bsp hu73 (KQk_o_138 _) (fun u76 hu76 => (KQ_ifop (KQ_somep hu76) KQ_nonep)))) KQ_nonep) KQ_nonep))) KQ_nonep))) KQ_nonep) KQ_nonep) KQ_nonep) KQ_nonep) (KQ_bpp hu49 (KQk_o_127 _ _ _) (fun u77 hu77 => (KQ_ifop (KQ_somep hu77) KQ_nonep))))))) KQ_nonep))) (KQ_ifop (KQ_ifop (KQ_ifop (KQ_ifop (KQ_ifop (KQ_ifop (KQ_ifop (KQ_bsp (KQ_zar (KQ_zar hu47 (by decide)) (by decide)) (KQk_o_134 _ _) (fun u88 hu88 => (KQ_ifop (KQ_bpp hu88 (KQk_o_127 _ _ _) (fun u89 hu89 => (KQ_ifop (KQ_ifop (KQ_ifop (KQ_somep hu89) (KQ_bsp hu89 (KQk_o_138 _) (fun u92 hu92 => (KQ_ifop (KQ_somep hu92) KQ_nonep)))) KQ_nonep) KQ_nonep))) KQ_nonep))) KQ_nonep) KQ_nonep) KQ_nonep) KQ_nonep) (KQ_bpp hu47 (KQk_o_127 _ _ _) (fun u93 hu93 => (KQ_ifop (KQ_somep hu93) KQ_nonep)))) (KQ_ifop (KQ_bvp (fun u95 => (KQ_ifop (KQ_ifop (KQ_bsp hu47 (KQk_o_123 _ _ _) (fun u98 hu98 => (KQ_ifop (KQ_bvp (fun u99 => (KQ_lovp (fun x104 => (KQ_ifop (KQ_ifop (KQ_ifop (KQ_ifop (KQ_ifop (KQ_bsp (KQ_zar (KQ_zar hu98 (by decide)) (by decide)) (KQk_o_134 _ _) (fun u113 hu113 => (KQ_ifop (KQ_bpp hu113 (KQk_o_127 _ _ _) (fun u114 hu114 => (KQ_ifop (KQ_ifop (KQ_ifop (KQ_somep hu114) (KQ_bsp hu114 (KQk_o_138 _) (fun u117 hu117 => (KQ_ifop (KQ_somep hu117) KQ_nonep)))) KQ_nonep) KQ_nonep))) KQ_nonep))) KQ_nonep) KQ_nonep) KQ_nonep) KQ_nonep) (KQ_ifop (KQ_ifop (KQ_ifop (KQ_ifop (KQ_ifop (KQ_bsp (KQ_zar (KQ_zar hu98 (by decide)) (by decide)) (KQk_o_134 _ _) (fun u126 hu126 => (KQ_ifop (KQ_bpp hu126 (KQk_o_127 _ _ _) (fun u127 hu127 => (KQ_ifop (KQ_ifop (KQ_ifop (KQ_somep hu127) (KQ_bsp hu127 (KQk_o_138 _) (fun u130 hu130 => (KQ_ifop (KQ_somep hu130) KQ_nonep)))) KQ_nonep) KQ_nonep))) KQ_nonep))) KQ_nonep) KQ_nonep) KQ_nonep) KQ_nonep) (KQ_bpp hu98 (KQk_o_127 _ _ _) (fun u131 hu131 => (KQ_ifop (KQ_somep hu131) KQ_nonep))))))))) KQ_nonep))) KQ_nonep) (KQ_ifop (KQ_ifop (KQ_ifop (KQ_ifop (KQ_ifop (KQ_bsp (KQ_zar (KQ_zar hu47 (by decide)) (by decide)) (KQk_o_134 _ _) (fun u140 hu140 => (KQ_ifop (KQ_bpp hu140 (KQk_o_127 _ _ _) (fun u141 hu141 => (KQ_ifop (KQ_ifop (KQ_ifop (KQ_somep hu141) (KQ_bsp hu141 (KQk_o_138 _) (fun u144 hu144 => (KQ_ifop (KQ_somep hu144) KQ_nonep)))) KQ_nonep) KQ_nonep))) KQ_nonep))) KQ_nonep) KQ_nonep) KQ_nonep) KQ_nonep) (KQ_bpp hu47 (KQk_o_127 _ _ _) (fun u145 hu145 => (KQ_ifop (KQ_somep hu145) KQ_nonep))))))) KQ_nonep)) KQ_nonep)) KQ_nonep)))) KQ_nonep))) KQ_nonep) (KQ_bpp (KQ_zmf (KQ.refl Z) (by decide)) (KQk_o_127 _ _ _) (fun u149 hu149 => (KQ_ifop (KQ_somep hu149) KQ_nonep)))) KQ_nonep)) KQ_nonep)

theorem KQk_g_146_252 : ∀ (n : Nat) (Z : zr_Z) (k : Int32) (x2 : Int32) (x3 : Int32) (x6 : Int32) (x8 : Int32) (x9 : Int32), KQp Z (g_146_252 n Z k x2 x3 x6 x8 x9)
  | 0, Z, _, _, _, _, _, _ => by
    unfold g_146_252; exact KQ_nonep
  | n + 1, Z, k, x2, x3, x6, x8, x9 => by
    rw [g_146_252]; exact (KQ_ifop (KQ_ifop (KQ_ifop (KQ_ifop (KQ_somep (KQ_zar (KQ.refl Z) (by decide))) KQ_nonep) KQ_nonep) (KQ_bsp (KQ.refl Z) (KQk_o_122 _ _) (fun u7 hu7 => (KQ_ifop (KQ_tp hu7 (KQk_g_146_252 _ _ _ _ _ _ _ _)) KQ_nonep)))) KQ_nonep)

theorem KQk_g_146_123 : ∀ (n : Nat) (Z : zr_Z) (k : Int32) (x2 : Int32) (x3 : Int32) (x5 : Int32) (x6 : Int32) (y7 : Bool) (x8 : Int32), KQp Z (g_146_123 n Z k x2 x3 x5 x6 y7 x8)
  | 0, Z, _, _, _, _, _, _, _ => by
    unfold g_146_123; exact KQ_nonep
  | n + 1, Z, k, x2, x3, x5, x6, y7, x8 => by
    rw [g_146_123]; exact (KQ_ifop (KQ_ifop (KQ_bpp (KQ.refl Z) (KQk_o_127 _ _ _) (fun u12 hu12 => (KQ_ifop (KQ_ifop (KQ_lovp (fun x14 => (KQ_tp (KQ_zar hu12 (by decide)) (KQk_g_146_252 _ _ _ _ _ _ _ _)))) KQ_nonep) KQ_nonep))) (KQ_lovp (fun y20 => (KQ_tp (KQ.refl Z) (KQk_g_146_123 _ _ _ _ _ _ _ _ _))))) KQ_nonep)

theorem KQk_g_146_44 : ∀ (n : Nat) (Y : zr_Z) (Z : zr_Z) (k : Int32) (x2 : Int32) (x3 : Int32) (x4 : Int32) (K27 : (zr_Z → Int32 → Int32 → Int32 → Option (Int32 × zr_Z))), KQ Y Z → (∀ (a0 : zr_Z) (a1 : Int32) (a2 : Int32) (a3 : Int32), KQ Y a0 → KQp Y (K27 a0 a1 a2 a3)) → KQp Y (g_146_44 n Z k x2 x3 x4 K27)
  | 0, Y, _, _, _, _, _, _, _, _ => by
    unfold g_146_44; exact KQ_nonep
  | n + 1, Y, Z, k, x2, x3, x4, K27, hZ, hK => by
    rw [g_146_44]; exact (KQ_ifop (KQ_ifop (KQ_lovp (fun x6 => (hK _ _ _ _ hZ))) (KQk_g_146_44 _ _ _ _ _ _ _ _ hZ hK)) KQ_nonep)

theorem KQk_g_146_27 : ∀ (n : Nat) (Z : zr_Z) (k : Int32) (x2 : Int32) (x3 : Int32) (x4 : Int32), KQp Z (g_146_27 n Z k x2 x3 x4)
  | 0, Z, _, _, _, _ => by
    unfold g_146_27; exact KQ_nonep
  | n + 1, Z, k, x2, x3, x4 => by
    rw [g_146_27]; exact (KQ_ifop (KQ_ifop (KQ_ifop (KQ_tp (KQ.refl Z) (KQk_g_146_123 _ _ _ _ _ _ _ _ _)) (KQ_bsp (KQ.refl Z) (KQk_o_128 _ _ _) (fun u3 hu3 => (KQ_ifop (KQ_somep hu3) KQ_nonep)))) (KQ_ifop (KQ_ifop (KQ_tp (KQ.refl Z) (KQk_g_146_123 _ _ _ _ _ _ _ _ _)) (KQ_bsp (KQ.refl Z) (KQk_o_128 _ _ _) (fun u6 hu6 => (KQ_ifop (KQ_somep hu6) KQ_nonep)))) (KQk_g_146_44 _ _ _ _ _ _ _ _ (KQ.refl Z) (fun Z x2 x3 x4 hZ => (KQ_tp hZ (KQk_g_146_27 _ _ _ _ _ _)))))) KQ_nonep)

theorem KQk_g_146_2 : ∀ (n : Nat) (Z : zr_Z) (k : Int32) (x2 : Int32), KQp Z (g_146_2 n Z k x2)
  | 0, Z, _, _ => by
    unfold g_146_2; exact KQ_nonep
  | n + 1, Z, k, x2 => by
    rw [g_146_2]; exact (KQ_ifop (KQ_ifop (KQ_tp (KQ.refl Z) (KQk_g_146_27 _ _ _ _ _ _)) (KQ_tp (KQ.refl Z) (KQk_g_146_2 _ _ _ _))) KQ_nonep)

theorem KQk_o_146 (Z : zr_Z) (k : Int32) : KQp Z (o_146 Z k) := by
  unfold o_146; exact (KQ_ifop (KQ_tp (KQ.refl Z) (KQk_g_146_2 _ _ _ _)) KQ_nonep)

theorem KQk_o_149 (Z : zr_Z) (k : Int32) : KQp Z (o_149 Z k) := by
  unfold o_149; exact (KQ_ifop (KQ_ifop (KQ_bpp (KQ.refl Z) (KQk_o_147 _ _) (fun u2 hu2 => (KQ_ifop (KQ_somep hu2) KQ_nonep))) (KQ_ifop (KQ_bpp (KQ.refl Z) (KQk_o_113 _ _) (fun u4 hu4 => (KQ_ifop (KQ_ifop (KQ_ifop (KQ_bsp hu4 (KQk_o_148 _ _ _) (fun u7 hu7 => (KQ_ifop (KQ_bpp hu7 (KQk_o_127 _ _ _) (fun u8 hu8 => (KQ_ifop (KQ_somep hu8) KQ_nonep))) KQ_nonep))) (KQ_bpp hu4 (KQk_o_127 _ _ _) (fun u9 hu9 => (KQ_ifop (KQ_somep hu9) KQ_nonep)))) (KQ_bpp hu4 (KQk_o_127 _ _ _) (fun u10 hu10 => (KQ_ifop (KQ_somep hu10) KQ_nonep)))) KQ_nonep))) (KQ_ifop (KQ_bpp (KQ.refl Z) (KQk_o_137 _ _) (fun u12 hu12 => (KQ_ifop (KQ_somep hu12) KQ_nonep))) (KQ_ifop (KQ_bpp (KQ.refl Z) (KQk_o_145 _ _) (fun u14 hu14 => (KQ_ifop (KQ_somep hu14) KQ_nonep))) (KQ_ifop (KQ_bpp (KQ.refl Z) (KQk_o_139 _ _ _) (fun u16 hu16 => (KQ_ifop (KQ_somep hu16) KQ_nonep))) (KQ_ifop (KQ_ifop (KQ_bpp (KQ.refl Z) (KQk_o_127 _ _ _) (fun u22 hu22 => (KQ_ifop (KQ_somep hu22) KQ_nonep))) (KQ_bpp (KQ.refl Z) (KQk_o_127 _ _ _) (fun u26 hu26 => (KQ_ifop (KQ_somep hu26) KQ_nonep)))) (KQ_ifop (KQ_bpp (KQ.refl Z) (KQk_o_140 _ _) (fun u28 hu28 => (KQ_ifop (KQ_somep hu28) KQ_nonep))) (KQ_ifop (KQ_bpp (KQ.refl Z) (KQk_o_137 _ _) (fun u30 hu30 => (KQ_ifop (KQ_somep hu30) KQ_nonep))) (KQ_ifop (KQ_bpp (KQ.refl Z) (KQk_o_146 _ _) (fun u32 hu32 => (KQ_ifop (KQ_somep hu32) KQ_nonep))) (KQ_ifop (KQ_bpp (KQ.refl Z) (KQk_o_127 _ _ _) (fun u34 hu34 => (KQ_ifop (KQ_somep hu34) KQ_nonep))) (KQ_ifop (KQ_bpp (KQ.refl Z) (KQk_o_127 _ _ _) (fun u36 hu36 => (KQ_ifop (KQ_somep hu36) KQ_nonep))) (KQ_bpp (KQ.refl Z) (KQk_o_139 _ _ _) (fun u37 hu37 => (KQ_ifop (KQ_somep hu37) KQ_nonep)))))))))))))) KQ_nonep)

theorem KQk_g_157_91 : ∀ (n : Nat) (Z : zr_Z) (x1 : Int32) (x2 : Int32), KQp Z (g_157_91 n Z x1 x2)
  | 0, Z, _, _ => by
    unfold g_157_91; exact KQ_nonep
  | n + 1, Z, x1, x2 => by
    rw [g_157_91]; exact (KQ_ifop (KQ_somep (KQ_zmf (KQ.refl Z) (by decide))) (KQ_ifop (KQ_ifop (KQ_tp (KQ_zar (KQ.refl Z) (by decide)) (KQk_g_157_91 _ _ _ _)) KQ_nonep) KQ_nonep))

