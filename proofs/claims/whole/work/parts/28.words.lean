/-! words for the printed walks -/
def bI (b : Bool) : Int32 := if b then 1 else 0
theorem bI_01 (b : Bool) : bI b = 0 ∨ bI b = 1 := by cases b <;> simp [bI]
theorem bI_fit (b : Bool) : am_fit (am_ty 11 56) (.int (bI b)) = true := by cases b <;> decide
theorem bI_0 {b : Bool} : bI b = 0 ↔ b = false := by cases b <;> simp [bI]
def zs (Z : zr_Z) (id : Nat) : Int32 := nI (Z.1 id).length
def zt (Z : zr_Z) (id : Nat) (i : Int32) : Int32 := rat (Z.1 id) i
def zput (Z : zr_Z) (id : Nat) (i x : Int32) : zr_Z := (va_up Z.1 id (rput (Z.1 id) i x), Z.2)
def zadd (Z : zr_Z) (id : Nat) (x : Int32) : zr_Z := (va_up Z.1 id (radd (zr_most id) (Z.1 id) x), Z.2)
def zcut (Z : zr_Z) (id : Nat) (n : Int32) : zr_Z := (va_up Z.1 id (rcut (Z.1 id) n), Z.2)
def zfill (Z : zr_Z) (id : Nat) (n v : Int32) : zr_Z := (va_up Z.1 id (List.replicate (rlen (zr_most id) n) v), Z.2)
def zc (Z : zr_Z) (j : Nat) : Int32 := Z.2.1 j
def zf (Z : zr_Z) (k : Nat) : Int32 := Z.2.2.2.1 k
def zv (Z : zr_Z) (j : Nat) (i : Int32) : Int32 := Z.2.2.1 j i.toNatClampNeg
def zsc (Z : zr_Z) (j : Nat) (x : Int32) : zr_Z := (Z.1, va_up Z.2.1 j x, Z.2.2)
def zmf (Z : zr_Z) (k : Nat) (x : Int32) : zr_Z := (Z.1, Z.2.1, Z.2.2.1, va_up Z.2.2.2.1 k x, Z.2.2.2.2)
def zar (Z : zr_Z) (j : Nat) (i x : Int32) : zr_Z := (Z.1, Z.2.1, va_up Z.2.2.1 j (upd (Z.2.2.1 j) i.toNatClampNeg x), Z.2.2.2)
def inb (j : Nat) (i : Int32) : Prop := ¬ (i < 0 ∨ zr_alen j ≤ i.toNatClampNeg)
def znm (i : Int32) : Int32 := zr_named.getD i.toNatClampNeg 0
def zmax (x a : Int32) : Int32 := if x < a then a else x
def zmin (x a : Int32) : Int32 := if a < x then a else x
theorem am_tswd {pc : Nat} {dflt lo hi : Int} {offs : Array Int} {x : Int32} (h : ∀ i, lo ≤ i → i ≤ hi → x.toInt ≠ i) : am_tsw pc dflt lo hi offs x = some ((pc : Int) + dflt).toNat := by
  unfold am_tsw
  rw [if_pos]
  rcases Int.lt_or_le x.toInt lo with q | q
  · exact Or.inl q
  · rcases Int.lt_or_le hi x.toInt with q2 | q2
    · exact Or.inr q2
    · exact absurd rfl (h x.toInt q q2)
theorem am_lkd {ps : List (Int × Int)} {dflt x : Int} (h : ∀ q ∈ ps, q.1 ≠ x) : Op.lookupswitch.offset ps dflt x = dflt := by
  induction ps with
  | nil => simp [Op.lookupswitch.offset]
  | cons q ps ih =>
    obtain ⟨a, o⟩ := q
    have h1 : a ≠ x := h (a, o) List.mem_cons_self
    simp only [Op.lookupswitch.offset]
    rw [if_neg (by simpa using h1)]
    exact ih (fun q hq => h q (List.mem_cons_of_mem _ hq))
section Zw2
variable {fm : Value} {sx : Nat × (Nat → Int32)} {d y pc : Nat} {loc : am_L} {stk : List Value} {Z : zr_Z} {Q : Option Value → zr_Z → Prop}
/-- a test of a boolean: not jumping when it is true -/
theorem zw_b0 {b : Bool} {t1 t2 : Nat} {loc' : am_L} {stk' : List Value} (hr : ∀ h k z, am_run fm y 1 (pc, loc, stk, h, k, z) = some (if bI b = 0 then t2 else t1, loc', stk', h, k, z)) (h1 : b = true → zw fm sx d y t1 loc' stk' Z Q) (h2 : ¬ b = true → zw fm sx d y t2 loc' stk' Z Q) : zw fm sx d y pc loc stk Z Q :=
  zw_br (c := bI b = 0) hr (fun q => h2 (by rw [bI_0.mp q]; decide)) (fun q => h1 (by cases b; exact absurd rfl q; rfl))
theorem zw_b1 {b : Bool} {t1 t2 : Nat} {loc' : am_L} {stk' : List Value} (hr : ∀ h k z, am_run fm y 1 (pc, loc, stk, h, k, z) = some (if ¬ bI b = 0 then t1 else t2, loc', stk', h, k, z)) (h1 : b = true → zw fm sx d y t1 loc' stk' Z Q) (h2 : ¬ b = true → zw fm sx d y t2 loc' stk' Z Q) : zw fm sx d y pc loc stk Z Q :=
  zw_br (c := ¬ bI b = 0) hr (fun q => h1 (by cases b; exact absurd rfl q; rfl)) (fun q => h2 (fun z => q (by rw [z]; decide)))
theorem zw_sw {pc' n a b : Nat} {u : Value} {dflt lo hi : Int} {offs : Array Int} {x : Int32} {rest : List Value} {loc' : am_L} {stk' : List Value} (ho : am_ops y pc = some (.tableswitch dflt lo hi offs, n, a, b, u)) (ht : am_tsw pc dflt lo hi offs x = some pc') (kk : zw fm sx d y pc' loc rest Z Q) : zw fm sx d y pc loc (.int x :: rest) Z Q :=
  zw_run 1 (fun h k z => by simp only [am_run, ho, am_stp, am_swI, ht, am_sw]) kk
theorem zw_lk {pc' n a b : Nat} {u : Value} {dflt : Int} {ps : Array (Int × Int)} {x : Int32} {rest : List Value} {loc' : am_L} {stk' : List Value} (ho : am_ops y pc = some (.lookupswitch dflt ps, n, a, b, u)) (ht : Op.lookupswitch.offset ps.toList dflt x.toInt = dflt) (hp : ((pc : Int) + dflt).toNat = pc') (kk : zw fm sx d y pc' loc rest Z Q) : zw fm sx d y pc loc (.int x :: rest) Z Q :=
  zw_run 1 (fun h k z => by simp only [am_run, ho, am_stp, am_swI, ht, am_sw, hp]) kk
end Zw2
