/-! the mathematics; written by wip/whole/m2parts.py -/
def by8 (x : Int32) (s : Nat) : Int32 := (x >>> (nI s)) &&& 255
theorem and255 (x : Int32) : 0 ≤ (x &&& 255).toInt ∧ (x &&& 255).toInt ≤ 255 := by
  have h : (x &&& 255).toBitVec.toNat ≤ 255 := by
    rw [Int32.toBitVec_and, BitVec.toNat_and]; exact Nat.and_le_right
  have e : (x &&& 255).toInt = ((x &&& 255).toBitVec.toNat : Int) := by
    show (x &&& 255).toBitVec.toInt = _
    rw [BitVec.toInt_eq_toNat_cond, if_pos (by omega)]
  rw [e]; omega
theorem byte_eq (x : Int32) {s : Nat} (hs : s = 24 ∨ s = 16 ∨ s = 8 ∨ s = 0) : ((Int32.toUInt32 x >>> (Int32.toUInt32 (nI s) &&& Int32.toUInt32 31)).toInt32) &&& 255 = (x >>> (nI s &&& 31)) &&& 255 := by
  have key : ∀ (b : BitVec 32) (s : Nat), s ≤ 24 → (b >>> s) &&& 255#32 = (b.sshiftRight s) &&& 255#32 := by
    intro b s hs
    apply BitVec.eq_of_getLsbD_eq
    intro i hi
    rw [BitVec.getLsbD_and, BitVec.getLsbD_and, BitVec.getLsbD_ushiftRight, BitVec.getLsbD_sshiftRight]
    by_cases h8 : i < 8
    · rw [if_pos (by omega)]
      have : (!decide (32 ≤ i)) = true := by rw [decide_eq_false (by omega)]; rfl
      rw [this, Bool.true_and]
    · have : (255#32).getLsbD i = false := by
        rw [BitVec.getLsbD_ofNat]
        have : Nat.testBit 255 i = false := by
          apply Nat.testBit_lt_two_pow
          calc 255 < 2 ^ 8 := by decide
            _ ≤ 2 ^ i := Nat.pow_le_pow_right (by decide) (by omega)
        rw [this, Bool.and_false]
      rw [this, Bool.and_false, Bool.and_false]
  apply Int32.toBitVec_inj.mp
  rcases hs with g | g | g | g <;> rw [g]
  · exact key x.toBitVec 24 (by decide)
  · exact key x.toBitVec 16 (by decide)
  · exact key x.toBitVec 8 (by decide)
  · exact key x.toBitVec 0 (by decide)
def byv (w : Int32) (i : Nat) : Int32 := (w >>> (nI (24 - 8 * i) &&& 31)) &&& 255
theorem c9_loop (w : Int32) {a : Nat} (ha : a + 4 ≤ 20) : ∀ d i m C, i + d = 4 → d < m → (C.1 58).length = 20 →
    ∃ l, g_9_2 m C (nI a) w (nI i) = (va_up C.1 58 l, C.2) ∧ l.length = 20 ∧ ∀ j, j < 20 → l.getD j 0 = if a + i ≤ j ∧ j < a + 4 then byv w (j - a) else (C.1 58).getD j 0 := by
  intro d
  induction d with
  | zero =>
    intro i m C hi hm hl
    obtain ⟨m, rfl⟩ : ∃ z, m = z + 1 := ⟨m - 1, by omega⟩
    refine ⟨C.1 58, ?_, hl, fun j hj => ?_⟩
    · rw [g_9_2, if_pos (by rw [show (4 : Int32) = nI 4 from rfl, nI_leI (by omega) (by omega)]; omega), mup_self]
    · rw [if_neg (by omega)]
  | succ d ih =>
    intro i m C hi hm hl
    obtain ⟨m, rfl⟩ : ∃ z, m = z + 1 := ⟨m - 1, by omega⟩
    have hb : (((Int32.toUInt32 w >>> (Int32.toUInt32 (24 - (8 * nI i)) &&& Int32.toUInt32 31)).toInt32) &&& 255) = byv w i := by
      have e : (24 : Int32) - 8 * nI i = nI (24 - 8 * i) := by
        rw [show (8 : Int32) = nI 8 from rfl, pk_mul, show (24 : Int32) = nI 24 from rfl, pk_sub (by omega)]
      rw [e, byte_eq w (by omega)]; rfl
    have hput : zput C 58 (nI a + nI i) (byv w i) = (va_up C.1 58 ((C.1 58).set (a + i) (byv w i)), C.2) := by
      unfold zput; rw [nI_add, rput_nI (by omega)]
    obtain ⟨l, h1, h2, h3⟩ := ih (i + 1) m (va_up C.1 58 ((C.1 58).set (a + i) (byv w i)), C.2) (by omega) (by omega) (by show (va_up C.1 58 ((C.1 58).set (a + i) (byv w i)) 58).length = 20; rw [mup_same, List.length_set]; exact hl)
    refine ⟨l, ?_, h2, fun j hj => ?_⟩
    · rw [g_9_2, if_neg (by rw [show (4 : Int32) = nI 4 from rfl, nI_leI (by omega) (by omega)]; omega), hb, hput, nI_1, h1]
      dsimp only; rw [mup_up]
    · rw [h3 j hj]
      dsimp only
      rw [mup_same]
      by_cases hc : a + (i + 1) ≤ j ∧ j < a + 4
      · rw [if_pos hc, if_pos (by omega)]
      · rw [if_neg hc, List.getD_eq_getElem?_getD, List.getElem?_set]
        by_cases he : a + i = j
        · rw [if_pos he, if_pos (by omega), if_pos (by omega)]
          show byv w i = _
          congr 1; omega
        · rw [if_neg he, if_neg (by omega), List.getD_eq_getElem?_getD]
theorem c9 (w : Int32) {a : Nat} (ha : a + 4 ≤ 20) {C : zr_Z} (hl : (C.1 58).length = 20) : ∃ l, f_9 C (nI a) w = (va_up C.1 58 l, C.2) ∧ l.length = 20 ∧ ∀ j, j < 20 → l.getD j 0 = if a ≤ j ∧ j < a + 4 then byv w (j - a) else (C.1 58).getD j 0 := by
  have := c9_loop w ha 4 0 5 C (by omega) (by omega) hl
  rw [nI_0] at this
  exact this
def by5 (w0 w1 w2 w3 w4 : Int32) (j : Nat) : Int32 := byv (if 4 ≤ j then (if 8 ≤ j then (if 12 ≤ j then (if 16 ≤ j then w4 else w3) else w2) else w1) else w0) (j % 4)
theorem c8 (w0 w1 w2 w3 w4 : Int32) {C : zr_Z} (hl : (C.1 58).length = 20) : ∃ l, f_8 C w0 w1 w2 w3 w4 = (va_up C.1 58 l, C.2) ∧ l.length = 20 ∧ ∀ j, j < 20 → l.getD j 0 = by5 w0 w1 w2 w3 w4 j := by
  have hs : ∀ l : List Int32, ((va_up C.1 58 l, C.2) : zr_Z).1 58 = l := fun l => mup_same C.1 58 l
  obtain ⟨l0, a0, b0, c0⟩ := c9 w0 (a := 0) (by omega) hl
  obtain ⟨l1, a1, b1, c1⟩ := c9 w1 (a := 4) (by omega) (C := (va_up C.1 58 l0, C.2)) (by rw [hs]; exact b0)
  obtain ⟨l2, a2, b2, c2⟩ := c9 w2 (a := 8) (by omega) (C := (va_up C.1 58 l1, C.2)) (by rw [hs]; exact b1)
  obtain ⟨l3, a3, b3, c3⟩ := c9 w3 (a := 12) (by omega) (C := (va_up C.1 58 l2, C.2)) (by rw [hs]; exact b2)
  obtain ⟨l4, a4, b4, c4⟩ := c9 w4 (a := 16) (by omega) (C := (va_up C.1 58 l3, C.2)) (by rw [hs]; exact b3)
  dsimp only at a1 a2 a3 a4
  rw [mup_up] at a1 a2 a3 a4
  refine ⟨l4, ?_, b4, fun j hj => ?_⟩
  · unfold f_8
    rw [show (0 : Int32) = nI 0 from rfl, a0, show (4 : Int32) = nI 4 from rfl, a1, show (8 : Int32) = nI 8 from rfl, a2, show (12 : Int32) = nI 12 from rfl, a3, show (16 : Int32) = nI 16 from rfl, a4]
  · rw [c4 j hj, hs, c3 j hj, hs, c2 j hj, hs, c1 j hj, hs, c0 j hj]
    unfold by5
    by_cases g4 : 16 ≤ j
    · rw [if_pos (by omega), if_pos (by omega), if_pos (by omega), if_pos (by omega), if_pos (by omega)]; congr 1; omega
    by_cases g3 : 12 ≤ j
    · rw [if_neg (by omega), if_pos (by omega), if_pos (by omega), if_pos (by omega), if_pos (by omega), if_neg (by omega)]; congr 1; omega
    by_cases g2 : 8 ≤ j
    · rw [if_neg (by omega), if_neg (by omega), if_pos (by omega), if_pos (by omega), if_pos (by omega), if_neg (by omega)]; congr 1; omega
    by_cases g1 : 4 ≤ j
    · rw [if_neg (by omega), if_neg (by omega), if_neg (by omega), if_pos (by omega), if_pos (by omega), if_neg (by omega)]; congr 1; omega
    · rw [if_neg (by omega), if_neg (by omega), if_neg (by omega), if_neg (by omega), if_pos (by omega), if_neg (by omega)]; congr 1; omega
def RJ (R R' : zr_Z) (js : List Nat) (fs : List Nat) : Prop := R'.1 = R.1 ∧ R'.2.1 = R.2.1 ∧ (∀ j, ¬ j ∈ js → ∀ i, rv R' j i = rv R j i) ∧ (∀ f, ¬ f ∈ fs → zf R' f = zf R f) ∧ R'.2.2.2.2 = R.2.2.2.2
theorem RJ.refl (R : zr_Z) (js fs : List Nat) : RJ R R js fs := ⟨rfl, rfl, fun _ _ _ => rfl, fun _ _ => rfl, rfl⟩
theorem RJ.trans {R S U : zr_Z} {js fs : List Nat} (h : RJ R S js fs) (g : RJ S U js fs) : RJ R U js fs :=
  ⟨g.1.trans h.1, g.2.1.trans h.2.1, fun j hj i => (g.2.2.1 j hj i).trans (h.2.2.1 j hj i), fun f hf => (g.2.2.2.1 f hf).trans (h.2.2.2.1 f hf), g.2.2.2.2.trans h.2.2.2.2⟩
theorem RJ.zar {R S : zr_Z} {js fs : List Nat} (h : RJ R S js fs) {j : Nat} (hj : j ∈ js) (i x : Int32) : RJ R (zar S j i x) js fs :=
  ⟨h.1, h.2.1, fun l hl k => (zar_ne S i x (show ¬ l = j from fun e => hl (by rw [e]; exact hj)) k).trans (h.2.2.1 l hl k), h.2.2.2.1, h.2.2.2.2⟩
theorem RJ.zmf {R S : zr_Z} {js fs : List Nat} (h : RJ R S js fs) {f : Nat} (hf : f ∈ fs) (x : Int32) : RJ R (zmf S f x) js fs :=
  ⟨h.1, h.2.1, h.2.2.1, fun l hl => (zf_ne S x (show ¬ l = f from fun e => hl (by rw [e]; exact hf))).trans (h.2.2.2.1 l hl), h.2.2.2.2⟩
theorem rv_zar1 (R : zr_Z) (j : Nat) {n : Nat} (hn : n < 2 ^ 31) (x : Int32) (i : Nat) : rv (zar R j (nI n) x) j i = if i = n then x else rv R j i := by
  unfold rv zar; dsimp only; rw [mup_same, nI_clamp hn]; rfl
theorem r153_loop (w0 w1 w2 w3 w4 : Int32) : ∀ d p m R, p + d = 20 → d < m → ∃ R', g_153_8 m R w0 w1 w2 w3 w4 (nI p) = some R' ∧ RJ R R' [138] [] ∧ (∀ j, j < 20 → rv R' 138 j = if p ≤ j then by5 w0 w1 w2 w3 w4 j else rv R 138 j) := by
  intro d
  induction d with
  | zero =>
    intro p m R hp hm
    obtain ⟨m, rfl⟩ : ∃ z, m = z + 1 := ⟨m - 1, by omega⟩
    refine ⟨R, ?_, RJ.refl R _ _, fun j hj => by rw [if_neg (by omega)]⟩
    rw [g_153_8, if_pos (by rw [show (20 : Int32) = nI 20 from rfl, nI_leI (by omega) (by omega)]; omega)]
  | succ d ih =>
    intro p m R hp hm
    obtain ⟨m, rfl⟩ : ∃ z, m = z + 1 := ⟨m - 1, by omega⟩
    have hc : ∀ q : Nat, q < 100 → ((nI q ≤ nI p) ↔ q ≤ p) := fun q hq => nI_leI (by omega) (by omega)
    have hsel : (if (4 : Int32) ≤ nI p then (if (8 : Int32) ≤ nI p then (if (12 : Int32) ≤ nI p then (if (16 : Int32) ≤ nI p then w4 else w3) else w2) else w1) else w0) = (if 4 ≤ p then (if 8 ≤ p then (if 12 ≤ p then (if 16 ≤ p then w4 else w3) else w2) else w1) else w0) := by
      rw [show (4 : Int32) = nI 4 from rfl, show (8 : Int32) = nI 8 from rfl, show (12 : Int32) = nI 12 from rfl, show (16 : Int32) = nI 16 from rfl]
      simp only [hc 4 (by omega), hc 8 (by omega), hc 12 (by omega), hc 16 (by omega)]
    have hsh : (24 : Int32) - 8 * (nI p - nI p / 4 * 4) = nI (24 - 8 * (p % 4)) := by
      rw [show (4 : Int32) = nI 4 from rfl, pk_div (by omega) (by omega) (by omega), pk_mul, pk_sub (by omega), show (8 : Int32) = nI 8 from rfl, pk_mul, show (24 : Int32) = nI 24 from rfl, pk_sub (by omega)]
      congr 1; omega
    obtain ⟨R', h1, h2, h3⟩ := ih (p + 1) m (zar R 138 (nI p) (by5 w0 w1 w2 w3 w4 p)) (by omega) (by omega)
    refine ⟨R', ?_, ((RJ.refl R [138] []).zar (by simp) _ _).trans h2, fun j hj => ?_⟩
    · rw [g_153_8, if_neg (by rw [show (20 : Int32) = nI 20 from rfl, nI_leI (by omega) (by omega)]; omega)]
      unfold olet
      rw [hsel, hsh]; dsimp only
      rw [if_pos (inq_nI (j := 138) (show p < 20 by omega) (by omega)), nI_1]
      exact h1
    · rw [h3 j hj, rv_zar1 R 138 (by omega)]
      by_cases he : j = p
      · rw [if_neg (by omega), if_pos he, if_pos (by omega), he]
      · rw [if_neg he]
        by_cases hl : p + 1 ≤ j
        · rw [if_pos hl, if_pos (by omega)]
        · rw [if_neg hl, if_neg (by omega)]
