/-! the mathematics; written by wip/whole/m2parts.py -/
def gT (T : List Int32) : Prop := T.length ≤ 1500 ∧ ∀ c ∈ T, 0 ≤ c.toInt ∧ c.toInt ≤ 255
def mA (T : List Int32) (i : Nat) : Int32 := T.getD i (-1)
def mesc (T : List Int32) (i : Nat) : Bool := decide (mA T i = 92) && k_198 (mA T (i + 1))
def mC (Z : zr_Z) (T : List Int32) : Prop := Z.1 61 = T
def mR (Z : zr_Z) (T : List Int32) : Prop := zf Z 3 = nI T.length ∧ ∀ i, i < T.length → Z.2.2.1 137 i = T.getD i (-1)
theorem nI_2 (a : Nat) : nI a + 2 = nI (a + 2) := nI_add a 2
theorem nI_3 (a : Nat) : nI a + 3 = nI (a + 3) := nI_add a 3
theorem mA_out {T : List Int32} {i : Nat} (h : T.length ≤ i) : mA T i = -1 := by
  unfold mA; rw [List.getD_eq_getElem?_getD, List.getElem?_eq_none h]; rfl
theorem mA_in {T : List Int32} (hT : gT T) {i : Nat} (h : i < T.length) : 0 ≤ (mA T i).toInt ∧ (mA T i).toInt ≤ 255 := by
  unfold mA; rw [List.getD_eq_getElem?_getD, List.getElem?_eq_getElem h]; exact hT.2 _ (List.getElem_mem h)
theorem mA_ne {T : List Int32} (hT : gT T) {i : Nat} : mA T i = -1 ↔ T.length ≤ i := by
  constructor
  · intro h
    refine Nat.le_of_not_lt (fun h' => ?_)
    have a := (mA_in hT h').1
    rw [h] at a; revert a; decide
  · exact mA_out
theorem mA_lt {T : List Int32} {i : Nat} {c : Int32} (h : mA T i = c) (hc : ¬ c = -1) : i < T.length := by
  refine Nat.lt_of_not_le (fun h' => hc ?_)
  rw [← h, mA_out h']
theorem rat_mA {T : List Int32} {i : Nat} (h : i < 2 ^ 31) : rat T (nI i) = mA T i := by
  unfold rat mA; rw [if_neg (nI_pos h), nI_clamp h]
theorem mC.at {Z : zr_Z} {T : List Int32} (h : mC Z T) {i : Nat} (hi : i < 2 ^ 31) : zt Z 61 (nI i) = mA T i := by
  unfold zt; rw [h, rat_mA hi]
theorem mC.sz {Z : zr_Z} {T : List Int32} (h : mC Z T) : zs Z 61 = nI T.length := by
  unfold zs; rw [h]
theorem mR.at {Z : zr_Z} {T : List Int32} (h : mR Z T) (hT : gT T) {i : Nat} (hi : i < 2 ^ 31) : ra Z (nI i) = mA T i := by
  unfold ra; rw [if_neg (nI_pos hi), h.1]
  have := hT.1
  by_cases hl : i < T.length
  · rw [if_pos ((nI_ltI hi (by omega)).mpr hl)]; unfold zv mA; rw [nI_clamp hi]; exact h.2 i hl
  · rw [if_neg (by rw [nI_ltI hi (by omega)]; exact hl), mA_out (by omega)]
theorem mR.sk {Z : zr_Z} {T : List Int32} (h : mR Z T) (hT : gT T) : sok Z := by
  have := hT.1
  show (zf Z 3).toInt ≤ 1500; rw [h.1, nI_toInt (by omega)]; omega
theorem k176 (c : Int32) : k_176 c = k_198 c := rfl
theorem mC.esc {Z : zr_Z} {T : List Int32} (h : mC Z T) {i : Nat} (hi : i + 1 < 2 ^ 31) : f_92 Z (nI i) = mesc T i := by
  unfold f_92 mesc; rw [nI_1, h.at (by omega), h.at hi]
theorem mR.esc {Z : zr_Z} {T : List Int32} (h : mR Z T) (hT : gT T) {i : Nat} (hi : i + 1 < 2 ^ 31) : rp Z (nI i) = mesc T i := by
  unfold rp mesc; rw [nI_1, h.at hT (by omega), h.at hT hi, k176]
theorem zf_ne (Z : zr_Z) {k j : Nat} (x : Int32) (h : ¬ j = k) : zf (zmf Z k x) j = zf Z j := by unfold zf zmf va_up; exact if_neg h
theorem zar_ne (Z : zr_Z) {j l : Nat} (i x : Int32) (h : ¬ l = j) (n : Nat) : (zar Z j i x).2.2.1 l n = Z.2.2.1 l n := by unfold zar va_up; dsimp only; rw [if_neg h]
theorem mR.zmf {Z : zr_Z} {T : List Int32} (h : mR Z T) {k : Nat} (hk : k ≠ 3) (x : Int32) : mR (zmf Z k x) T := by
  refine ⟨?_, h.2⟩
  rw [← h.1]; exact zf_ne _ _ (fun e => hk e.symm)
theorem mR.zar {Z : zr_Z} {T : List Int32} (h : mR Z T) {j : Nat} (hj : j ≠ 137) (i x : Int32) : mR (zar Z j i x) T := by
  refine ⟨h.1, fun i' hi' => ?_⟩
  rw [← h.2 i' hi']; exact zar_ne _ _ _ (fun e => hj e.symm) _
theorem ne_m1 {n : Nat} (h : n < 2 ^ 31) : ¬ nI n = -1 := by
  intro e
  have := congrArg Int32.toInt e
  rw [nI_toInt h] at this
  have h2 : (-1 : Int32).toInt = -1 := by decide
  omega
theorem mesc_lt {T : List Int32} {i : Nat} (h : mesc T i = true) : i + 1 < T.length := by
  unfold mesc at h
  refine Nat.lt_of_not_le (fun h' => ?_)
  rw [mA_out h'] at h
  revert h; cases decide (mA T i = 92) <;> decide

def mst (T : List Int32) (i : Nat) : Nat := if mesc T i = true then 2 else 1
theorem nI_st (T : List Int32) (i : Nat) : nI i + (if mesc T i = true then 2 else 1 : Int32) = nI (i + mst T i) := by
  unfold mst; by_cases h : mesc T i = true
  · rw [if_pos h, if_pos h, nI_2]
  · rw [if_neg h, if_neg h, nI_1]
theorem mst_pos (T : List Int32) (i : Nat) : 1 ≤ mst T i := by unfold mst; split <;> omega
theorem mst_le {T : List Int32} {i : Nat} (h : i < T.length) : i + mst T i ≤ T.length := by
  unfold mst; split
  · rename_i he; have := mesc_lt he; omega
  · omega
def mrc (T : List Int32) (e : Nat) : Nat → Nat → Prop
  | 0, i => i = e
  | n + 1, i => i < e ∧ mrc T e n (i + mst T i)
def mrch (T : List Int32) (e i : Nat) : Prop := ∃ n, mrc T e n i
theorem mrch_refl (T : List Int32) (e : Nat) : mrch T e e := ⟨0, rfl⟩
theorem mrch_step {T : List Int32} {e i : Nat} (h : i < e) (h' : mrch T e (i + mst T i)) : mrch T e i := by
  obtain ⟨n, hn⟩ := h'; exact ⟨n + 1, h, hn⟩
theorem mrch_inv {T : List Int32} {e i : Nat} (h : mrch T e i) : i = e ∨ (i < e ∧ mrch T e (i + mst T i)) := by
  obtain ⟨n, hn⟩ := h
  cases n with
  | zero => exact Or.inl hn
  | succ n => exact Or.inr ⟨hn.1, n, hn.2⟩
theorem mrch_le {T : List Int32} {e i : Nat} (h : mrch T e i) : i ≤ e := by
  rcases mrch_inv h with h | h <;> omega
def rfc (c : Int32) : Bool := k_197 c || (decide (c = 38) || (decide (c = 35) || decide (c = 59)))
theorem oF_1 : ∃ m, oF = m + 1 := ⟨999999, rfl⟩
