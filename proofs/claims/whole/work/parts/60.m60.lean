/-! the mathematics; written by wip/whole/m2parts.py -/
def rset (R : zr_Z) (W : List Int32) : zr_Z := (R.1, R.2.1, va_up R.2.2.1 172 (fun i => if i < W.length then W.getD i 0 else R.2.2.1 172 i), va_up R.2.2.2.1 49 (nI W.length), R.2.2.2.2)
theorem rset_rv (R : zr_Z) (W : List Int32) {j : Nat} (h : ¬ j = 172) (i : Nat) : rv (rset R W) j i = rv R j i := by
  show va_up R.2.2.1 172 _ j i = R.2.2.1 j i; rw [mup_oth _ _ h]
theorem rset_zv (R : zr_Z) (W : List Int32) {j : Nat} (h : ¬ j = 172) (i : Int32) : zv (rset R W) j i = zv R j i := by
  show va_up R.2.2.1 172 _ j _ = R.2.2.1 j _; rw [mup_oth _ _ h]
theorem rset_zf (R : zr_Z) (W : List Int32) {f : Nat} (h : ¬ f = 49) : zf (rset R W) f = zf R f := mup_oth R.2.2.2.1 _ h
theorem rset_n (R : zr_Z) (W : List Int32) : zf (rset R W) 49 = nI W.length := mup_same R.2.2.2.1 49 _
theorem rset_at (R : zr_Z) (W : List Int32) {i : Nat} (h : i < W.length) : rv (rset R W) 172 i = W.getD i 0 := by
  show va_up R.2.2.1 172 (fun i => if i < W.length then W.getD i 0 else R.2.2.1 172 i) 172 i = _
  rw [mup_same, if_pos h]
theorem rset_nil (R : zr_Z) : rset R [] = zmf R 49 0 := by
  unfold rset zmf
  have : (fun i => if i < ([] : List Int32).length then ([] : List Int32).getD i 0 else R.2.2.1 172 i) = R.2.2.1 172 := by
    funext i; rw [if_neg (by simp)]
  rw [this, mup_self]; rfl
theorem r164 (R : zr_Z) {W : List Int32} (c : Int32) (h : W.length < 30000) : o_164 (rset R W) c = some (rset R (W ++ [c])) := by
  unfold o_164
  rw [rset_n, if_pos (show inq 172 (nI W.length) from by
    intro hh
    rcases hh with g | g
    · exact nI_pos (by omega) g
    · rw [nI_clamp (by omega)] at g; have : zr_alen 172 = 30000 := rfl; omega)]
  congr 1
  unfold zar zmf rset
  dsimp only
  rw [mup_up, mup_up, nI_clamp (by omega), nI_1, mup_same, List.length_append, List.length_singleton]
  have : upd (fun i => if i < W.length then W.getD i 0 else R.2.2.1 172 i) W.length c = (fun i => if i < W.length + 1 then (W ++ [c]).getD i 0 else R.2.2.1 172 i) := by
    funext i
    unfold upd
    by_cases h1 : i = W.length
    · rw [if_pos h1, if_pos (by omega), h1, List.getD_eq_getElem?_getD, List.getElem?_append_right (Nat.le_refl _), Nat.sub_self]; rfl
    · rw [if_neg h1]; dsimp only
      by_cases h2 : i < W.length
      · rw [if_pos h2, if_pos (by omega), List.getD_eq_getElem?_getD, List.getD_eq_getElem?_getD, List.getElem?_append_left h2]
      · rw [if_neg h2, if_neg (by omega)]
  rw [this]
def dec8 : Nat → Int64 → List Int32
  | 0, _ => []
  | n + 1, l => if lg_cmp l 0 = 0 then [] else Int64.toInt32 (l &&& 255) :: dec8 n (l >>> (Int32.toInt64 8 &&& 63))
def fin8 : Nat → Int64 → Bool
  | 0, l => decide (lg_cmp l 0 = 0)
  | n + 1, l => decide (lg_cmp l 0 = 0) || fin8 n (l >>> (Int32.toInt64 8 &&& 63))
theorem r171_loop (R : zr_Z) (v : Int64) : ∀ n m l W, n < m → fin8 n l = true → W.length + n ≤ 30000 → g_171_2 m (rset R W) v l = some (rset R (W ++ dec8 n l)) := by
  intro n
  induction n with
  | zero =>
    intro m l W hm hf hW
    obtain ⟨m, rfl⟩ : ∃ z, m = z + 1 := ⟨m - 1, by omega⟩
    have : lg_cmp l 0 = 0 := by unfold fin8 at hf; exact of_decide_eq_true hf
    rw [g_171_2, if_pos this, dec8, List.append_nil]
  | succ n ih =>
    intro m l W hm hf hW
    obtain ⟨m, rfl⟩ : ∃ z, m = z + 1 := ⟨m - 1, by omega⟩
    rw [g_171_2, dec8]
    by_cases hc : lg_cmp l 0 = 0
    · rw [if_pos hc, if_pos hc, List.append_nil]
    · have hf' : fin8 n (l >>> (Int32.toInt64 8 &&& 63)) = true := by
        rw [fin8, Bool.or_eq_true] at hf
        rcases hf with g | g
        · exact absurd (of_decide_eq_true g) hc
        · exact g
      rw [if_neg hc, if_neg hc, r164 R _ (by omega), Option.bind_some, ih m _ _ (by omega) hf' (by rw [List.length_append, List.length_singleton]; omega), List.append_assoc, List.singleton_append]
theorem r171 (R : zr_Z) {W : List Int32} (v : Int64) (hf : fin8 8 v = true) (hW : W.length + 8 ≤ 30000) : o_171 (rset R W) v = some (rset R (W ++ dec8 8 v)) :=
  r171_loop R v 8 oF v W (by decide) hf hW
theorem r166 (R : zr_Z) {W : List Int32} (c : Int32) (sa : Bool) (hW : W.length + 6 ≤ 30000) : o_166 (rset R W) c sa = some (rset R (W ++ esc sa c)) := by
  have one : ∀ (V : List Int32) (x : Int32), V.length < 30000 → o_164 (rset R V) x = some (rset R (V ++ [x])) := fun V x hV => r164 R x hV
  have hl : ∀ (V : List Int32) (x : Int32), (V ++ [x]).length = V.length + 1 := fun V x => by rw [List.length_append, List.length_singleton]
  have hap : ∀ (V U : List Int32) (x : Int32), V ++ [x] ++ U = V ++ (x :: U) := fun V U x => by rw [List.append_assoc]; rfl
  unfold o_166
  cases sa with
  | false => rw [if_neg (by decide), one W c (by omega), Option.bind_some]; rfl
  | true =>
    rw [if_pos rfl]
    by_cases h1 : c = 38
    · rw [h1, if_pos rfl, one W _ (by omega), Option.bind_some, if_pos rfl, one _ _ (by simp only [hl]; omega), Option.bind_some, one _ _ (by simp only [hl]; omega), Option.bind_some, one _ _ (by simp only [hl]; omega), Option.bind_some, one _ _ (by simp only [hl]; omega), Option.bind_some, show esc true 38 = [38, 97, 109, 112, 59] from rfl]
      simp only [List.append_assoc]; rfl
    rw [if_neg h1]
    by_cases h2 : c = 60
    · rw [h2, if_pos rfl, one W _ (by omega), Option.bind_some, if_neg (by decide), if_pos rfl, one _ _ (by simp only [hl]; omega), Option.bind_some, one _ _ (by simp only [hl]; omega), Option.bind_some, one _ _ (by simp only [hl]; omega), Option.bind_some, show esc true 60 = [38, 108, 116, 59] from rfl]
      simp only [List.append_assoc]; rfl
    rw [if_neg h2]
    by_cases h3 : c = 62
    · rw [h3, if_pos rfl, one W _ (by omega), Option.bind_some, if_neg (by decide), if_neg (by decide), if_pos rfl, one _ _ (by simp only [hl]; omega), Option.bind_some, one _ _ (by simp only [hl]; omega), Option.bind_some, one _ _ (by simp only [hl]; omega), Option.bind_some, show esc true 62 = [38, 103, 116, 59] from rfl]
      simp only [List.append_assoc]; rfl
    rw [if_neg h3]
    by_cases h4 : c = 34
    · rw [h4, if_pos rfl, one W _ (by omega), Option.bind_some, if_neg (by decide), if_neg (by decide), if_neg (by decide), one _ _ (by simp only [hl]; omega), Option.bind_some, one _ _ (by simp only [hl]; omega), Option.bind_some, one _ _ (by simp only [hl]; omega), Option.bind_some, one _ _ (by simp only [hl]; omega), Option.bind_some, one _ _ (by simp only [hl]; omega), Option.bind_some, show esc true 34 = [38, 113, 117, 111, 116, 59] from rfl]
      simp only [List.append_assoc]; rfl
    have he : esc true c = [c] := by unfold esc; rw [if_pos rfl, if_neg h4, if_neg h1, if_neg h2, if_neg h3]
    rw [if_neg h4, one W _ (by omega), Option.bind_some, he]
