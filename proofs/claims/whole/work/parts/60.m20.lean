/-! the mathematics; written by wip/whole/m2parts.py -/
theorem rv_zar (R : zr_Z) (j i : Nat) (x : Int32) (hi : i < 2 ^ 31) (j' i' : Nat) : rv (zar R j (nI i) x) j' i' = if j' = j ∧ i' = i then x else rv R j' i' := by
  unfold rv zar va_up upd; dsimp only
  rw [nI_clamp hi]
  by_cases h : j' = j
  · subst h
    rw [if_pos rfl]
    by_cases h2 : i' = i
    · rw [if_pos h2, if_pos ⟨rfl, h2⟩]
    · rw [if_neg h2, if_neg (fun h => h2 h.2)]
  · rw [if_neg h, if_neg (fun h' => h h'.1)]
theorem rv_oth (R : zr_Z) {j j' : Nat} (i : Int32) (x : Int32) (h : ¬ j' = j) (i' : Nat) : rv (zar R j i x) j' i' = rv R j' i' := by
  unfold rv zar va_up; dsimp only; rw [if_neg h]
theorem rv_at (R : zr_Z) (j : Nat) {i : Nat} (x : Int32) (hi : i < 2 ^ 31) (i' : Nat) : rv (zar R j (nI i) x) j i' = if i' = i then x else rv R j i' := by
  rw [rv_zar R j i x hi]
  by_cases h : i' = i
  · rw [if_pos ⟨rfl, h⟩, if_pos h]
  · rw [if_neg (fun h' => h h'.2), if_neg h]
theorem rv_zmf (R : zr_Z) (k : Nat) (x : Int32) (j i : Nat) : rv (zmf R k x) j i = rv R j i := rfl
theorem zf_zar (R : zr_Z) (j : Nat) (i x : Int32) (k : Nat) : zf (zar R j i x) k = zf R k := rfl
theorem zv_nI (R : zr_Z) (j : Nat) {i : Nat} (hi : i < 2 ^ 31) : zv R j (nI i) = rv R j i := by unfold zv rv; rw [nI_clamp hi]
theorem inq_nI {j i : Nat} (h : i < zr_alen j) (h2 : i < 2 ^ 31) : inq j (nI i) := by
  rintro (h' | h')
  · exact nI_pos h2 h'
  · rw [nI_clamp h2] at h'; omega
theorem r125 {R : zr_Z} {it : Nat} (h20 : zf R 20 = nI it) (hit : it + 1 < 8000) (wh le : Int32) :
    ∃ R', o_125 R wh le = some (nI (it + 1), R') ∧ (∀ j, (j < 143 ∨ 149 < j) → ∀ i, rv R' j i = rv R j i) ∧ (∀ j, 143 ≤ j → j ≤ 149 → ∀ i, ¬ i = it + 1 → rv R' j i = rv R j i) ∧
      rv R' 143 (it + 1) = wh ∧ rv R' 144 (it + 1) = le ∧ rv R' 145 (it + 1) = 0 ∧ rv R' 146 (it + 1) = 0 ∧ rv R' 147 (it + 1) = 0 ∧ rv R' 148 (it + 1) = 0 ∧ rv R' 149 (it + 1) = -1 ∧ zf R' 20 = nI (it + 1) ∧ ∀ f, ¬ f = 20 → zf R' f = zf R f := by
  have hq : ∀ j, zr_alen j = 8000 → inq j (nI (it + 1)) := fun j hj => inq_nI (by omega) (by omega)
  unfold o_125
  simp only [h20, nI_1]
  rw [if_pos (hq 143 rfl), if_pos (hq 144 rfl), if_pos (hq 145 rfl), if_pos (hq 146 rfl), if_pos (hq 147 rfl), if_pos (hq 148 rfl), if_pos (hq 149 rfl)]
  have hb : it + 1 < 2 ^ 31 := by omega
  refine ⟨_, rfl, ?_, ?_, ?_, ?_, ?_, ?_, ?_, ?_, ?_, ?_, ?_⟩
  · intro j hj i
    rw [rv_oth _ _ _ (by omega), rv_oth _ _ _ (by omega), rv_oth _ _ _ (by omega), rv_oth _ _ _ (by omega), rv_oth _ _ _ (by omega), rv_oth _ _ _ (by omega), rv_oth _ _ _ (by omega), rv_zmf]
  · intro j h1 h2 i hi
    simp only [rv_zar _ _ _ _ hb, rv_zmf]
    rw [if_neg (fun h => hi h.2), if_neg (fun h => hi h.2), if_neg (fun h => hi h.2), if_neg (fun h => hi h.2), if_neg (fun h => hi h.2), if_neg (fun h => hi h.2), if_neg (fun h => hi h.2)]
  · rw [rv_oth _ _ _ (by decide), rv_oth _ _ _ (by decide), rv_oth _ _ _ (by decide), rv_oth _ _ _ (by decide), rv_oth _ _ _ (by decide), rv_oth _ _ _ (by decide), rv_at _ _ _ hb, if_pos rfl]
  · rw [rv_oth _ _ _ (by decide), rv_oth _ _ _ (by decide), rv_oth _ _ _ (by decide), rv_oth _ _ _ (by decide), rv_oth _ _ _ (by decide), rv_at _ _ _ hb, if_pos rfl]
  · rw [rv_oth _ _ _ (by decide), rv_oth _ _ _ (by decide), rv_oth _ _ _ (by decide), rv_oth _ _ _ (by decide), rv_at _ _ _ hb, if_pos rfl]
  · rw [rv_oth _ _ _ (by decide), rv_oth _ _ _ (by decide), rv_oth _ _ _ (by decide), rv_at _ _ _ hb, if_pos rfl]
  · rw [rv_oth _ _ _ (by decide), rv_oth _ _ _ (by decide), rv_at _ _ _ hb, if_pos rfl]
  · rw [rv_oth _ _ _ (by decide), rv_at _ _ _ hb, if_pos rfl]
  · rw [rv_at _ _ _ hb, if_pos rfl]
  · exact zf_same _ _ _
  · intro f hf; exact zf_other _ _ hf
theorem r126 {R : zr_Z} {x b : Nat} (hx : x < 8000) (hb : b < 8000) (hxb : ¬ x = b) (hnx : rv R 150 b = 0 ∨ ∃ z, z < 8000 ∧ ¬ z = 0 ∧ rv R 150 b = nI z) :
    ∃ R', o_126 R (nI x) (nI b) = some R' ∧ putR R x b R' ∧ (∀ j, ¬ j = 150 → ¬ j = 151 → ∀ i, rv R' j i = rv R j i) ∧ ∀ f, ¬ f = 21 → zf R' f = zf R f := by
  have hq : ∀ j i, zr_alen j = 8000 → i < 8000 → inq j (nI i) := fun j i hj hi => inq_nI (by omega) (by omega)
  unfold o_126
  rw [if_pos (hq 150 b rfl hb), if_pos (hq 150 b rfl hb), if_pos (hq 151 x rfl hx), if_pos (hq 150 x rfl hx), zv_nI _ _ (by omega)]
  have hb' : b < 2 ^ 31 := by omega
  have hx' : x < 2 ^ 31 := by omega
  rcases hnx with h0 | ⟨z, hz, hz0, hzz⟩
  · rw [if_pos h0]
    refine ⟨_, rfl, ⟨fun v => ?_, fun v => ?_, ?_⟩, fun j h1 h2 i => ?_, fun f hf => zf_other _ _ hf⟩
    · rw [rv_zmf, rv_at _ _ _ hx', rv_oth _ _ _ (by decide), rv_at _ _ _ hb']
    · rw [rv_zmf, rv_oth _ _ _ (by decide), rv_at _ _ _ hx', rv_oth _ _ _ (by decide)]
      rw [if_neg (c := ¬ rv R 150 b = 0 ∧ nI v = rv R 150 b ∧ v < 8000) (fun h => h.1 h0)]
    · rw [zf_same, if_pos h0]
    · rw [rv_zmf, rv_oth _ _ _ h1, rv_oth _ _ _ h2, rv_oth _ _ _ h1]
  · have hne : ¬ rv R 150 b = 0 := by rw [hzz, ← nI_0, nI_eq (by omega) (by omega)]; exact hz0
    rw [if_neg hne, hzz, if_pos (hq 151 z rfl hz)]
    have hz' : z < 2 ^ 31 := by omega
    refine ⟨_, rfl, ⟨fun v => ?_, fun v => ?_, ?_⟩, fun j h1 h2 i => ?_, fun f hf => rfl⟩
    · rw [rv_oth _ _ _ (by decide), rv_at _ _ _ hx', rv_oth _ _ _ (by decide), rv_at _ _ _ hb', hzz]
    · rw [rv_at _ _ _ hz', rv_oth _ _ _ (by decide), rv_at _ _ _ hx', rv_oth _ _ _ (by decide), hzz]
      by_cases hv : v = z
      · rw [if_pos hv, if_pos ⟨by rw [← hzz]; exact hne, by rw [hv], by omega⟩]
      · rw [if_neg hv]
        rw [if_neg (c := ¬ nI z = 0 ∧ nI v = nI z ∧ v < 8000)]
        rintro ⟨_, h2, h3⟩
        rw [nI_eq (by omega) (by omega)] at h2; exact hv h2
    · rw [if_neg hne]; rfl
    · rw [rv_oth _ _ _ h2, rv_oth _ _ _ h1, rv_oth _ _ _ h2, rv_oth _ _ _ h1]
theorem chn_hd {R : zr_Z} : ∀ (l1 l2 : List Nat) u, chn R u (l1 ++ l2) → (∀ v ∈ l1 ++ l2, ¬ v = 0 ∧ v < 8000) → rv R 150 (lastOf u l1) = 0 ∨ ∃ z, z < 8000 ∧ ¬ z = 0 ∧ rv R 150 (lastOf u l1) = nI z := by
  intro l1 l2 u h hv
  have := chn_behind l1 l2 u h
  cases l2 with
  | nil => exact Or.inl this
  | cons z l2 => exact Or.inr ⟨z, (hv z (by simp)).2, (hv z (by simp)).1, this⟩
theorem r127 {R : zr_Z} {l : List Nat} {it : Nat} (h20 : zf R 20 = nI it) (hit : it + 1 < 8000) (hch : chn R 0 l) (hnd : (0 :: l).Nodup) (hl : ∀ v ∈ l, v ≤ it) (wh le : Int32) :
    ∃ R', o_127 R wh le = some (nI (it + 1), R') ∧ chn R' 0 (l ++ [it + 1]) ∧ (∀ j, (j < 143 ∨ 151 < j) → ∀ i, rv R' j i = rv R j i) ∧ (∀ j, 143 ≤ j → j ≤ 149 → ∀ i, ¬ i = it + 1 → rv R' j i = rv R j i) ∧
      rv R' 143 (it + 1) = wh ∧ rv R' 144 (it + 1) = le ∧ rv R' 145 (it + 1) = 0 ∧ rv R' 146 (it + 1) = 0 ∧ rv R' 147 (it + 1) = 0 ∧ rv R' 148 (it + 1) = 0 ∧ rv R' 149 (it + 1) = -1 ∧ zf R' 20 = nI (it + 1) ∧ ∀ f, ¬ f = 20 → ¬ f = 21 → zf R' f = zf R f := by
  obtain ⟨R1, h1, h2, h3, g143, g144, g145, g146, g147, g148, g149, g20, gf⟩ := r125 h20 hit wh le
  have hch1 : chn R1 0 l := chn_cong l 0 hch (fun v _ => h2 150 (by omega) v) (fun v _ => h2 151 (by omega) v) (gf 21 (by decide))
  have hlast := chn_last l 0 hch1
  have hlm := lastOf_mem l 0
  have hlb : lastOf 0 l ≤ it := by
    rcases List.mem_cons.mp hlm with h | h
    · omega
    · exact hl _ h
  have h0 : ∀ v ∈ l, ¬ v = 0 := fun v hv h => (List.nodup_cons.mp hnd).1 (h ▸ hv)
  obtain ⟨R2, q1, q2, q3, q4⟩ := r126 (R := R1) (x := it + 1) (b := lastOf 0 l) (by omega) (by omega) (by omega) (Or.inl hlast.2)
  have hch2 : chn R2 0 (l ++ (it + 1) :: []) := chn_put (by omega) (by omega) l [] 0 (by
    intro v hv
    rw [List.append_nil] at hv
    rcases List.mem_cons.mp hv with h | h
    · omega
    · have := hl v h; omega) (by rw [List.append_nil]; exact hnd) (by rw [List.append_nil]; exact h0) (by rw [List.append_nil]; exact hch1) q2
  refine ⟨R2, ?_, hch2, fun j hj i => ?_, fun j j1 j2 i hi => ?_, ?_, ?_, ?_, ?_, ?_, ?_, ?_, ?_, fun f f1 f2 => ?_⟩
  · unfold o_127; rw [h1]; simp only [Option.bind_some]; rw [hlast.1, q1]; rfl
  · rw [q3 j (by omega) (by omega)]; exact h2 j (by omega) i
  · rw [q3 j (by omega) (by omega)]; exact h3 j j1 j2 i hi
  · rw [q3 143 (by omega) (by omega)]; exact g143
  · rw [q3 144 (by omega) (by omega)]; exact g144
  · rw [q3 145 (by omega) (by omega)]; exact g145
  · rw [q3 146 (by omega) (by omega)]; exact g146
  · rw [q3 147 (by omega) (by omega)]; exact g147
  · rw [q3 148 (by omega) (by omega)]; exact g148
  · rw [q3 149 (by omega) (by omega)]; exact g149
  · rw [q4 20 (by decide)]; exact g20
  · rw [q4 f f2]; exact gf f f1
