/-! the mathematics; written by wip/whole/m2parts.py -/
def RND (R : zr_Z) (pl k : Nat) (nd : Nd) : Prop := rv R 164 k = nd.1 ∧ rv R 165 k = nd.2.1 ∧ rv R 171 k = nI nd.2.2.1 ∧ rv R 170 k = nd.2.2.2.2.2 ∧ rv R 167 k = nI nd.2.2.2.1.length ∧ rv R 169 k = nI nd.2.2.2.2.1.length ∧
  (∃ f, rv R 166 k = nI f ∧ f + nd.2.2.2.1.length ≤ pl ∧ rsl R f nd.2.2.2.1.length = nd.2.2.2.1) ∧ (∃ g, rv R 168 k = nI g ∧ g + nd.2.2.2.2.1.length ≤ pl ∧ rsl R g nd.2.2.2.2.1.length = nd.2.2.2.2.1)
def RN (R : zr_Z) (N : List Nd) (pl : Nat) : Prop := zf R 45 = nI N.length ∧ zf R 10 = nI pl ∧ ∀ k nd, N[k]? = some nd → RND R pl k nd
def RCU (R : zr_Z) (N : List Nd) (pl i : Nat) : Prop := ∃ nd f, N[i]? = some nd ∧ rv R 166 i = nI f ∧ f + nd.2.2.2.1.length = pl
def RS (R : zr_Z) (S : GS) (pl : Nat) : Prop := RN R S.1 pl ∧ SK S.1 S.2.1 ∧ S.2.1.length ≤ S.1.length ∧ ∀ i, S.2.2 = some i → RCU R S.1 pl i
def RG (R R' : zr_Z) (pl : Nat) : Prop := (∀ j, ¬ j = 142 → (j < 164 ∨ 171 < j) → ∀ i, rv R' j i = rv R j i) ∧ (∀ i, i < pl → rv R' 142 i = rv R 142 i) ∧ ∀ f, ¬ f = 10 → ¬ f = 45 → ¬ f = 46 → ¬ f = 47 → zf R' f = zf R f
theorem RG.refl (R : zr_Z) (pl : Nat) : RG R R pl := ⟨fun _ _ _ _ => rfl, fun _ _ => rfl, fun _ _ _ _ _ => rfl⟩
theorem RG.trans {R S U : zr_Z} {p q : Nat} (h : RG R S p) (g : RG S U q) (hpq : p ≤ q) : RG R U p :=
  ⟨fun j h1 h2 i => (g.1 j h1 h2 i).trans (h.1 j h1 h2 i), fun i hi => (g.2.1 i (by omega)).trans (h.2.1 i hi), fun f a b c d => (g.2.2 f a b c d).trans (h.2.2 f a b c d)⟩
def FT (R R' : zr_Z) (ok : Prop) : Prop := (zf R 46 = 0 → (ok → zf R' 46 = 0 ∧ zf R' 47 = zf R 47) ∧ (¬ ok → zf R' 46 = 3 ∧ zf R' 47 = -1)) ∧ (¬ zf R 46 = 0 → zf R' 46 = zf R 46 ∧ zf R' 47 = zf R 47)
theorem FT.refl (R : zr_Z) {ok : Prop} (h : ok) : FT R R ok := ⟨fun h0 => ⟨fun _ => ⟨h0, rfl⟩, fun hh => absurd h hh⟩, fun _ => ⟨rfl, rfl⟩⟩
theorem FT.same {R R' : zr_Z} {ok : Prop} (h : ok) (h1 : zf R' 46 = zf R 46) (h2 : zf R' 47 = zf R 47) : FT R R' ok := ⟨fun h0 => ⟨fun _ => ⟨h1.trans h0, h2⟩, fun hh => absurd h hh⟩, fun _ => ⟨h1, h2⟩⟩
theorem FT.trans {R S U : zr_Z} {a b : Prop} (h : FT R S a) (g : FT S U b) : FT R U (a ∧ b) := by
  refine ⟨fun h0 => ?_, fun h0 => ?_⟩
  · by_cases ha : a
    · have h1 := (h.1 h0).1 ha
      have g1 := g.1 h1.1
      refine ⟨fun hab => ⟨(g1.1 hab.2).1, (g1.1 hab.2).2.trans h1.2⟩, fun hab => g1.2 (fun hb => hab ⟨ha, hb⟩)⟩
    · have h1 := (h.1 h0).2 ha
      have g1 := g.2 (by rw [h1.1]; decide)
      exact ⟨fun hab => absurd hab.1 ha, fun _ => ⟨g1.1.trans h1.1, g1.2.trans h1.2⟩⟩
  · have h1 := h.2 h0
    have g1 := g.2 (by rw [h1.1]; exact h0)
    exact ⟨g1.1.trans h1.1, g1.2.trans h1.2⟩
theorem FT.iff {R S : zr_Z} {a b : Prop} (h : FT R S a) (e : a ↔ b) : FT R S b := by rw [← (propext e : a = b)]; exact h
theorem rn_hold {R : zr_Z} {N : List Nd} {i : Nat} {st : List Nat} {pl : Nat} (h : RN R N pl) (hs : SK N (i :: st)) : rv R 165 i = hdI st ∧ rv R 171 i = nI (st.length + 1) := by
  obtain ⟨⟨nd, h1, h3, h4⟩, -⟩ := hs
  have := h.2.2 i nd h1
  exact ⟨this.2.1.trans h3, by rw [this.2.2.1, h4]⟩
theorem RND_keep {R R' : zr_Z} {pl pl' k : Nat} {nd : Nd} (h : RND R pl k nd) (hk : ∀ j, 164 ≤ j → j ≤ 171 → rv R' j k = rv R j k) (hp : ∀ i, i < pl → rv R' 142 i = rv R 142 i) (hpl : pl ≤ pl') : RND R' pl' k nd := by
  obtain ⟨a1, a2, a3, a4, a5, a6, ⟨f, b1, b2, b3⟩, ⟨g, c1, c2, c3⟩⟩ := h
  refine ⟨by rw [hk 164 (by omega) (by omega)]; exact a1, by rw [hk 165 (by omega) (by omega)]; exact a2, by rw [hk 171 (by omega) (by omega)]; exact a3, by rw [hk 170 (by omega) (by omega)]; exact a4, by rw [hk 167 (by omega) (by omega)]; exact a5, by rw [hk 169 (by omega) (by omega)]; exact a6, ⟨f, by rw [hk 166 (by omega) (by omega)]; exact b1, by omega, ?_⟩, ⟨g, by rw [hk 168 (by omega) (by omega)]; exact c1, by omega, ?_⟩⟩
  · rw [rsl_cong _ f (fun i i1 i2 => hp i (by omega))]; exact b3
  · rw [rsl_cong _ g (fun i i1 i2 => hp i (by omega))]; exact c3
def rb150 (Z : zr_Z) (n wh ho dp : Int32) : zr_Z := zar (zar (zar (zar (zar (zar (zar (zar Z 164 n wh) 165 n ho) 166 n 0) 167 n 0) 168 n 0) 169 n 0) 170 n (-1)) 171 n dp
theorem rb150_rv {Z : zr_Z} {n : Nat} {wh ho dp : Int32} (hn : n < 2 ^ 31) : (∀ j, (j < 164 ∨ 171 < j) → ∀ i, rv (rb150 Z (nI n) wh ho dp) j i = rv Z j i) ∧ (∀ j, ∀ i, ¬ i = n → rv (rb150 Z (nI n) wh ho dp) j i = rv Z j i) ∧
    rv (rb150 Z (nI n) wh ho dp) 164 n = wh ∧ rv (rb150 Z (nI n) wh ho dp) 165 n = ho ∧ rv (rb150 Z (nI n) wh ho dp) 166 n = 0 ∧ rv (rb150 Z (nI n) wh ho dp) 167 n = 0 ∧ rv (rb150 Z (nI n) wh ho dp) 168 n = 0 ∧ rv (rb150 Z (nI n) wh ho dp) 169 n = 0 ∧ rv (rb150 Z (nI n) wh ho dp) 170 n = -1 ∧ rv (rb150 Z (nI n) wh ho dp) 171 n = dp ∧ (∀ f, zf (rb150 Z (nI n) wh ho dp) f = zf Z f) := by
  unfold rb150
  refine ⟨fun j hj i => ?_, fun j i hi => ?_, ?_, ?_, ?_, ?_, ?_, ?_, ?_, ?_, fun f => rfl⟩
  · rw [rv_oth _ _ _ (by omega), rv_oth _ _ _ (by omega), rv_oth _ _ _ (by omega), rv_oth _ _ _ (by omega), rv_oth _ _ _ (by omega), rv_oth _ _ _ (by omega), rv_oth _ _ _ (by omega), rv_oth _ _ _ (by omega)]
  · rw [rv_zar _ _ _ _ hn, if_neg (fun hh => hi hh.2), rv_zar _ _ _ _ hn, if_neg (fun hh => hi hh.2), rv_zar _ _ _ _ hn, if_neg (fun hh => hi hh.2), rv_zar _ _ _ _ hn, if_neg (fun hh => hi hh.2), rv_zar _ _ _ _ hn, if_neg (fun hh => hi hh.2), rv_zar _ _ _ _ hn, if_neg (fun hh => hi hh.2), rv_zar _ _ _ _ hn, if_neg (fun hh => hi hh.2), rv_zar _ _ _ _ hn, if_neg (fun hh => hi hh.2)]
  · rw [rv_oth _ _ _ (by decide), rv_oth _ _ _ (by decide), rv_oth _ _ _ (by decide), rv_oth _ _ _ (by decide), rv_oth _ _ _ (by decide), rv_oth _ _ _ (by decide), rv_oth _ _ _ (by decide)]; exact zar_rv_x hn
  · rw [rv_oth _ _ _ (by decide), rv_oth _ _ _ (by decide), rv_oth _ _ _ (by decide), rv_oth _ _ _ (by decide), rv_oth _ _ _ (by decide), rv_oth _ _ _ (by decide)]; exact zar_rv_x hn
  · rw [rv_oth _ _ _ (by decide), rv_oth _ _ _ (by decide), rv_oth _ _ _ (by decide), rv_oth _ _ _ (by decide), rv_oth _ _ _ (by decide)]; exact zar_rv_x hn
  · rw [rv_oth _ _ _ (by decide), rv_oth _ _ _ (by decide), rv_oth _ _ _ (by decide), rv_oth _ _ _ (by decide)]; exact zar_rv_x hn
  · rw [rv_oth _ _ _ (by decide), rv_oth _ _ _ (by decide), rv_oth _ _ _ (by decide)]; exact zar_rv_x hn
  · rw [rv_oth _ _ _ (by decide), rv_oth _ _ _ (by decide)]; exact zar_rv_x hn
  · rw [rv_oth _ _ _ (by decide)]; exact zar_rv_x hn
  · exact zar_rv_x hn
theorem r150 {R : zr_Z} {N : List Nd} {st : List Nat} {pl : Nat} {wh : Int32} (h : RN R N pl) (hs : SK N st) (hl : st.length ≤ N.length) (hn : N.length < 1600) :
    ∃ R', o_150 R wh (hdI st) = some (nI N.length, R') ∧ zf R' 45 = nI (N.length + 1) ∧ zf R' 10 = nI pl ∧ (∀ j, (j < 164 ∨ 171 < j) → ∀ i, rv R' j i = rv R j i) ∧ (∀ j, ∀ i, ¬ i = N.length → rv R' j i = rv R j i) ∧
      rv R' 164 N.length = wh ∧ rv R' 165 N.length = hdI st ∧ rv R' 166 N.length = 0 ∧ rv R' 167 N.length = 0 ∧ rv R' 168 N.length = 0 ∧ rv R' 169 N.length = 0 ∧ rv R' 170 N.length = -1 ∧ rv R' 171 N.length = nI (st.length + 1) ∧
      (∀ f, ¬ f = 45 → ¬ f = 46 → ¬ f = 47 → zf R' f = zf R f) ∧ FT R R' (st.length < 20) := by
  have hq : ∀ j, zr_alen j = 4000 → inq j (nI N.length) := fun j hj => inq_nI (by omega) (by omega)
  have hdp : (if ¬ hdI st = (-1) then ((zv R 171 (hdI st)) + 1) else 1 : Int32) = nI (st.length + 1) ∧ (if ¬ hdI st = (-1) then (inq 171 (hdI st) ∧ True) else True) := by
    cases st with
    | nil => exact ⟨by rw [if_neg (fun hh => hh rfl)]; rfl, by rw [if_neg (fun hh => hh rfl)]; trivial⟩
    | cons i st =>
      have hi := SK_lt hs
      have := (rn_hold h hs).2
      refine ⟨?_, ?_⟩
      · show (if ¬ nI i = (-1) then ((zv R 171 (nI i)) + 1) else 1 : Int32) = _
        rw [if_pos (ne_m1 (by omega)), zv_nI _ _ (by omega), this, nI_1]; rfl
      · show if ¬ nI i = (-1) then (inq 171 (nI i) ∧ True) else True
        rw [if_pos (ne_m1 (by omega))]; exact ⟨inq_nI (by show i < 4000; omega) (by omega), trivial⟩
  obtain ⟨B, hB⟩ : ∃ B, B = rb150 R (nI N.length) wh (hdI st) (nI (st.length + 1)) := ⟨_, rfl⟩
  obtain ⟨b1, b2, b3, b4, b5, b6, b7, b8, b9, b10, b11⟩ := rb150_rv (Z := R) (n := N.length) (wh := wh) (ho := hdI st) (dp := nI (st.length + 1)) (by omega)
  rw [← hB] at b1 b2 b3 b4 b5 b6 b7 b8 b9 b10 b11
  have h45 : zf R 45 = nI N.length := h.1
  have main : o_150 R wh (hdI st) = (if (nI (st.length + 1)) ≤ 20 then some (((zf R 45) + 1) - 1, zmf B 45 ((zf R 45) + 1)) else (if ¬ (zf R 46) = 0 then some (((zf R 45) + 1) - 1, zmf B 45 ((zf R 45) + 1)) else (Option.bind (o_148 B 3 (-1)) fun u16 => some (((zf u16 45) + 1) - 1, zmf u16 45 ((zf u16 45) + 1))))) := by
    unfold o_150
    rw [h45, if_pos (hq 164 rfl), if_pos (hq 165 rfl), if_pos (hq 166 rfl), if_pos (hq 167 rfl), if_pos (hq 168 rfl), if_pos (hq 169 rfl), if_pos (hq 170 rfl), if_pos hdp.2, if_pos (hq 171 rfl), if_pos (hq 171 rfl), hdp.1, hB]
    rw [show zv (zar (zar (zar (zar (zar (zar (zar (zar R 164 (nI N.length) wh) 165 (nI N.length) (hdI st)) 166 (nI N.length) 0) 167 (nI N.length) 0) 168 (nI N.length) 0) 169 (nI N.length) 0) 170 (nI N.length) (-1)) 171 (nI N.length) (nI (st.length + 1))) 171 (nI N.length) = nI (st.length + 1) from by rw [zv_nI _ _ (by omega)]; exact zar_rv_x (by omega)]
    rfl
  have e1 : nI N.length + 1 - 1 = nI N.length := by rw [nI_1, nI_pred]
  have hz : ∀ (W : zr_Z) (x : Int32) f, ¬ f = 45 → zf (zmf W 45 x) f = zf W f := fun W x f hf => by unfold zf zmf; dsimp only; rw [mup_oth _ _ hf]
  have hz2 : ∀ (W : zr_Z) (x y : Int32) f, ¬ f = 46 → ¬ f = 47 → zf (zmf (zmf W 46 x) 47 y) f = zf W f := fun W x y f h6 h7 => by unfold zf zmf; dsimp only; rw [mup_oth _ _ h7, mup_oth _ _ h6]
  have h45' : ∀ (W : zr_Z) (x : Int32), zf (zmf W 45 x) 45 = x := fun W x => by unfold zf zmf; dsimp only; rw [mup_same]
  by_cases hd : st.length < 20
  · refine ⟨zmf B 45 (nI (N.length + 1)), ?_, h45' _ _, (hz _ _ _ (by decide)).trans ((b11 10).trans h.2.1), b1, b2, b3, b4, b5, b6, b7, b8, b9, b10, fun f f1 f2 f3 => (hz _ _ _ f1).trans (b11 f), FT.same hd ((hz _ _ _ (by decide)).trans (b11 46)) ((hz _ _ _ (by decide)).trans (b11 47))⟩
    rw [main, if_pos (by rw [show (20 : Int32) = nI 20 from rfl, nI_leI (by omega) (by omega)]; omega), h45, e1, nI_1]
  · rw [main, if_neg (by rw [show (20 : Int32) = nI 20 from rfl, nI_leI (by omega) (by omega)]; omega), h45, e1, nI_1]
    by_cases hf : zf R 46 = 0
    · refine ⟨zmf (zmf (zmf B 46 3) 47 (-1)) 45 (nI (N.length + 1)), ?_, h45' _ _, ?_, b1, b2, b3, b4, b5, b6, b7, b8, b9, b10, fun f f1 f2 f3 => (hz _ _ _ f1).trans ((hz2 _ _ _ _ f2 f3).trans (b11 f)), ⟨fun _ => ⟨fun hh => absurd hh hd, fun _ => ⟨?_, ?_⟩⟩, fun hh => absurd hf hh⟩⟩
      · rw [if_neg (fun hh => hh hf)]
        unfold o_148
        simp only [Option.bind_some]
        rw [hz2 _ _ _ _ (by decide) (by decide), b11, h45, e1, nI_1]
      · exact (hz _ _ _ (by decide)).trans ((hz2 _ _ _ _ (by decide) (by decide)).trans ((b11 10).trans h.2.1))
      · rw [hz _ _ _ (by decide)]; unfold zf zmf; dsimp only; rw [mup_oth _ _ (by decide), mup_same]
      · rw [hz _ _ _ (by decide)]; unfold zf zmf; dsimp only; rw [mup_same]
    · refine ⟨zmf B 45 (nI (N.length + 1)), by rw [if_pos hf], h45' _ _, (hz _ _ _ (by decide)).trans ((b11 10).trans h.2.1), b1, b2, b3, b4, b5, b6, b7, b8, b9, b10, fun f f1 f2 f3 => (hz _ _ _ f1).trans (b11 f), ⟨fun hh => absurd hh hf, fun _ => ⟨(hz _ _ _ (by decide)).trans (b11 46), (hz _ _ _ (by decide)).trans (b11 47)⟩⟩⟩
