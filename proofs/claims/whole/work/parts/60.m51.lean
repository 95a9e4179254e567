/-! the mathematics; written by wip/whole/m2parts.py -/
theorem o122_eq {R : zr_Z} {pl : Nat} (h : zf R 10 = nI pl) (hp : pl < 20000) (c : Int32) : o_122 R c = some (zmf (zar R 142 (nI pl) c) 10 (nI (pl + 1))) := by
  unfold o_122; rw [h, if_pos (inq_nI (by show pl < 20000; omega) (by omega)), nI_1]
theorem rn_letter {R R' : zr_Z} {N : List Nd} {pl i : Nat} {nd : Nd} {c : Int32} {f : Nat} (h : ∀ k nd, N[k]? = some nd → RND R pl k nd) (hi : N[i]? = some nd) (hf : rv R 166 i = nI f) (hfl : f + nd.2.2.2.1.length = pl) (hpl : pl < 20000)
    (hc : rv R' 142 pl = c) (hp : ∀ j, j < pl → rv R' 142 j = rv R 142 j) (h167 : rv R' 167 i = rv R 167 i + 1) (ho : ∀ j, 164 ≤ j → j ≤ 171 → ∀ k, (¬ j = 167 ∨ ¬ k = i) → rv R' j k = rv R j k) :
    (∀ k nd, (setL N i c)[k]? = some nd → RND R' (pl + 1) k nd) ∧ RCU R' (setL N i c) (pl + 1) i := by
  have hnew : (setL N i c)[i]? = some (ndL nd c) := by rw [setL_at hi, if_pos rfl]
  refine ⟨fun k nd' hk => ?_, ⟨ndL nd c, f, hnew, by rw [ho 166 (by omega) (by omega) i (Or.inl (by decide))]; exact hf, ?_⟩⟩
  · by_cases e : i = k
    · subst e
      obtain rfl := Option.some.inj (hnew.symm.trans hk)
      obtain ⟨a1, a2, a3, a4, a5, a6, ⟨f', b1, b2, b3⟩, ⟨g, c1, c2, c3⟩⟩ := h i nd hi
      have hff : f' = f := nI_inj (by omega) (by omega) (b1.symm.trans hf)
      subst hff
      have hlen : (ndL nd c).2.2.2.1.length = nd.2.2.2.1.length + 1 := by unfold ndL; dsimp only; rw [List.length_append]; rfl
      refine ⟨by rw [ho 164 (by omega) (by omega) i (Or.inl (by decide))]; exact a1, by rw [ho 165 (by omega) (by omega) i (Or.inl (by decide))]; exact a2, by rw [ho 171 (by omega) (by omega) i (Or.inl (by decide))]; exact a3, by rw [ho 170 (by omega) (by omega) i (Or.inl (by decide))]; exact a4, ?_, by rw [ho 169 (by omega) (by omega) i (Or.inl (by decide))]; exact a6, ⟨f', by rw [ho 166 (by omega) (by omega) i (Or.inl (by decide))]; exact b1, by omega, ?_⟩, ⟨g, by rw [ho 168 (by omega) (by omega) i (Or.inl (by decide))]; exact c1, ?_, ?_⟩⟩
      · rw [h167, a5, nI_1, hlen]
      · rw [hlen, rsl_snoc, rsl_cong (R := R) _ f' (fun j j1 j2 => hp j (by omega)), b3, hfl, hc]; rfl
      · show g + nd.2.2.2.2.1.length ≤ pl + 1; omega
      · show rsl R' g nd.2.2.2.2.1.length = nd.2.2.2.2.1
        rw [rsl_cong (R := R) _ g (fun j j1 j2 => hp j (by omega))]; exact c3
    · have hk' : N[k]? = some nd' := by
        cases hN : N[k]? with
        | none =>
          have := List.getElem?_eq_none_iff.mp hN
          have h2 := (List.getElem?_eq_some_iff.mp hk).1
          rw [setL_len] at h2; omega
        | some nd2 => rw [setL_at hN, if_neg e] at hk; exact hk
      exact RND_keep (h k nd' hk') (fun j j1 j2 => ho j j1 j2 k (Or.inr (fun hh => e hh.symm))) hp (by omega)
  · unfold ndL; dsimp only; rw [List.length_append]; show f + (nd.2.2.2.1.length + 1) = pl + 1; omega
theorem r151 {R : zr_Z} {S : GS} {pl : Nat} (c : Int32) (h : RS R S pl) (hn : S.1.length < 1600) (hp : pl < 20000) :
    ∃ R', o_151 R c (oI S.2.2) (hdI S.2.1) = some (oI (gst S (tkc c)).2.2, R') ∧ RS R' (gst S (tkc c)) (pl + 1) ∧ RG R R' pl ∧ FT R R' (mkn S (tkc c) → S.2.1.length < 20) := by
  obtain ⟨N, st, cur⟩ := S
  obtain ⟨h1, h2, h3, h4⟩ := h
  dsimp only at h1 h2 h3 h4 hn ⊢
  have h10 := h1.2.1
  have hz10 : ∀ (W : zr_Z) (x : Int32) f, ¬ f = 10 → zf (zmf W 10 x) f = zf W f := fun W x f hf => by unfold zf zmf; dsimp only; rw [mup_oth _ _ hf]
  have hz10s : ∀ (W : zr_Z) (x : Int32), zf (zmf W 10 x) 10 = x := fun W x => by unfold zf zmf; dsimp only; rw [mup_same]
  cases cur with
  | some i =>
    obtain ⟨nd, f, q1, q2, q3⟩ := h4 i rfl
    have hil := (List.getElem?_eq_some_iff.mp q1).1
    have hgs : gst (N, st, some i) (tkc c) = (setL N i c, st, some i) := gst_let rfl c
    obtain ⟨U, hU⟩ : ∃ U, U = zmf (zar R 142 (nI pl) c) 10 (nI (pl + 1)) := ⟨_, rfl⟩
    have uv : ∀ j, ¬ j = 142 → ∀ k, rv U j k = rv R j k := fun j hj k => by rw [hU, rv_zmf, rv_oth _ _ _ hj]
    have up : ∀ k, rv U 142 k = if k = pl then c else rv R 142 k := fun k => by rw [hU, rv_zmf, rv_at _ _ _ (by omega)]
    obtain ⟨R', hR'⟩ : ∃ R', R' = zar U 167 (nI i) (nI nd.2.2.2.1.length + 1) := ⟨_, rfl⟩
    have hnd := h1.2.2 i nd q1
    have e167 : zv U 167 (nI i) = nI nd.2.2.2.1.length := by rw [zv_nI _ _ (by omega), uv 167 (by decide)]; exact hnd.2.2.2.2.1
    have ho : ∀ j, ¬ j = 142 → ∀ k, (¬ j = 167 ∨ ¬ k = i) → rv R' j k = rv R j k := fun j j1 k hk => by
      rw [hR', rv_zar _ _ _ _ (by omega), if_neg (fun hh => by omega)]; exact uv j j1 k
    have hp142 : ∀ k, rv R' 142 k = if k = pl then c else rv R 142 k := fun k => by rw [hR', rv_oth _ _ _ (by decide)]; exact up k
    have h167 : rv R' 167 i = rv R 167 i + 1 := by rw [hR', hnd.2.2.2.2.1]; exact zar_rv_x (by omega)
    obtain ⟨w1, w2⟩ := rn_letter (R' := R') (c := c) h1.2.2 q1 q2 q3 hp (by rw [hp142, if_pos rfl]) (fun j hj => by rw [hp142, if_neg (by omega)]) h167 (fun j j1 j2 k hk => ho j (by omega) k hk)
    refine ⟨R', ?_, ?_, ⟨fun j j1 j2 k => ho j j1 k (Or.inl (by omega)), fun j hj => by rw [hp142, if_neg (by omega)], fun f f1 f2 f3 f4 => ?_⟩, FT.same (fun hh => absurd hh (mkn_let rfl c)) ?_ ?_⟩
    · rw [hgs]
      show o_151 R c (nI i) (hdI st) = some (nI i, R')
      unfold o_151
      rw [if_pos (ne_m1 (by omega)), o122_eq h10 hp, ← hU]
      simp only [Option.bind_some]
      rw [if_pos (inq_nI (by show i < 4000; omega) (by omega)), if_pos (inq_nI (by show i < 4000; omega) (by omega)), e167, ← hR']
    · rw [hgs]
      refine ⟨⟨?_, ?_, w1⟩, SK_setL h2, ?_, fun j hj => by obtain rfl := Option.some.inj hj; exact w2⟩
      · show zf R' 45 = nI (setL N i c).length
        rw [setL_len, hR', zf_zar, hU, hz10 _ _ _ (by decide), zf_zar]; exact h1.1
      · rw [hR', zf_zar, hU, hz10s]
      · show st.length ≤ (setL N i c).length; rw [setL_len]; exact h3
    · rw [hR', zf_zar, hU, hz10 _ _ _ f1, zf_zar]
    · rw [hR', zf_zar, hU, hz10 _ _ _ (by decide), zf_zar]
    · rw [hR', zf_zar, hU, hz10 _ _ _ (by decide), zf_zar]
  | none =>
    have hmk : mkn (N, st, none) (tkc c) := ⟨by show ¬ (0 : Int32) = 9; decide, by show ¬ (0 : Int32) = 10; decide, fun hh => hh.2 rfl⟩
    have hgs : gst (N, st, none) (tkc c) = (N ++ [nNd (tkc c) st], st, some N.length) := gst_new hmk
    obtain ⟨R1, b0, b1, b2, b3, b4, b5, b6, b7, b8, b9, b10, b11, b12, b13, b14⟩ := r150 (wh := 0) h1 h2 h3 hn
    generalize hnn : N.length = n at *
    obtain ⟨R2, hR2⟩ : ∃ R2, R2 = zar R1 166 (nI n) (nI pl) := ⟨_, rfl⟩
    obtain ⟨U, hU⟩ : ∃ U, U = zmf (zar R2 142 (nI pl) c) 10 (nI (pl + 1)) := ⟨_, rfl⟩
    have uv : ∀ j, ¬ j = 142 → ∀ k, rv U j k = rv R2 j k := fun j hj k => by rw [hU, rv_zmf, rv_oth _ _ _ hj]
    have r2v : ∀ j k, (¬ j = 166 ∨ ¬ k = n) → rv R2 j k = rv R1 j k := fun j k hk => by rw [hR2, rv_zar _ _ _ _ (by omega), if_neg (fun hh => by omega)]
    have r2s : rv R2 166 n = nI pl := by rw [hR2]; exact zar_rv_x (by omega)
    obtain ⟨R', hR'⟩ : ∃ R', R' = zar U 167 (nI n) (0 + 1) := ⟨_, rfl⟩
    have e167 : zv U 167 (nI n) = 0 := by rw [zv_nI _ _ (by omega), uv 167 (by decide), r2v 167 n (Or.inl (by decide))]; exact b8
    have h10' : zf R2 10 = nI pl := by rw [hR2, zf_zar]; exact b2
    have ho : ∀ j, ¬ j = 142 → ∀ k, (¬ j = 167 ∨ ¬ k = n) → rv R' j k = rv R2 j k := fun j j1 k hk => by
      rw [hR', rv_zar _ _ _ _ (by omega), if_neg (fun hh => by omega)]; exact uv j j1 k
    have hp142 : ∀ k, rv R' 142 k = if k = pl then c else rv R 142 k := fun k => by
      rw [hR', rv_oth _ _ _ (by decide), hU, rv_zmf, rv_at _ _ _ (by omega), r2v 142 k (Or.inl (by decide)), b3 142 (by omega)]
    have v167 : rv R' 167 n = 1 := by rw [hR']; exact zar_rv_x (by omega)
    have hf : ∀ f, ¬ f = 10 → zf R' f = zf R1 f := fun f hf => by rw [hR', zf_zar, hU, hz10 _ _ _ hf, zf_zar, hR2, zf_zar]
    have hlast : (N ++ [nNd (tkc c) st])[n]? = some (nNd (tkc c) st) := by rw [← hnn, List.getElem?_append_right (Nat.le_refl _), Nat.sub_self]; rfl
    have hold : ∀ j k, ¬ j = 142 → ¬ k = n → rv R' j k = rv R j k := fun j k j1 hk => by rw [ho j j1 k (Or.inr hk), r2v j k (Or.inr hk)]; exact b4 j k hk
    have hnw : ∀ j, ¬ j = 142 → ¬ j = 166 → ¬ j = 167 → rv R' j n = rv R1 j n := fun j j1 j2 j3 => by rw [ho j j1 n (Or.inl j3), r2v j n (Or.inl j2)]
    refine ⟨R', ?_, ?_, ⟨fun j j1 j2 k => ?_, fun j hj => by rw [hp142, if_neg (by omega)], fun f f1 f2 f3 f4 => (hf f f1).trans (b13 f f2 f3 f4)⟩, ?_⟩
    · rw [hgs]
      show o_151 R c (-1) (hdI st) = some (nI n, R')
      unfold o_151
      rw [if_neg (fun hh => hh rfl), b0]
      simp only [Option.bind_some]
      rw [if_pos (inq_nI (by show n < 4000; omega) (by omega)), b2, ← hR2, o122_eq h10' hp, ← hU]
      simp only [Option.bind_some]
      rw [if_pos (inq_nI (by show n < 4000; omega) (by omega)), if_pos (inq_nI (by show n < 4000; omega) (by omega)), e167, ← hR']
    · rw [hgs]
      refine ⟨⟨?_, ?_, fun k nd hk => ?_⟩, SK_app h2 _, ?_, fun j hj => ?_⟩
      · rw [hf 45 (by decide), b1]
        show nI (n + 1) = nI (N ++ [nNd (tkc c) st]).length
        rw [List.length_append, hnn]; rfl
      · rw [hR', zf_zar, hU, hz10s]
      · dsimp only at hk
        by_cases e : k < n
        · rw [List.getElem?_append_left (by omega)] at hk
          exact RND_keep (h1.2.2 k nd hk) (fun j j1 j2 => hold j k (by omega) (by omega)) (fun j hj => by rw [hp142, if_neg (by omega)]) (by omega)
        · have hkl := (List.getElem?_eq_some_iff.mp hk).1
          rw [List.length_append, hnn] at hkl
          obtain rfl : k = n := by simp only [List.length_cons, List.length_nil] at hkl; omega
          obtain rfl := Option.some.inj (hlast.symm.trans hk)
          refine ⟨(hnw 164 (by decide) (by decide) (by decide)).trans b5, (hnw 165 (by decide) (by decide) (by decide)).trans b6, (hnw 171 (by decide) (by decide) (by decide)).trans b12, (hnw 170 (by decide) (by decide) (by decide)).trans b11, v167, (hnw 169 (by decide) (by decide) (by decide)).trans b10, ⟨pl, ?_, Nat.le_refl _, ?_⟩, ⟨0, (hnw 168 (by decide) (by decide) (by decide)).trans b9, by show 0 + 0 ≤ _; omega, rfl⟩⟩
          · rw [ho 166 (by decide) k (Or.inl (by decide))]; exact r2s
          · show [rv R' 142 pl] = [c]
            rw [hp142, if_pos rfl]
      · show st.length ≤ (N ++ [nNd (tkc c) st]).length
        rw [List.length_append]; omega
      · obtain rfl := Option.some.inj hj
        exact ⟨_, pl, hlast, by rw [ho 166 (by decide) n (Or.inl (by decide))]; exact r2s, rfl⟩
    · rw [ho j j1 k (Or.inl (by omega)), r2v j k (Or.inl (by omega))]; exact b3 j j2 k
    · have : FT R R1 (mkn (N, st, none) (tkc c) → st.length < 20) := b14.iff ⟨fun hh _ => hh, fun hh => hh hmk⟩
      unfold FT at this ⊢
      rw [hf 46 (by decide), hf 47 (by decide)]; exact this
