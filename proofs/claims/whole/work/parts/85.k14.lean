/-! THE LAW, 3: steps over the script and the answer's cell -/
section Rz2
variable {fm : Value} {sx : Nat × (Nat → Int32)} {d y pc pcT : Nat} {loc locT : am_L} {stk stkT rest : List Value} {Z ZT : zr_Z}
theorem rz_fgt (m : List Bool) {loc' : am_L} (hm : am_msk m loc = loc') (kk : rz fm sx d y pc loc' stk Z pcT locT stkT ZT) : rz fm sx d y pc loc stk Z pcT locT stkT ZT :=
  rz_steps (fun h B hP k z => ⟨1, h, 0, 0, B, ⟨_, Or.inr (Or.inr (Or.inl ⟨loc', by subst hm; exact ⟨am_msk_len m loc, am_msk_get m loc⟩, rfl⟩)), rfl⟩, hP, by omega, by omega⟩) kk
theorem rz_sald {n c b : Nat} {u : Value} {i : Int32} (ho : am_ops y pc = some (.iaload, n, c, b, u)) (hin : ¬ (i < 0 ∨ sx.1 ≤ i.toNatClampNeg)) (kk : rz fm sx d y (pc + 1) loc (.int (sx.2 i.toNatClampNeg) :: rest) Z pcT locT stkT ZT) : rz fm sx d y pc loc (.int i :: .ref 0 :: rest) Z pcT locT stkT ZT :=
  rz_st ho (fun h B hP => ⟨h, fun k z => by
    obtain ⟨ga, gn, gf, G⟩ := hP
    have he := G.2.2.2.2.2.2.1.1
    simp only [am_stp, am_iald, he]
    rw [if_pos ⟨trivial, hin⟩], hP⟩) kk
theorem rz_salen {n c b : Nat} {u : Value} (ho : am_ops y pc = some (.arraylength, n, c, b, u)) (kk : rz fm sx d y (pc + 1) loc (.int (Int32.ofNat sx.1) :: rest) Z pcT locT stkT ZT) : rz fm sx d y pc loc (.ref 0 :: rest) Z pcT locT stkT ZT :=
  rz_st ho (fun h B hP => ⟨h, fun k z => by
    obtain ⟨ga, gn, gf, G⟩ := hP
    have he := G.2.2.2.2.2.2.1.1
    simp only [am_stp, am_alen, he]
    rw [if_pos (by decide)], hP⟩) kk
theorem rz_lald {n c b : Nat} {u : Value} (ho : am_ops y pc = some (.laload, n, c, b, u)) (kk : rz fm sx d y (pc + 1) loc (.long (Z.2.2.2.2 0) :: rest) Z pcT locT stkT ZT) : rz fm sx d y pc loc (.int 0 :: .ref 174 :: rest) Z pcT locT stkT ZT :=
  rz_st ho (fun h B hP => ⟨h, fun k z => by
    obtain ⟨ga, gn, gf, G⟩ := hP
    have he : h.1 174 = _ := G.2.2.2.2.2.1
    simp only [am_stp, am_lald, he]
    rw [if_pos ⟨trivial, by decide⟩]; rfl, hP⟩) kk
theorem rz_last {n c b : Nat} {u : Value} {x : Int64} (ho : am_ops y pc = some (.lastore, n, c, b, u)) (kk : rz fm sx d y (pc + 1) loc rest (zlg Z (vp_updL Z.2.2.2.2 0 x)) pcT locT stkT ZT) : rz fm sx d y pc loc (.long x :: .int 0 :: .ref 174 :: rest) Z pcT locT stkT ZT :=
  rz_st ho (fun h B hP => by
    obtain ⟨ga, gn, gf, G⟩ := hP
    have he : h.1 174 = _ := G.2.2.2.2.2.1
    refine ⟨am_up h 174 (.inl (1, 1, .inr (.inl (vp_updL Z.2.2.2.2 0 x)))), fun k z => by
      simp only [am_stp, am_last, he]
      rw [if_pos ⟨trivial, by decide, by decide⟩]; rfl, ga, gn, gf, zr_G_fix G (by decide) (by decide) (by decide) rfl (fun j v hv => Or.inr ⟨fun e => ?_, hv⟩) (Or.inr ⟨by decide, rfl⟩) (fun j h1 h2 => Or.inr ⟨by omega, rfl⟩) (Or.inl ⟨rfl, rfl⟩)⟩
    have := (zr_ob_fix hv).2.2.2.1
    omega) kk
/-- a word of the script -/
theorem rz_word {n c b pc' : Nat} {u : Value} {i j : Int32} (hr : ∀ h k z, am_run fm y 4 (pc, loc, stk, h, k, z) = some (pc + 5, loc, .int (i + j) :: .ref 0 :: stk, h, k, z)) (ho : am_ops y (pc + 5) = some (.iaload, n, c, b, u)) (hin : ¬ (i + j < 0 ∨ sx.1 ≤ (i + j).toNatClampNeg)) (hp : pc + 6 = pc') (kk : rz fm sx d y pc' loc (.int (sx.2 (i + j).toNatClampNeg) :: stk) Z pcT locT stkT ZT) : rz fm sx d y pc loc stk Z pcT locT stkT ZT :=
  rz_run 4 hr (rz_sald ho hin (by rw [show pc + 5 + 1 = pc' from hp]; exact kk))
end Rz2
