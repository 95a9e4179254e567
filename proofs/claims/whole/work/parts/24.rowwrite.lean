/-! MarkInlines.Row: cut, add, refill; Arrays.copyOf, Arrays.fill -/
section RowWrite
variable {fm : Value} {sx : Nat × (Nat → Int32)} {d id : Nat} {Z : zr_Z}
set_option maxRecDepth 100000 in
theorem c_row_cut (hid : id ∈ zr_rows) (i : Int32) : zl fm sx (d + 1) 72 [.ref id, .int i] Z (fun r Z' => r = none ∧ Z' = (va_up Z.1 id (rcut (Z.1 id) i), Z.2)) := by
  refine zl_of_hw (nL := 2) (loc0 := [some (.ref id), some (.int i)]) rfl rfl rfl fun h B ga gn gf G => ?_
  obtain ⟨r1, r2, r3, r4, r5, r6, r7, r8, r9, r10⟩ := G.2.1 id hid
  have hm := zr_most_lt id hid
  have hX := zr_rows_X id hid
  have out : rcut (Z.1 id) i = Z.1 id → hw fm d 72 17 [some (.ref id), some (.int i)] [] h (fun r h' mc ms => ∃ Z' B', zr_P sx Z' B' h' ∧ mc + B' ≤ B ∧ ms + 2 * B' ≤ 2 * B ∧ r = none ∧ Z' = (va_up Z.1 id (rcut (Z.1 id) i), Z.2)) := fun e =>
    hw_retv rfl rfl ⟨Z, B, ⟨ga, gn, gf, G⟩, by omega, by omega, rfl, by rw [e, zr_up_self]⟩
  refine hw_run 1 (pc' := 1) (loc' := [some (.ref id), some (.int i)]) (stk' := [.int i]) (fun _ _ => rfl) ?_
  refine hw_br (c := i < 0) (t1 := 17) (t2 := 4) (loc' := [some (.ref id), some (.int i)]) (stk' := []) (fun _ _ => rfl) (fun c1 => out (by unfold rcut; rw [if_pos c1])) (fun c1 => ?_)
  obtain ⟨j, hj, rfl, hcl⟩ := nI_of_nn c1
  have er : rcut (Z.1 id) (nI j) = (Z.1 id).take j := by unfold rcut; rw [if_neg c1, hcl]
  refine hw_run 2 (pc' := 6) (loc' := [some (.ref id), some (.int (nI j))]) (stk' := [.ref id, .int (nI j)]) (fun _ _ => rfl) ?_
  refine hw_get (v := .int (nI (Z.1 id).length)) rfl r1 rfl ?_
  refine hw_br (c := nI (Z.1 id).length ≤ nI j) (t1 := 17) (t2 := 12) (loc' := [some (.ref id), some (.int (nI j))]) (stk' := []) (fun _ _ => rfl) (fun c2 => out ?_) (fun c2 => ?_)
  · rw [er]; exact List.take_of_length_le ((nI_leI (by omega) hj).mp c2)
  have c3 : j < (Z.1 id).length := by
    rcases Nat.lt_or_ge j (Z.1 id).length with q | q
    · exact q
    · exact absurd (nI_le q (by omega)) c2
  refine hw_run 2 (pc' := 14) (loc' := [some (.ref id), some (.int (nI j))]) (stk' := [.int (nI j), .ref id]) (fun _ _ => rfl) ?_
  refine hw_put rfl r1 hX (Nat.le_of_ble_eq_true rfl) rfl ?_
  refine hw_retv rfl rfl ⟨(va_up Z.1 id (rcut (Z.1 id) (nI j)), Z.2), B, ?_, by omega, by omega, rfl, rfl⟩
  rw [er]
  have hne : ga id ≠ id := fun q => by rw [q, (zr_rows_fix id hid).1] at r3; cases r3
  have hlen : ((Z.1 id).take j).length = j := by rw [List.length_take]; omega
  refine ⟨_, _, _, zr_G_row (a' := ga id) (n' := gn id) (f' := gf id) G hid (fun q h1 h2 => by simp [am_up, h1]) (Nat.le_refl _) (Or.inl rfl) ⟨?_, ?_, r3, r4, r5, ?_, ?_, fun q v hq => ?_, r9, r10⟩ ?_⟩
  · rw [hlen]; simp [am_up]
  · simp [am_up, hne, r2]
  · omega
  · omega
  · rw [List.getElem?_take] at hq
    split at hq
    · exact r8 q v hq
    · cases hq
  · rw [zr_up_self]; exact G.2.2.2.2.2.2.2.2
/-- Arrays.copyOf to another length, over any heap -/
theorem c_copyOf {h : am_H} {a n m : Nat} {f : Nat → Int32} (ha : h.1 a = some (.inl (0, n, .inl f))) (hX : am_X ≤ h.2) (halt : a < h.2) (hnm : n ≤ m) (hne : n ≠ m) (hm : m ≤ 134217728) :
    ∃ r h' mc ms, am_R fm (d + 1) 210 [.ref a, .int (nI m)] h r h' mc ms ∧ r = some (.ref h.2) ∧ mc = 1 ∧ ms = m ∧ ∃ f', h' = am_up (am_new h (.inl (0, m, .inl (fun _ => 0)))) h.2 (.inl (0, m, .inl f')) ∧ ∀ i, i < n → f' i = f i := by
  have hnn : n ≠ m := hne
  have em : (nI m).toNatClampNeg = m := nI_clamp (by omega)
  refine hw_R (nL := 3) (loc0 := [some (.ref a), some (.int (nI m)), none]) rfl rfl rfl ?_
  refine hw_run 2 (pc' := 2) (loc' := [some (.ref a), some (.int (nI m)), none]) (stk' := [.ref a, .int (nI m)]) (fun _ _ => rfl) ?_
  refine hw_alen rfl ha (by decide) ?_
  refine hw_br (c := ¬ nI m = nI n) (t1 := 14) (t2 := 6) (loc' := [some (.ref a), some (.int (nI m)), none]) (stk' := []) (fun _ _ => rfl) (fun c1 => ?_) (fun c1 => absurd (fun q => hne ((nI_eq (by omega) (by omega)).mp q).symm) c1)
  refine hw_run 1 (pc' := 15) (loc' := [some (.ref a), some (.int (nI m)), none]) (stk' := [.int (nI m)]) (fun _ _ => rfl) ?_
  refine hw_newa rfl (nI_pos (by omega)) (by rw [em]; exact hm) ?_
  rw [em]
  refine hw_run 6 (pc' := 22 + 1) (loc' := [some (.ref a), some (.int (nI m)), some (.ref h.2)]) (stk' := [.ref a, .int 0, .ref h.2, .int 0, .ref a]) (fun _ _ => rfl) ?_
  have ha2 : (am_new h (.inl (0, m, .inl (fun _ => 0)))).1 a = some (.inl (0, n, .inl f)) := by simp [am_new, Nat.ne_of_lt halt, ha]
  refine hw_alen rfl ha2 (by decide) ?_
  refine hw_run 1 (pc' := 25) (loc' := [some (.ref a), some (.int (nI m)), some (.ref h.2)]) (stk' := [.int (nI m), .int (nI n), .int 0, .ref h.2, .int 0, .ref a]) (fun _ _ => rfl) ?_
  refine hw_mm rfl (Or.inr rfl) rfl ?_
  have emin : (if (207 : Nat) = 206 then (if nI n < nI m then nI m else nI n) else (if nI m < nI n then nI m else nI n)) = nI n := by
    rw [if_neg (by decide), if_neg (nI_nlt hnm (by omega))]
  rw [emin]
  have en : (nI n).toNatClampNeg = n := nI_clamp (by omega)
  refine hw_cpy rfl ha2 (show (am_new h (.inl (0, m, .inl (fun _ => 0)))).1 h.2 = some (.inl (0, m, .inl (fun _ => 0))) by simp [am_new]) hX (by decide) (by decide) (nI_pos (by omega)) (by rw [en]; show (0 : Int32).toNatClampNeg + n ≤ n; simp) (by rw [en]; show (0 : Int32).toNatClampNeg + n ≤ m; simp; exact hnm) rfl ?_
  refine hw_run 1 (pc' := 32) (loc' := [some (.ref a), some (.int (nI m)), some (.ref h.2)]) (stk' := [.ref h.2]) (fun _ _ => rfl) ?_
  refine hw_reta rfl rfl (Or.inr ⟨_, rfl⟩) ⟨rfl, rfl, by omega, _, rfl, fun i hi => ?_⟩
  rw [en]
  show va_cpy f (fun _ => 0) 0 0 n i = f i
  unfold va_cpy
  rw [if_pos ⟨Nat.zero_le _, by omega⟩]
  congr 1
  omega
end RowWrite
