/-! one instruction, again -/
section XmStep
variable {p : Program} {l : Launch} {e : Env} {R : Room} {s : State} {m : MethodId} {args : Array Value} {below : List Frame} {meth : Method} {c : Code} {H : Heap} {locs : List Loc} {Q : State → Prop}
variable {D : va_G} {cl : List vw_C} {dA : Nat → ClassId} {b X : Nat} {ext : Nat → Nat} {st : Nat → Value} {S : List (String × String × String)} {str : List (String × Nat × String × Nat)} {nst : List (String × Nat × String × String × String)} {h : am_H} {cc : ByteArray} {pc : Nat} {ls : Array Slot} {nL : Nat} {loc : am_L} {stk : List Value} {k z : Nat} {f : am_F} {own : String} {ini : Bool} {Ts : List Cond} {ty : Nat → Nat → FieldType} {fs : Nat → List Value} {o : am_O}
theorem xm_W1 (hG : am_G cl ty fs Ts) (CF : CallFix p m c cc nL s args Ts own) (hini : ini = true → meth.name = "<init>") (hK : xm_K D cl dA b X ext st S str nst s) (hok : am_ok cl S str nst own ini cc pc o = true) (hw : ∀ w ∈ am_words cl S own o, w ∈ Ts) (hR1 : 1 ≤ R.frames) (hR2 : 20 ≤ R.locals)
    (hf : am_stp X st ty fs o pc loc stk h k z = some f) (hk1 : f.2.2.2.2.1 ≤ R.cells) (hk2 : f.2.2.2.2.2 ≤ R.slots) (hP : xm_P D cl dA b X ext h H) (hS : va_S (fun q => b ≤ q) s.heap H locs) (hl : am_lc b X ext ls nL loc)
    (kk : ∀ (H1 : Heap) (locs1 : List Loc) (ls1 : Array Slot), xm_P D cl dA b X ext f.2.2.2.1 H1 → va_S (fun q => b ≤ q) s.heap H1 locs1 → am_lc b X ext ls1 nL f.2.1 → W p l e R s m args below meth c H1 locs1 f.2.2.2.2.1 f.2.2.2.2.2 Q (F0 m f.1 ls1 (f.2.2.1.map (am_vl b X ext)))) :
    W p l e R s m args below meth c H locs k z Q (F0 m pc ls (stk.map (am_vl b X ext))) := by
  obtain ⟨hx, hb, hml, hown, hts⟩ := CF
  obtain ⟨hKv, hbs, hst, hstr, hnst, hAr⟩ := id hK
  obtain ⟨i, len, a, d, v⟩ := o
  unfold am_ok at hok
  rw [Bool.and_eq_true] at hok
  obtain ⟨hd0, hok⟩ := hok
  have hd : decode cc pc = .ok (i, len) := of_decide_eq_true hd0
  cases i with
  | iconst n =>
    simp only [Bool.and_eq_true, decide_eq_true_eq] at hok
    obtain ⟨rfl, rfl⟩ := hok
    cases am_push_inv hf
    exact lv_iconst hx hb hd rfl (kk H locs ls hP hS hl)
  | bipush n =>
    simp only [Bool.and_eq_true, decide_eq_true_eq] at hok
    obtain ⟨rfl, rfl⟩ := hok
    cases am_push_inv hf
    exact lv_bipush hx hb hd rfl (kk H locs ls hP hS hl)
  | sipush n =>
    simp only [Bool.and_eq_true, decide_eq_true_eq] at hok
    obtain ⟨rfl, rfl⟩ := hok
    cases am_push_inv hf
    exact lv_sipush hx hb hd rfl (kk H locs ls hP hS hl)
  | lconst n =>
    simp only [Bool.and_eq_true, decide_eq_true_eq] at hok
    obtain ⟨rfl, rfl⟩ := hok
    cases am_push_inv hf
    exact lv_lconst hx hb hd rfl (kk H locs ls hP hS hl)
  | aconst_null =>
    simp only [Bool.and_eq_true, decide_eq_true_eq] at hok
    obtain ⟨rfl, rfl⟩ := hok
    cases am_push_inv hf
    exact lv_null hx hb hd (kk H locs ls hP hS hl)
  | ldc i =>
    simp only [Bool.and_eq_true, decide_eq_true_eq] at hok
    obtain ⟨rfl, hok⟩ := hok
    cases am_push_inv hf
    cases v with
    | int x => exact lv_ldc hx hb hown (hts _ (hw _ List.mem_cons_self)) hd (kk H locs ls hP hS hl)
    | ref r =>
      obtain ⟨q, hq, hq2⟩ := List.any_eq_true.mp hok
      simp only [Bool.and_eq_true, decide_eq_true_eq] at hq2
      obtain ⟨⟨q1, q2⟩, q3⟩ := hq2
      have hZ := hstr q hq
      rw [q1, q2, q3] at hZ
      exact va_ldcS hx hb hown hZ hd (kk H locs ls hP hS hl)
    | _ => cases hok
  | ldc2_w i =>
    simp only [Bool.and_eq_true, decide_eq_true_eq] at hok
    obtain ⟨rfl, hok⟩ := hok
    cases am_push_inv hf
    cases v with
    | long x => exact lv_ldc2 hx hb hown (hts _ (hw _ List.mem_cons_self)) hd (kk H locs ls hP hS hl)
    | _ => cases hok
  | getstatic i =>
    simp only [Bool.and_eq_true, decide_eq_true_eq] at hok
    obtain ⟨rfl, hlt⟩ := hok
    cases hf
    have hq : S[a]? = some S[a] := List.getElem?_eq_getElem hlt
    have hlk := hts (.fieldLink own i S[a].1 S[a].2.1 S[a].2.2) (hw _ (by simp only [am_words, hq]; exact List.mem_cons_self))
    exact va_gets hx hb (hst a _ hq) hS hown hlk (fun _ q => q) hd (kk H locs ls hP hS hl)
  | iload i =>
    simp only [Bool.and_eq_true, decide_eq_true_eq] at hok
    obtain ⟨rfl, rfl⟩ := hok
    obtain ⟨x, hv, rfl⟩ := am_ldI_inv hf
    exact lv_iload hx hb hd (am_lc_at hl hv) (kk H locs ls hP hS hl)
  | iload_n i =>
    simp only [Bool.and_eq_true, decide_eq_true_eq] at hok
    obtain ⟨rfl, rfl⟩ := hok
    obtain ⟨x, hv, rfl⟩ := am_ldI_inv hf
    exact lv_iload_n hx hb hd rfl (am_lc_at hl hv) (kk H locs ls hP hS hl)
  | lload i =>
    simp only [Bool.and_eq_true, decide_eq_true_eq] at hok
    obtain ⟨rfl, rfl⟩ := hok
    obtain ⟨x, hv, rfl⟩ := am_ldL_inv hf
    exact lv_lload hx hb hd (am_lc_at hl hv) (kk H locs ls hP hS hl)
  | lload_n i =>
    simp only [Bool.and_eq_true, decide_eq_true_eq] at hok
    obtain ⟨rfl, rfl⟩ := hok
    obtain ⟨x, hv, rfl⟩ := am_ldL_inv hf
    exact lv_lload_n hx hb hd rfl (am_lc_at hl hv) (kk H locs ls hP hS hl)
  | aload i =>
    simp only [Bool.and_eq_true, decide_eq_true_eq] at hok
    obtain ⟨rfl, rfl⟩ := hok
    rcases am_ldA_inv hf with ⟨x, hv, rfl⟩ | ⟨hv, rfl⟩
    · exact lv_aload hx hb hd (am_lc_at hl hv) (kk H locs ls hP hS hl)
    · exact lv_aloadN hx hb hd (am_lc_at hl hv) (kk H locs ls hP hS hl)
  | istore i =>
    simp only [Bool.and_eq_true, decide_eq_true_eq] at hok
    obtain ⟨rfl, rfl⟩ := hok
    obtain ⟨x, r, rfl, hc, hlt, rfl⟩ := am_stI_inv hf
    exact lv_istore hx hb hd hl.2 (hl.1 ▸ hlt) rfl (fun ls' h' => kk H locs ls' hP hS (am_lc_set1 hl.1 hlt hc h'))
  | lstore i =>
    simp only [Bool.and_eq_true, decide_eq_true_eq] at hok
    obtain ⟨rfl, rfl⟩ := hok
    obtain ⟨x, r, rfl, hc, hlt, rfl⟩ := am_stL_inv hf
    exact lv_lstore hx hb hd hl.2 (hl.1 ▸ hlt) rfl (fun ls' h' => kk H locs ls' hP hS (am_lc_set2 hl.1 hlt hc h'))
  | astore i =>
    simp only [Bool.and_eq_true, decide_eq_true_eq] at hok
    obtain ⟨rfl, rfl⟩ := hok
    obtain ⟨hc, hlt, ⟨x, r, rfl, rfl⟩ | ⟨r, rfl, rfl⟩⟩ := am_stA_inv hf
    · exact lv_astore hx hb hd hl.2 (hl.1 ▸ hlt) rfl (fun ls' h' => kk H locs ls' hP hS (am_lc_set1 hl.1 hlt hc h'))
    · exact lv_astoreN hx hb hd hl.2 (hl.1 ▸ hlt) rfl (fun ls' h' => kk H locs ls' hP hS (am_lc_set1 (v := .null) hl.1 hlt hc h'))
  | aload_n i =>
    simp only [Bool.and_eq_true, decide_eq_true_eq] at hok
    obtain ⟨rfl, rfl⟩ := hok
    rcases am_ldA_inv hf with ⟨x, hv, rfl⟩ | ⟨hv, rfl⟩
    · exact lv_aload_n hx hb hd rfl (am_lc_at hl hv) (kk H locs ls hP hS hl)
    · exact lv_aload_nN hx hb hd rfl (am_lc_at hl hv) (kk H locs ls hP hS hl)
  | istore_n i =>
    simp only [Bool.and_eq_true, decide_eq_true_eq] at hok
    obtain ⟨rfl, rfl⟩ := hok
    obtain ⟨x, r, rfl, hc, hlt, rfl⟩ := am_stI_inv hf
    exact lv_istore_n hx hb hd rfl hl.2 (hl.1 ▸ hlt) rfl (fun ls' h' => kk H locs ls' hP hS (am_lc_set1 hl.1 hlt hc h'))
  | lstore_n i =>
    simp only [Bool.and_eq_true, decide_eq_true_eq] at hok
    obtain ⟨rfl, rfl⟩ := hok
    obtain ⟨x, r, rfl, hc, hlt, rfl⟩ := am_stL_inv hf
    exact lv_lstore_n hx hb hd rfl hl.2 (hl.1 ▸ hlt) rfl (fun ls' h' => kk H locs ls' hP hS (am_lc_set2 hl.1 hlt hc h'))
  | astore_n i =>
    simp only [Bool.and_eq_true, decide_eq_true_eq] at hok
    obtain ⟨rfl, rfl⟩ := hok
    obtain ⟨hc, hlt, ⟨x, r, rfl, rfl⟩ | ⟨r, rfl, rfl⟩⟩ := am_stA_inv hf
    · exact lv_astore_n hx hb hd rfl hl.2 (hl.1 ▸ hlt) rfl (fun ls' h' => kk H locs ls' hP hS (am_lc_set1 hl.1 hlt hc h'))
    · exact lv_astore_nN hx hb hd rfl hl.2 (hl.1 ▸ hlt) rfl (fun ls' h' => kk H locs ls' hP hS (am_lc_set1 (v := .null) hl.1 hlt hc h'))
  | iinc i n =>
    simp only [Bool.and_eq_true, decide_eq_true_eq] at hok
    obtain ⟨⟨rfl, rfl⟩, rfl⟩ := hok
    obtain ⟨x, d', hv, e1, hc, rfl⟩ := am_inc_inv hf
    cases e1
    obtain ⟨j, hj⟩ := List.getElem?_of_mem (am_pr_mem (b := b) (X := X) (ext := ext) (q := (a, .int x)).mpr ⟨_, hv, rfl⟩)
    exact lv_iinc hx hb hd hl.2 hj rfl (hl.1 ▸ am_get_lt hv) rfl (fun ls' h' => kk H locs ls' hP hS (am_lc_set1 (v := .int (x + Int32.ofInt n)) hl.1 (am_get_lt hv) hc h'))
  | iadd =>
    have hd1 := hd; rw [show len = 1 from of_decide_eq_true hok] at hd1
    obtain ⟨x, y, r, rfl, rfl⟩ := am_i2_inv hf
    exact lv_iadd hx hb hd1 (kk H locs ls hP hS hl)
  | isub =>
    have hd1 := hd; rw [show len = 1 from of_decide_eq_true hok] at hd1
    obtain ⟨x, y, r, rfl, rfl⟩ := am_i2_inv hf
    exact lv_isub hx hb hd1 (kk H locs ls hP hS hl)
  | imul =>
    have hd1 := hd; rw [show len = 1 from of_decide_eq_true hok] at hd1
    obtain ⟨x, y, r, rfl, rfl⟩ := am_i2_inv hf
    exact lv_imul hx hb hd1 (kk H locs ls hP hS hl)
  | iand =>
    have hd1 := hd; rw [show len = 1 from of_decide_eq_true hok] at hd1
    obtain ⟨x, y, r, rfl, rfl⟩ := am_i2_inv hf
    exact lv_iand hx hb hd1 (kk H locs ls hP hS hl)
  | ior =>
    have hd1 := hd; rw [show len = 1 from of_decide_eq_true hok] at hd1
    obtain ⟨x, y, r, rfl, rfl⟩ := am_i2_inv hf
    exact lv_ior hx hb hd1 (kk H locs ls hP hS hl)
  | ixor =>
    have hd1 := hd; rw [show len = 1 from of_decide_eq_true hok] at hd1
    obtain ⟨x, y, r, rfl, rfl⟩ := am_i2_inv hf
    exact lv_ixor hx hb hd1 (kk H locs ls hP hS hl)
  | ishl =>
    have hd1 := hd; rw [show len = 1 from of_decide_eq_true hok] at hd1
    obtain ⟨x, y, r, rfl, rfl⟩ := am_i2_inv hf
    exact lv_ishl hx hb hd1 (kk H locs ls hP hS hl)
  | ishr =>
    have hd1 := hd; rw [show len = 1 from of_decide_eq_true hok] at hd1
    obtain ⟨x, y, r, rfl, rfl⟩ := am_i2_inv hf
    exact lv_ishr hx hb hd1 (kk H locs ls hP hS hl)
  | iushr =>
    have hd1 := hd; rw [show len = 1 from of_decide_eq_true hok] at hd1
    obtain ⟨x, y, r, rfl, rfl⟩ := am_i2_inv hf
    exact lv_iushr hx hb hd1 rfl (kk H locs ls hP hS hl)
  | idiv =>
    have hd1 := hd; rw [show len = 1 from of_decide_eq_true hok] at hd1
    obtain ⟨x, y, r, rfl, hy, rfl⟩ := am_i3_inv hf
    exact lv_idiv hx hb hd1 hy (kk H locs ls hP hS hl)
  | irem =>
    have hd1 := hd; rw [show len = 1 from of_decide_eq_true hok] at hd1
    obtain ⟨x, y, r, rfl, hy, rfl⟩ := am_i3_inv hf
    exact lv_irem hx hb hd1 hy (kk H locs ls hP hS hl)
  | ineg =>
    have hd1 := hd; rw [show len = 1 from of_decide_eq_true hok] at hd1
    obtain ⟨x, r, rfl, rfl⟩ := am_i1_inv hf
    exact lv_ineg hx hb hd1 (kk H locs ls hP hS hl)
  | i2c =>
    have hd1 := hd; rw [show len = 1 from of_decide_eq_true hok] at hd1
    obtain ⟨x, r, rfl, rfl⟩ := am_i1_inv hf
    exact lv_i2c hx hb hd1 rfl (kk H locs ls hP hS hl)
  | i2b =>
    have hd1 := hd; rw [show len = 1 from of_decide_eq_true hok] at hd1
    obtain ⟨x, r, rfl, rfl⟩ := am_i1_inv hf
    exact lv_i2b hx hb hd1 rfl (kk H locs ls hP hS hl)
  | i2l =>
    have hd1 := hd; rw [show len = 1 from of_decide_eq_true hok] at hd1
    obtain ⟨x, r, rfl, rfl⟩ := am_i2l_inv hf
    exact lv_i2l hx hb hd1 rfl (kk H locs ls hP hS hl)
  | l2i =>
    have hd1 := hd; rw [show len = 1 from of_decide_eq_true hok] at hd1
    obtain ⟨x, r, rfl, rfl⟩ := am_l2i_inv hf
    exact lv_l2i hx hb hd1 rfl (kk H locs ls hP hS hl)
  | land =>
    have hd1 := hd; rw [show len = 1 from of_decide_eq_true hok] at hd1
    obtain ⟨x, y, r, rfl, rfl⟩ := am_land_inv hf
    exact lv_land hx hb hd1 (kk H locs ls hP hS hl)
  | lshr =>
    have hd1 := hd; rw [show len = 1 from of_decide_eq_true hok] at hd1
    obtain ⟨x, y, r, rfl, rfl⟩ := am_lshr_inv hf
    exact lv_lshr hx hb hd1 rfl (kk H locs ls hP hS hl)
  | lcmp =>
    have hd1 := hd; rw [show len = 1 from of_decide_eq_true hok] at hd1
    obtain ⟨x, y, r, rfl, rfl⟩ := am_lcmp_inv hf
    exact W.lcmp hx hb hd1 (kk H locs ls hP hS hl)
  | dup =>
    have hd1 := hd; rw [show len = 1 from of_decide_eq_true hok] at hd1
    obtain ⟨u, r, rfl, hc, rfl⟩ := am_dup_inv hf
    exact lv_dup hx hb hd1 ((am_vl_cat b X ext u).trans hc) (kk H locs ls hP hS hl)
  | pop =>
    have hd1 := hd; rw [show len = 1 from of_decide_eq_true hok] at hd1
    obtain ⟨u, r, rfl, hc, rfl⟩ := am_pop_inv hf
    exact lv_pop hx hb hd1 ((am_vl_cat b X ext u).trans hc) (kk H locs ls hP hS hl)
  | dup_x1 =>
    have hd1 := hd; rw [show len = 1 from of_decide_eq_true hok] at hd1
    obtain ⟨u, w, r, rfl, hc, hc2, rfl⟩ := am_dupx1_inv hf
    exact lv_dup_x1 hx hb hd1 ((am_vl_cat b X ext u).trans hc) ((am_vl_cat b X ext w).trans hc2) (kk H locs ls hP hS hl)
  | dup2 =>
    have hd1 := hd; rw [show len = 1 from of_decide_eq_true hok] at hd1
    obtain ⟨u, w, r, rfl, hc, hc2, rfl⟩ := am_dup2_inv hf
    exact lv_dup2_11 hx hb hd1 ((am_vl_cat b X ext u).trans hc) ((am_vl_cat b X ext w).trans hc2) (kk H locs ls hP hS hl)
  | ifCond cd off =>
    simp only [Bool.and_eq_true, decide_eq_true_eq] at hok
    obtain ⟨rfl, ht⟩ := hok
    cases cd with
    | eq =>
      obtain ⟨x, r, rfl, rfl⟩ := am_if1_inv hf
      have k2 := am_two (kk H locs ls hP hS hl)
      exact lv_if_eq hx hb hd ht k2.1 k2.2
    | ne =>
      obtain ⟨x, r, rfl, rfl⟩ := am_if1_inv hf
      have k2 := am_two (kk H locs ls hP hS hl)
      exact lv_if_ne hx hb hd ht k2.1 (fun q => k2.2 (fun n => n q))
    | lt =>
      obtain ⟨x, r, rfl, rfl⟩ := am_if1_inv hf
      have k2 := am_two (kk H locs ls hP hS hl)
      exact lv_if_lt hx hb hd ht k2.1 k2.2
    | ge =>
      obtain ⟨x, r, rfl, rfl⟩ := am_if1_inv hf
      have k2 := am_two (kk H locs ls hP hS hl)
      exact lv_if_ge hx hb hd ht k2.1 k2.2
    | gt =>
      obtain ⟨x, r, rfl, rfl⟩ := am_if1_inv hf
      have k2 := am_two (kk H locs ls hP hS hl)
      exact lv_if_gt hx hb hd ht k2.1 k2.2
    | le =>
      obtain ⟨x, r, rfl, rfl⟩ := am_if1_inv hf
      have k2 := am_two (kk H locs ls hP hS hl)
      exact lv_if_le hx hb hd ht k2.1 k2.2
  | if_icmp cd off =>
    simp only [Bool.and_eq_true, decide_eq_true_eq] at hok
    obtain ⟨rfl, ht⟩ := hok
    cases cd with
    | eq =>
      obtain ⟨x, y, r, rfl, rfl⟩ := am_if2_inv hf
      have k2 := am_two (kk H locs ls hP hS hl)
      exact lv_icmp_eq hx hb hd ht k2.1 k2.2
    | ne =>
      obtain ⟨x, y, r, rfl, rfl⟩ := am_if2_inv hf
      have k2 := am_two (kk H locs ls hP hS hl)
      exact lv_icmp_ne hx hb hd ht k2.1 (fun q => k2.2 (fun n => n q))
    | lt =>
      obtain ⟨x, y, r, rfl, rfl⟩ := am_if2_inv hf
      have k2 := am_two (kk H locs ls hP hS hl)
      exact lv_icmp_lt hx hb hd ht k2.1 k2.2
    | ge =>
      obtain ⟨x, y, r, rfl, rfl⟩ := am_if2_inv hf
      have k2 := am_two (kk H locs ls hP hS hl)
      exact lv_icmp_ge hx hb hd ht k2.1 k2.2
    | gt =>
      obtain ⟨x, y, r, rfl, rfl⟩ := am_if2_inv hf
      have k2 := am_two (kk H locs ls hP hS hl)
      exact lv_icmp_gt hx hb hd ht k2.1 k2.2
    | le =>
      obtain ⟨x, y, r, rfl, rfl⟩ := am_if2_inv hf
      have k2 := am_two (kk H locs ls hP hS hl)
      exact lv_icmp_le hx hb hd ht k2.1 k2.2
  | ifnull off =>
    simp only [Bool.and_eq_true, decide_eq_true_eq] at hok
    obtain ⟨rfl, ht⟩ := hok
    rcases am_ifn_inv hf with ⟨x, r, rfl, rfl⟩ | ⟨r, rfl, rfl⟩
    · exact lv_ifnull hx hb hd (kk H locs ls hP hS hl)
    · exact lv_ifnullN hx hb hd ht (kk H locs ls hP hS hl)
  | ifnonnull off =>
    simp only [Bool.and_eq_true, decide_eq_true_eq] at hok
    obtain ⟨rfl, ht⟩ := hok
    rcases am_ifn_inv hf with ⟨x, r, rfl, rfl⟩ | ⟨r, rfl, rfl⟩
    · exact lv_ifnonnull hx hb hd ht (kk H locs ls hP hS hl)
    · exact lv_ifnonnullN hx hb hd (kk H locs ls hP hS hl)
  | goto off =>
    simp only [Bool.and_eq_true, decide_eq_true_eq] at hok
    obtain ⟨rfl, ht⟩ := hok
    cases hf
    exact lv_goto hx hb hd ht (kk H locs ls hP hS hl)
  | tableswitch dflt lo hi offs =>
    simp only [Bool.and_eq_true, decide_eq_true_eq] at hok
    obtain ⟨h0, ha⟩ := hok
    obtain ⟨x, r, q, rfl, ht, rfl⟩ := am_swI_inv hf
    unfold am_tsw at ht
    split at ht
    · rename_i hout
      cases ht
      exact lv_tableOut hx hb hd hout (by omega) (kk H locs ls hP hS hl)
    · rename_i hout
      split at ht
      · rename_i off hoff
        cases ht
        exact lv_tableIn hx hb hd (fun q => hout (Or.inl q)) (fun q => hout (Or.inr q)) hoff (am_off ha (Array.mem_toList_iff.mpr (Array.mem_of_getElem? hoff))) (kk H locs ls hP hS hl)
      · cases ht
  | lookupswitch dflt ps =>
    simp only [Bool.and_eq_true, decide_eq_true_eq] at hok
    obtain ⟨⟨h0, ha⟩, hs⟩ := hok
    obtain ⟨x, r, q, rfl, ht, rfl⟩ := am_swI_inv hf
    cases ht
    refine lv_lookup hx hb hd hs rfl ?_ (kk H locs ls hP hS hl)
    rcases am_lk dflt x.toInt ps.toList with e | ⟨q, hq, e⟩
    · rw [e]; omega
    · rw [e]
      have := List.all_eq_true.mp ha q hq
      simp only [decide_eq_true_eq] at this
      omega
  | getfield i =>
    simp only [Bool.and_eq_true, decide_eq_true_eq] at hok
    obtain ⟨rfl, hok⟩ := hok
    obtain ⟨x, r, gs, u, rfl, ha, hu, rfl⟩ := am_getf_inv hf
    split at hok
    · rename_i C T N hc
      obtain ⟨g1, g2, g3, g4⟩ := hG a C T N hc
      simp only [Bool.and_eq_true, decide_eq_true_eq, Bool.or_eq_true] at hok
      refine xm_W_get hx hb hts g1 hown hK.1 hP ha hc _ hok.1 ?_ hu hd (kk H locs ls hP hS hl)
      rcases hok.2 with hv | hv
      · exact Or.inl (hts _ (hw _ (by simp only [am_words, hc]; rw [if_pos hv]; exact List.mem_cons_self)))
      · obtain ⟨q, hq, hq2⟩ := List.any_eq_true.mp hv
        have e2 := of_decide_eq_true hq2
        have hn := hnst q hq
        rw [e2] at hn
        exact Or.inr ⟨"MarkInlines", va_Nw.use rfl hn⟩
    · cases hok
  | putfield i =>
    simp only [Bool.and_eq_true, decide_eq_true_eq] at hok
    obtain ⟨rfl, hok⟩ := hok
    obtain ⟨u, x, r, gs, rfl, ha, hX, hlt, hft, rfl⟩ := am_putf_inv hf
    split at hok
    · rename_i C T N hc
      obtain ⟨g1, g2, g3, g4⟩ := hG a C T N hc
      simp only [Bool.and_eq_true, decide_eq_true_eq, Bool.or_eq_true, Bool.not_eq_true'] at hok
      refine xm_W_put hx hb hts g1 (ty a) g2 g3 hown hK.1 hP hS ha hX hc _ hok.1 (hts _ (hw _ (by simp only [am_words, hc]; exact List.mem_cons_self))) ?_ hft hlt hd (fun H1 locs1 hP1 hS1 => kk H1 locs1 ls hP1 hS1 hl)
      rcases hok.2 with hq | ⟨hq1, hq2⟩
      · exact Or.inl hq
      · cases hfl : (T d).2.2.2 with
        | false => exact Or.inl rfl
        | true => exact Or.inr ⟨rfl, hini hq1, hq2⟩
    · cases hok
  | arraylength =>
    have hd1 := hd; rw [show len = 1 from of_decide_eq_true hok] at hd1
    obtain ⟨x, r, q, y, rfl, ha, hq, rfl⟩ := am_alen_inv hf
    exact xm_W_alen hx hb hK.1 hAr hP hq ha hd1 (kk H locs ls hP hS hl)
  | iaload =>
    have hd1 := hd; rw [show len = 1 from of_decide_eq_true hok] at hd1
    obtain ⟨i, x, r, n, g, rfl, ha, hin, rfl⟩ := am_iald_inv hf
    exact xm_W_iald hx hb hK.1 hAr hP ha hin hd1 (kk H locs ls hP hS hl)
  | baload =>
    have hd1 := hd; rw [show len = 1 from of_decide_eq_true hok] at hd1
    obtain ⟨i, x, r, q, n, g, rfl, hq, ha, hin, rfl⟩ := am_bald_inv hf
    exact xm_W_bald hx hb hK.1 hAr hP hq ha hin hd1 (kk H locs ls hP hS hl)
  | laload =>
    have hd1 := hd; rw [show len = 1 from of_decide_eq_true hok] at hd1
    obtain ⟨i, x, r, n, g, rfl, ha, hin, rfl⟩ := am_lald_inv hf
    exact xm_W_lald hx hb hK.1 hAr hP ha hin hd1 (kk H locs ls hP hS hl)
  | iastore =>
    have hd1 := hd; rw [show len = 1 from of_decide_eq_true hok] at hd1
    obtain ⟨y, i, x, r, n, g, rfl, ha, hX, hin, rfl⟩ := am_iast_inv hf
    exact xm_W_iast hx hb hK.1 hP hS ha hX hin hd1 (fun H1 locs1 hP1 hS1 => kk H1 locs1 ls hP1 hS1 hl)
  | bastore =>
    have hd1 := hd; rw [show len = 1 from of_decide_eq_true hok] at hd1
    obtain ⟨y, i, x, r, n, g, rfl, ha, hX, h01, hin, rfl⟩ := am_bast_inv hf
    exact xm_W_bast hx hb hK.1 hP hS ha hX h01 hin hd1 (fun H1 locs1 hP1 hS1 => kk H1 locs1 ls hP1 hS1 hl)
  | lastore =>
    have hd1 := hd; rw [show len = 1 from of_decide_eq_true hok] at hd1
    obtain ⟨y, i, x, r, n, g, rfl, ha, hX, hin, rfl⟩ := am_last_inv hf
    exact xm_W_last hx hb hK.1 hP hS ha hX hin hd1 (fun H1 locs1 hP1 hS1 => kk H1 locs1 ls hP1 hS1 hl)
  | new i =>
    simp only [Bool.and_eq_true, decide_eq_true_eq] at hok
    obtain ⟨rfl, hok⟩ := hok
    cases hf
    obtain ⟨⟨C, T, N⟩, hc⟩ := Option.isSome_iff_exists.mp hok
    obtain ⟨g1, g2, g3, g4⟩ := hG a C T N hc
    have hlk := fun w hq => hts w (hw w (by simp only [am_words, hc]; exact hq))
    exact xm_W_newo hx hb hts g1 (ty a) g2 hown (hlk _ List.mem_cons_self) (hlk _ (by simp)) (hlk _ (by simp)) hK.1 hP hS hK.2.1 hc g4 hk1 hk2 hd (fun H1 hP1 hS1 => kk H1 locs ls hP1 hS1 hl)
  | newarray t =>
    simp only [Bool.and_eq_true, decide_eq_true_eq] at hok
    obtain ⟨rfl, hok⟩ := hok
    have har := hts _ (hw (.arrayClass (newarray.typeOf t)) List.mem_cons_self)
    obtain ⟨n, r, rfl, hn, hb1, hcs⟩ := am_newa_inv hf
    cases t with
    | boolean =>
      have hok := of_decide_eq_true hok
      subst hok
      rcases hcs with ⟨e1, rfl⟩ | ⟨e1, hb2, rfl⟩ | ⟨e1, rfl⟩ <;> first | (simp at e1; done) | skip
      exact xm_W_newa hx hb har hK.1 hP hS (kd := 3) (a0 := (n.toNatClampNeg, .inl (fun _ => 0))) (by decide) rfl (fun _ => rfl) hn (by show n.toNatClampNeg * 1 ≤ _; omega) hk1 hk2 hd (fun C q => by cases q) (fun H1 hP1 hS1 => kk H1 locs ls hP1 hS1 hl)
    | int =>
      have hok := of_decide_eq_true hok
      subst hok
      rcases hcs with ⟨e1, rfl⟩ | ⟨e1, hb2, rfl⟩ | ⟨e1, rfl⟩ <;> first | (simp at e1; done) | skip
      exact xm_W_newa hx hb har hK.1 hP hS (kd := 0) (a0 := (n.toNatClampNeg, .inl (fun _ => 0))) (by decide) rfl (fun _ => rfl) hn (by show n.toNatClampNeg * 4 ≤ _; omega) hk1 hk2 hd (fun C q => by cases q) (fun H1 hP1 hS1 => kk H1 locs ls hP1 hS1 hl)
    | long =>
      have hok := of_decide_eq_true hok
      subst hok
      rcases hcs with ⟨e1, rfl⟩ | ⟨e1, hb2, rfl⟩ | ⟨e1, rfl⟩ <;> first | (simp at e1; done) | skip
      exact xm_W_newa hx hb har hK.1 hP hS (kd := 1) (a0 := (n.toNatClampNeg, .inr (.inl (fun _ => 0)))) (by decide) rfl (fun _ => rfl) hn (by show n.toNatClampNeg * 8 ≤ _; omega) hk1 hk2 hd (fun C q => by cases q) (fun H1 hP1 hS1 => kk H1 locs ls hP1 hS1 hl)
    | _ => cases hok
  | invokespecial i =>
    simp only [decide_eq_true_eq] at hok
    subst hok
    dsimp only [am_stp] at hf
    split at hf
    · rename_i e
      have e : a = 0 := e
      subst e
      obtain ⟨x, r, rfl, hsum, rfl⟩ := am_oinit_inv hf
      have hlk := fun w hq => hts w (hw w (by simp only [am_words]; exact hq))
      refine W.objInit hx hb hown (hlk (.methodLink own i objectInit) (by simp)) (hlk (.instanceMethod objectInit) (by simp)) (hlk (.code objectInit ⟨#[0xb1]⟩ 1 none) (by simp)) rfl (hl.2.1.trans hml.symm) rfl hd hR1 ?_ (kk H locs ls hP hS hl)
      have e3 : ((r.map (am_vl b X ext)).map fun v => v.category).sum = (r.map fun v => v.category).sum := by rw [List.map_map]; congr 2; funext v; exact am_vl_cat b X ext v
      show 2 * 0 + _ + 12 ≤ _
      rw [e3]; omega
    · cases hf
  | _ => exact absurd hf (by simp [am_stp])
end XmStep
