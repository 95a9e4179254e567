/-! THE LAW, 8: from its entry to its loop -/
section La7
variable {fm : Value}
theorem pre_1 (f0 : Nat → Option am_C) (k z : Nat) : am_N fm (am_R fm 30) 0 2 (0, [some (.ref 0), none, none, none, none, none, none], [], (f0, 57), k, z) (4, [some (.ref 0), none, none, none, none, none, none], [.ref 57, .ref 57], am_new (f0, 57) (.inr (0, am_fs 0)), k + 1, z + 7) := am_run_N 2 rfl
theorem pre_2 (f0 : Nat → Option am_C) (k z : Nat) : am_N fm (am_R fm 30) 0 1 (4, [some (.ref 0), none, none, none, none, none, none], [.ref 57, .ref 57], am_new (f0, 57) (.inr (0, am_fs 0)), k, z) (7, [some (.ref 0), none, none, none, none, none, none], [.ref 57], kh_7 f0, k + 78, z + 736) := ⟨_, Or.inr (Or.inl ⟨_, [.ref 57], [.ref 57], none, _, _, _, rfl, rfl, by decide, rfl, rfl, rfl, k_7 (d := 26) f0, rfl⟩), rfl⟩
theorem pre_3 (f : Nat → Option am_C) (k z : Nat) : am_N fm (am_R fm 30) 0 3 (7, [some (.ref 0), none, none, none, none, none, none], [.ref 57], (f, 136), k, z) (12, [some (.ref 0), some (.ref 57), none, none, none, none, none], [.ref 136, .ref 136], am_new (f, 136) (.inr (11, am_fs 11)), k + 1, z + 58) := am_run_N 3 rfl
theorem pre_4 {f f' : Nat → Option am_C} (hk : am_R fm 30 121 [.ref 136] (am_new (f, 136) (.inr (11, am_fs 11))) none (f', 174) 37 175737) (k z : Nat) : am_N fm (am_R fm 30) 0 1 (12, [some (.ref 0), some (.ref 57), none, none, none, none, none], [.ref 136, .ref 136], am_new (f, 136) (.inr (11, am_fs 11)), k, z) (15, [some (.ref 0), some (.ref 57), none, none, none, none, none], [.ref 136], (f', 174), k + 37, z + 175737) := ⟨_, Or.inr (Or.inl ⟨_, [.ref 136], [.ref 136], none, _, _, _, rfl, rfl, by decide, rfl, rfl, rfl, hk, rfl⟩), rfl⟩
theorem pre_5 (f' : Nat → Option am_C) (k z : Nat) : am_N fm (am_R fm 30) 0 6 (15, [some (.ref 0), some (.ref 57), none, none, none, none, none], [.ref 136], (f', 174), k, z) (23, ll 0, [], am_new (f', 174) (.inl (1, 1, .inr (.inl (fun _ => 0)))), k + 1, z + 1) := am_run_N 6 rfl
theorem pre_N (f0 : Nat → Option am_C) : ∃ f' g n, MR (kh_7 f0).1 f' g ∧ am_N fm (am_R fm 30) 0 n (0, [some (.ref 0), none, none, none, none, none, none], [], (f0, 57), 0, 0) (23, ll 0, [], am_new (f', 174) (.inl (1, 1, .inr (.inl (fun _ => 0)))), 0 + 1 + 78 + 1 + 37 + 1, 0 + 7 + 736 + 58 + 175737 + 1) := by
  obtain ⟨f', g, hk, hM⟩ := k_121 (fm := fm) (d := 29) (kh_7 f0).1
  refine ⟨f', g, 2 + 1 + 3 + 1 + 6, hM, ?_⟩
  have e7 : kh_7 f0 = ((kh_7 f0).1, 136) := rfl
  have s2 := pre_2 (fm := fm) f0 (0 + 1) (0 + 7)
  rw [e7] at s2
  exact am_N_app _ (am_N_app _ (am_N_app _ (am_N_app _ (pre_1 f0 0 0) s2) (pre_3 _ _ _)) (pre_4 hk _ _)) (pre_5 f' _ _)
end La7
