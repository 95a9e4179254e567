/-! THE FIRST STATE: what the constructors leave -/
set_option maxRecDepth 100000 in
theorem kh7_57 (f : Nat → Option am_C) : (kh_7 f).1 57 = some (.inr (0, [.ref 58, .ref 61, .ref 82, .ref 89, .ref 114, .ref 133, .int 0])) := rfl
set_option maxRecDepth 100000 in
theorem kh7_58 (f : Nat → Option am_C) : (kh_7 f).1 58 = some (.inr (7, [.int 20, .ref 60, .int 20])) := rfl
set_option maxRecDepth 100000 in
theorem kh7_59 (f : Nat → Option am_C) : (kh_7 f).1 59 = some (.inl (0, 16, .inl (fun _ => 0))) := rfl
set_option maxRecDepth 100000 in
theorem kh7_60 (f : Nat → Option am_C) : (kh_7 f).1 60 = some (.inl (0, 32, .inl (fun j => if j < 20 then 0 else 0))) := rfl
set_option maxRecDepth 100000 in
theorem kh7_61 (f : Nat → Option am_C) : (kh_7 f).1 61 = some (.inr (7, [.int 1500, .ref 62, .int 0])) := rfl
set_option maxRecDepth 100000 in
theorem kh7_62 (f : Nat → Option am_C) : (kh_7 f).1 62 = some (.inl (0, 16, .inl (fun _ => 0))) := rfl
set_option maxRecDepth 100000 in
theorem kh7_63 (f : Nat → Option am_C) : (kh_7 f).1 63 = some (.inr (9, [.ref 61])) := rfl
set_option maxRecDepth 100000 in
theorem kh7_64 (f : Nat → Option am_C) : (kh_7 f).1 64 = some (.inr (6, [.ref 61, .int (-1)])) := rfl
set_option maxRecDepth 100000 in
theorem kh7_65 (f : Nat → Option am_C) : (kh_7 f).1 65 = some (.inr (3, [.ref 66, .ref 68, .ref 70, .ref 72, .ref 74, .ref 76, .ref 78, .ref 80])) := rfl
set_option maxRecDepth 100000 in
theorem kh7_66 (f : Nat → Option am_C) : (kh_7 f).1 66 = some (.inr (7, [.int 1500, .ref 67, .int 0])) := rfl
set_option maxRecDepth 100000 in
theorem kh7_67 (f : Nat → Option am_C) : (kh_7 f).1 67 = some (.inl (0, 16, .inl (fun _ => 0))) := rfl
set_option maxRecDepth 100000 in
theorem kh7_68 (f : Nat → Option am_C) : (kh_7 f).1 68 = some (.inr (7, [.int 1500, .ref 69, .int 0])) := rfl
set_option maxRecDepth 100000 in
theorem kh7_69 (f : Nat → Option am_C) : (kh_7 f).1 69 = some (.inl (0, 16, .inl (fun _ => 0))) := rfl
set_option maxRecDepth 100000 in
theorem kh7_70 (f : Nat → Option am_C) : (kh_7 f).1 70 = some (.inr (7, [.int 1500, .ref 71, .int 0])) := rfl
set_option maxRecDepth 100000 in
theorem kh7_71 (f : Nat → Option am_C) : (kh_7 f).1 71 = some (.inl (0, 16, .inl (fun _ => 0))) := rfl
set_option maxRecDepth 100000 in
theorem kh7_72 (f : Nat → Option am_C) : (kh_7 f).1 72 = some (.inr (7, [.int 1500, .ref 73, .int 0])) := rfl
set_option maxRecDepth 100000 in
theorem kh7_73 (f : Nat → Option am_C) : (kh_7 f).1 73 = some (.inl (0, 16, .inl (fun _ => 0))) := rfl
set_option maxRecDepth 100000 in
theorem kh7_74 (f : Nat → Option am_C) : (kh_7 f).1 74 = some (.inr (7, [.int 1500, .ref 75, .int 0])) := rfl
set_option maxRecDepth 100000 in
theorem kh7_75 (f : Nat → Option am_C) : (kh_7 f).1 75 = some (.inl (0, 16, .inl (fun _ => 0))) := rfl
set_option maxRecDepth 100000 in
theorem kh7_76 (f : Nat → Option am_C) : (kh_7 f).1 76 = some (.inr (7, [.int 1500, .ref 77, .int 0])) := rfl
set_option maxRecDepth 100000 in
theorem kh7_77 (f : Nat → Option am_C) : (kh_7 f).1 77 = some (.inl (0, 16, .inl (fun _ => 0))) := rfl
set_option maxRecDepth 100000 in
theorem kh7_78 (f : Nat → Option am_C) : (kh_7 f).1 78 = some (.inr (7, [.int 1500, .ref 79, .int 0])) := rfl
set_option maxRecDepth 100000 in
theorem kh7_79 (f : Nat → Option am_C) : (kh_7 f).1 79 = some (.inl (0, 16, .inl (fun _ => 0))) := rfl
set_option maxRecDepth 100000 in
theorem kh7_80 (f : Nat → Option am_C) : (kh_7 f).1 80 = some (.inr (7, [.int 1500, .ref 81, .int 0])) := rfl
set_option maxRecDepth 100000 in
theorem kh7_81 (f : Nat → Option am_C) : (kh_7 f).1 81 = some (.inl (0, 16, .inl (fun _ => 0))) := rfl
set_option maxRecDepth 100000 in
theorem kh7_82 (f : Nat → Option am_C) : (kh_7 f).1 82 = some (.inr (1, [.ref 61, .ref 63, .ref 83, .ref 85, .ref 87])) := rfl
set_option maxRecDepth 100000 in
theorem kh7_83 (f : Nat → Option am_C) : (kh_7 f).1 83 = some (.inr (7, [.int 2000, .ref 84, .int 0])) := rfl
set_option maxRecDepth 100000 in
theorem kh7_84 (f : Nat → Option am_C) : (kh_7 f).1 84 = some (.inl (0, 16, .inl (fun _ => 0))) := rfl
set_option maxRecDepth 100000 in
theorem kh7_85 (f : Nat → Option am_C) : (kh_7 f).1 85 = some (.inr (7, [.int 20, .ref 86, .int 0])) := rfl
set_option maxRecDepth 100000 in
theorem kh7_86 (f : Nat → Option am_C) : (kh_7 f).1 86 = some (.inl (0, 16, .inl (fun _ => 0))) := rfl
set_option maxRecDepth 100000 in
theorem kh7_87 (f : Nat → Option am_C) : (kh_7 f).1 87 = some (.inr (7, [.int 100, .ref 88, .int 0])) := rfl
set_option maxRecDepth 100000 in
theorem kh7_88 (f : Nat → Option am_C) : (kh_7 f).1 88 = some (.inl (0, 16, .inl (fun _ => 0))) := rfl
set_option maxRecDepth 100000 in
theorem kh7_89 (f : Nat → Option am_C) : (kh_7 f).1 89 = some (.inr (5, [.ref 61, .ref 63, .ref 64, .ref 65, .ref 90, .ref 103, .int 0, .int (-1)])) := rfl
set_option maxRecDepth 100000 in
theorem kh7_90 (f : Nat → Option am_C) : (kh_7 f).1 90 = some (.inr (8, [.ref 61, .ref 65, .ref 91, .ref 93, .ref 95, .ref 97, .ref 99, .ref 101])) := rfl
set_option maxRecDepth 100000 in
theorem kh7_91 (f : Nat → Option am_C) : (kh_7 f).1 91 = some (.inr (7, [.int 1500, .ref 92, .int 0])) := rfl
set_option maxRecDepth 100000 in
theorem kh7_92 (f : Nat → Option am_C) : (kh_7 f).1 92 = some (.inl (0, 16, .inl (fun _ => 0))) := rfl
set_option maxRecDepth 100000 in
theorem kh7_93 (f : Nat → Option am_C) : (kh_7 f).1 93 = some (.inr (7, [.int 1500, .ref 94, .int 0])) := rfl
set_option maxRecDepth 100000 in
theorem kh7_94 (f : Nat → Option am_C) : (kh_7 f).1 94 = some (.inl (0, 16, .inl (fun _ => 0))) := rfl
set_option maxRecDepth 100000 in
theorem kh7_95 (f : Nat → Option am_C) : (kh_7 f).1 95 = some (.inr (7, [.int 1500, .ref 96, .int 0])) := rfl
set_option maxRecDepth 100000 in
theorem kh7_96 (f : Nat → Option am_C) : (kh_7 f).1 96 = some (.inl (0, 16, .inl (fun _ => 0))) := rfl
set_option maxRecDepth 100000 in
theorem kh7_97 (f : Nat → Option am_C) : (kh_7 f).1 97 = some (.inr (7, [.int 1500, .ref 98, .int 0])) := rfl
set_option maxRecDepth 100000 in
theorem kh7_98 (f : Nat → Option am_C) : (kh_7 f).1 98 = some (.inl (0, 16, .inl (fun _ => 0))) := rfl
set_option maxRecDepth 100000 in
theorem kh7_99 (f : Nat → Option am_C) : (kh_7 f).1 99 = some (.inr (7, [.int 1500, .ref 100, .int 0])) := rfl
set_option maxRecDepth 100000 in
theorem kh7_100 (f : Nat → Option am_C) : (kh_7 f).1 100 = some (.inl (0, 16, .inl (fun _ => 0))) := rfl
set_option maxRecDepth 100000 in
theorem kh7_101 (f : Nat → Option am_C) : (kh_7 f).1 101 = some (.inr (7, [.int 1500, .ref 102, .int 0])) := rfl
set_option maxRecDepth 100000 in
theorem kh7_102 (f : Nat → Option am_C) : (kh_7 f).1 102 = some (.inl (0, 16, .inl (fun _ => 0))) := rfl
set_option maxRecDepth 100000 in
theorem kh7_103 (f : Nat → Option am_C) : (kh_7 f).1 103 = some (.inr (2, [.ref 61, .ref 63, .ref 65, .ref 90, .ref 82, .ref 104, .ref 106, .ref 108, .ref 110, .ref 112, .int 0])) := rfl
set_option maxRecDepth 100000 in
theorem kh7_104 (f : Nat → Option am_C) : (kh_7 f).1 104 = some (.inr (7, [.int 1500, .ref 105, .int 0])) := rfl
set_option maxRecDepth 100000 in
theorem kh7_105 (f : Nat → Option am_C) : (kh_7 f).1 105 = some (.inl (0, 16, .inl (fun _ => 0))) := rfl
set_option maxRecDepth 100000 in
theorem kh7_106 (f : Nat → Option am_C) : (kh_7 f).1 106 = some (.inr (7, [.int 1500, .ref 107, .int 0])) := rfl
set_option maxRecDepth 100000 in
theorem kh7_107 (f : Nat → Option am_C) : (kh_7 f).1 107 = some (.inl (0, 16, .inl (fun _ => 0))) := rfl
set_option maxRecDepth 100000 in
theorem kh7_108 (f : Nat → Option am_C) : (kh_7 f).1 108 = some (.inr (7, [.int 1500, .ref 109, .int 0])) := rfl
set_option maxRecDepth 100000 in
theorem kh7_109 (f : Nat → Option am_C) : (kh_7 f).1 109 = some (.inl (0, 16, .inl (fun _ => 0))) := rfl
set_option maxRecDepth 100000 in
theorem kh7_110 (f : Nat → Option am_C) : (kh_7 f).1 110 = some (.inr (7, [.int 1500, .ref 111, .int 0])) := rfl
set_option maxRecDepth 100000 in
theorem kh7_111 (f : Nat → Option am_C) : (kh_7 f).1 111 = some (.inl (0, 16, .inl (fun _ => 0))) := rfl
set_option maxRecDepth 100000 in
theorem kh7_112 (f : Nat → Option am_C) : (kh_7 f).1 112 = some (.inr (7, [.int 1500, .ref 113, .int 0])) := rfl
set_option maxRecDepth 100000 in
theorem kh7_113 (f : Nat → Option am_C) : (kh_7 f).1 113 = some (.inl (0, 16, .inl (fun _ => 0))) := rfl
set_option maxRecDepth 100000 in
theorem kh7_114 (f : Nat → Option am_C) : (kh_7 f).1 114 = some (.inr (4, [.ref 61, .ref 64, .ref 65, .ref 115, .ref 117, .ref 119, .ref 121, .ref 123, .ref 125, .ref 127, .ref 129, .ref 131, .int 0])) := rfl
set_option maxRecDepth 100000 in
theorem kh7_115 (f : Nat → Option am_C) : (kh_7 f).1 115 = some (.inr (7, [.int 1500, .ref 116, .int 0])) := rfl
set_option maxRecDepth 100000 in
theorem kh7_116 (f : Nat → Option am_C) : (kh_7 f).1 116 = some (.inl (0, 16, .inl (fun _ => 0))) := rfl
set_option maxRecDepth 100000 in
theorem kh7_117 (f : Nat → Option am_C) : (kh_7 f).1 117 = some (.inr (7, [.int 1500, .ref 118, .int 0])) := rfl
set_option maxRecDepth 100000 in
theorem kh7_118 (f : Nat → Option am_C) : (kh_7 f).1 118 = some (.inl (0, 16, .inl (fun _ => 0))) := rfl
set_option maxRecDepth 100000 in
theorem kh7_119 (f : Nat → Option am_C) : (kh_7 f).1 119 = some (.inr (7, [.int 1500, .ref 120, .int 0])) := rfl
set_option maxRecDepth 100000 in
theorem kh7_120 (f : Nat → Option am_C) : (kh_7 f).1 120 = some (.inl (0, 16, .inl (fun _ => 0))) := rfl
set_option maxRecDepth 100000 in
theorem kh7_121 (f : Nat → Option am_C) : (kh_7 f).1 121 = some (.inr (7, [.int 1500, .ref 122, .int 0])) := rfl
set_option maxRecDepth 100000 in
theorem kh7_122 (f : Nat → Option am_C) : (kh_7 f).1 122 = some (.inl (0, 16, .inl (fun _ => 0))) := rfl
set_option maxRecDepth 100000 in
theorem kh7_123 (f : Nat → Option am_C) : (kh_7 f).1 123 = some (.inr (7, [.int 1500, .ref 124, .int 0])) := rfl
set_option maxRecDepth 100000 in
theorem kh7_124 (f : Nat → Option am_C) : (kh_7 f).1 124 = some (.inl (0, 16, .inl (fun _ => 0))) := rfl
set_option maxRecDepth 100000 in
theorem kh7_125 (f : Nat → Option am_C) : (kh_7 f).1 125 = some (.inr (7, [.int 1500, .ref 126, .int 0])) := rfl
set_option maxRecDepth 100000 in
theorem kh7_126 (f : Nat → Option am_C) : (kh_7 f).1 126 = some (.inl (0, 16, .inl (fun _ => 0))) := rfl
set_option maxRecDepth 100000 in
theorem kh7_127 (f : Nat → Option am_C) : (kh_7 f).1 127 = some (.inr (7, [.int 1500, .ref 128, .int 0])) := rfl
set_option maxRecDepth 100000 in
theorem kh7_128 (f : Nat → Option am_C) : (kh_7 f).1 128 = some (.inl (0, 16, .inl (fun _ => 0))) := rfl
set_option maxRecDepth 100000 in
theorem kh7_129 (f : Nat → Option am_C) : (kh_7 f).1 129 = some (.inr (7, [.int 1500, .ref 130, .int 0])) := rfl
set_option maxRecDepth 100000 in
theorem kh7_130 (f : Nat → Option am_C) : (kh_7 f).1 130 = some (.inl (0, 16, .inl (fun _ => 0))) := rfl
set_option maxRecDepth 100000 in
theorem kh7_131 (f : Nat → Option am_C) : (kh_7 f).1 131 = some (.inr (7, [.int 3900, .ref 132, .int 0])) := rfl
set_option maxRecDepth 100000 in
theorem kh7_132 (f : Nat → Option am_C) : (kh_7 f).1 132 = some (.inl (0, 16, .inl (fun _ => 0))) := rfl
set_option maxRecDepth 100000 in
theorem kh7_133 (f : Nat → Option am_C) : (kh_7 f).1 133 = some (.inr (10, [.ref 114, .ref 134])) := rfl
set_option maxRecDepth 100000 in
theorem kh7_134 (f : Nat → Option am_C) : (kh_7 f).1 134 = some (.inr (7, [.int 18000, .ref 135, .int 0])) := rfl
set_option maxRecDepth 100000 in
theorem kh7_135 (f : Nat → Option am_C) : (kh_7 f).1 135 = some (.inl (0, 16, .inl (fun _ => 0))) := rfl
set_option maxRecDepth 100000 in
theorem kh7_sz (f : Nat → Option am_C) : (kh_7 f).2 = 136 := rfl
set_option maxRecDepth 100000 in
set_option maxHeartbeats 4000000 in
theorem kh7_low (f : Nat → Option am_C) : ∀ j, j < 57 → (kh_7 f).1 j = f j := by
  intro j hj
  have : j = 0 ∨ j = 1 ∨ j = 2 ∨ j = 3 ∨ j = 4 ∨ j = 5 ∨ j = 6 ∨ j = 7 ∨ j = 8 ∨ j = 9 ∨ j = 10 ∨ j = 11 ∨ j = 12 ∨ j = 13 ∨ j = 14 ∨ j = 15 ∨ j = 16 ∨ j = 17 ∨ j = 18 ∨ j = 19 ∨ j = 20 ∨ j = 21 ∨ j = 22 ∨ j = 23 ∨ j = 24 ∨ j = 25 ∨ j = 26 ∨ j = 27 ∨ j = 28 ∨ j = 29 ∨ j = 30 ∨ j = 31 ∨ j = 32 ∨ j = 33 ∨ j = 34 ∨ j = 35 ∨ j = 36 ∨ j = 37 ∨ j = 38 ∨ j = 39 ∨ j = 40 ∨ j = 41 ∨ j = 42 ∨ j = 43 ∨ j = 44 ∨ j = 45 ∨ j = 46 ∨ j = 47 ∨ j = 48 ∨ j = 49 ∨ j = 50 ∨ j = 51 ∨ j = 52 ∨ j = 53 ∨ j = 54 ∨ j = 55 ∨ j = 56 := by omega
  rcases this with e | e | e | e | e | e | e | e | e | e | e | e | e | e | e | e | e | e | e | e | e | e | e | e | e | e | e | e | e | e | e | e | e | e | e | e | e | e | e | e | e | e | e | e | e | e | e | e | e | e | e | e | e | e | e | e | e <;> (subst e; rfl)
def nums0 : Nat → Int32 := fun j => if j = 0 then -1 else if j = 3 then -1 else 0
def flds0 : Nat → Int32 := fun k => if k = 45 then -1 else if k = 47 then -1 else 0
def Zst (g : Nat → Int32) : zr_Z := (fun id => if id = 58 then List.replicate 20 0 else [], nums0, fun j => if j = 173 then g else fun _ => 0, flds0, fun _ => 0)
def ga0 (id : Nat) : Nat := if id = 58 then 60 else id + 1
def gn0 (id : Nat) : Nat := if id = 58 then 32 else 16
theorem ga0_inj : ∀ i j, i ∈ zr_rows → j ∈ zr_rows → ga0 i = ga0 j → i = j := by
  have : ∀ i ∈ zr_rows, ∀ j ∈ zr_rows, ga0 i = ga0 j → i = j := by decide +kernel
  exact fun i j hi hj => this i hi j hj
theorem left0 : zr_left gn0 = 132608 := by decide +kernel
set_option maxRecDepth 100000 in
set_option maxHeartbeats 4000000 in
theorem zr_start {sx : Nat × (Nat → Int32)} {f0 f' : Nat → Option am_C} {g : Nat → Int32} (hx : zr_ext sx f0) (hM : MR (kh_7 f0).1 f' g) : zr_P sx (Zst g) 132608 (am_new (f', 174) (.inl (1, 1, .inr (.inl (fun _ => 0))))) := by
  have hlow : ∀ j, j < 136 → (am_new (f', 174) (.inl (1, 1, .inr (.inl (fun _ => 0))))).1 j = (kh_7 f0).1 j := fun j hj => by
    show (if j = 174 then _ else f' j) = _
    rw [if_neg (by omega)]; exact hM.2.2.2.1 j hj
  refine ⟨ga0, gn0, fun _ _ => 0, fun id v hv => ?_, fun id hid => ?_, ga0_inj, ?_, fun j h1 h2 => ?_, rfl, ?_, Nat.le_refl _, Nat.le_of_eq left0⟩
  · have hq := zr_ob_fix hv
    rw [hlow id (by omega)]
    unfold zr_ob at hv
    split at hv <;> first | (cases hv; done) | (injection hv with hv; subst hv; rfl)
  · have hb := (zr_rows_fix id hid).2
    have : ∀ id ∈ zr_rows, ga0 id < 136 ∧ id < 136 ∧ zr_fix (ga0 id) = false ∧ am_X ≤ ga0 id := by decide +kernel
    obtain ⟨b1, b2, b3, b4⟩ := this id hid
    refine ⟨?_, ?_, b3, b4, by show ga0 id < 175; omega, ?_, ?_, ?_, ?_, ?_⟩
    · rw [hlow id b2]
      have : id = 58 ∨ id = 61 ∨ id = 66 ∨ id = 68 ∨ id = 70 ∨ id = 72 ∨ id = 74 ∨ id = 76 ∨ id = 78 ∨ id = 80 ∨ id = 83 ∨ id = 85 ∨ id = 87 ∨ id = 91 ∨ id = 93 ∨ id = 95 ∨ id = 97 ∨ id = 99 ∨ id = 101 ∨ id = 104 ∨ id = 106 ∨ id = 108 ∨ id = 110 ∨ id = 112 ∨ id = 115 ∨ id = 117 ∨ id = 119 ∨ id = 121 ∨ id = 123 ∨ id = 125 ∨ id = 127 ∨ id = 129 ∨ id = 131 ∨ id = 134 := by
        have h := hid; simp only [zr_rows, List.mem_cons, List.not_mem_nil, or_false] at h; exact h
      rcases this with e | e | e | e | e | e | e | e | e | e | e | e | e | e | e | e | e | e | e | e | e | e | e | e | e | e | e | e | e | e | e | e | e | e <;> (subst e; rfl)
    · rw [hlow _ b1]
      have : id = 58 ∨ id = 61 ∨ id = 66 ∨ id = 68 ∨ id = 70 ∨ id = 72 ∨ id = 74 ∨ id = 76 ∨ id = 78 ∨ id = 80 ∨ id = 83 ∨ id = 85 ∨ id = 87 ∨ id = 91 ∨ id = 93 ∨ id = 95 ∨ id = 97 ∨ id = 99 ∨ id = 101 ∨ id = 104 ∨ id = 106 ∨ id = 108 ∨ id = 110 ∨ id = 112 ∨ id = 115 ∨ id = 117 ∨ id = 119 ∨ id = 121 ∨ id = 123 ∨ id = 125 ∨ id = 127 ∨ id = 129 ∨ id = 131 ∨ id = 134 := by
        have h := hid; simp only [zr_rows, List.mem_cons, List.not_mem_nil, or_false] at h; exact h
      rcases this with e | e | e | e | e | e | e | e | e | e | e | e | e | e | e | e | e | e | e | e | e | e | e | e | e | e | e | e | e | e | e | e | e | e
      · subst e
        show (kh_7 f0).1 60 = _
        rw [kh7_60]
        have : (fun j : Nat => if j < 20 then (0 : Int32) else 0) = fun _ => 0 := by funext j; rw [ite_self]
        rw [this]; rfl
      all_goals (subst e; rfl)
    · have : ∀ id ∈ zr_rows, (if id = 58 then List.replicate 20 (0 : Int32) else []).length ≤ gn0 id := by decide +kernel
      exact this id hid
    · have : ∀ id ∈ zr_rows, (if id = 58 then List.replicate 20 (0 : Int32) else []).length ≤ zr_most id := by decide +kernel
      exact this id hid
    · intro i x hi
      by_cases e : id = 58
      · subst e
        have hi' : (List.replicate 20 (0 : Int32))[i]? = some x := hi
        rw [List.getElem?_replicate] at hi'
        split at hi' <;> simp_all
      · have : (Zst g).1 id = [] := if_neg e
        rw [this] at hi; cases hi
    · unfold gn0; split <;> decide
    · have : ∀ id ∈ zr_rows, gn0 id ≤ zr_zc id := by decide +kernel
      exact this id hid
  · have e : (am_new (f', 174) (.inl (1, 1, .inr (.inl (fun _ => 0))))).1 zr_ref = f' 136 := rfl
    rw [e, hM.1]; rfl
  · show (if j = 174 then _ else f' j) = _
    rw [if_neg (by omega)]
    by_cases e : j = 173
    · subst e; exact hM.2.2.1
    · have : (Zst g).2.2.1 j = fun _ => 0 := if_neg e
      rw [this]; exact hM.2.1 j h1 (by omega)
  · obtain ⟨e1, e2, e3⟩ := hx
    refine ⟨?_, ?_, fun j hj => ⟨?_, ?_⟩⟩
    · rw [hlow 0 (by decide), kh7_low _ 0 (by decide)]; exact e1
    · rw [hlow 1 (by decide), kh7_low _ 1 (by decide)]; exact e2
    · rw [hlow _ (by omega), kh7_low _ _ (by omega)]; exact (e3 j hj).1
    · rw [hlow _ (by omega), kh7_low _ _ (by omega)]; exact (e3 j hj).2
