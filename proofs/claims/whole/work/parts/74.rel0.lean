theorem REL_start {g : Nat → Int32} (hg : ∀ j, j < 97 → g j = zr_names.getD j 0) : REL (Zst g) (Zst g) := by
  have hr : ∀ id, ¬ id = 58 → (Zst g).1 id = [] := fun id h => if_neg h
  have hv : ∀ j, ¬ j = 173 → ∀ i, rv (Zst g) j i = 0 := fun j h i => by
    show (if j = 173 then g else fun _ => 0) i = 0
    rw [if_neg h]
  refine ⟨⟨[], [], ?_⟩, ?_, ?_, ?_, rfl, rfl⟩
  · refine ⟨hr 61 (by decide), ⟨rfl, fun i hi => absurd hi (by simp)⟩, ⟨by decide, fun c hc => absurd hc (by simp)⟩, fun i hi => ?_, by decide, fun w hw => absurd hw (by simp), hr 83 (by decide), hr 85 (by decide), rfl, fun d hd => absurd hd (by simp), fun d k hd => absurd hd (by simp)⟩
    exact hg i hi
  · have h58 : (Zst g).1 58 = List.replicate 20 0 := rfl
    refine ⟨by rw [h58, List.length_replicate], fun i hi => ?_, fun i hi => ?_⟩
    · rw [h58, getD_rep hi, hv 138 (by decide)]
    · rw [h58, getD_rep hi]; decide
  · have h134 : (Zst g).1 134 = [] := hr 134 (by decide)
    refine ⟨by rw [h134]; decide, by rw [h134]; rfl, fun i hi => ?_⟩
    rw [h134] at hi; exact absurd hi (by simp)
  · refine ⟨[], 0, CN_nil (fun id hid => ?_), Or.inr ⟨rfl, rfl, rfl⟩⟩
    refine hr id ?_
    revert hid; revert id; decide
