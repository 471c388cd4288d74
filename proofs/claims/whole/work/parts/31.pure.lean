/-! the pure part: what the functions come to -/
theorem xb_01 (b : Bool) : decide (xb b = 0 ∨ xb b = 1) = true := by cases b <;> decide
theorem g25_eq (x b : Int32) (σ : xS) : g25 x b σ = some (.inl (xb (decide (0 ≤ x ∧ x < b))), σ) := by
  unfold g25
  by_cases h1 : x < 0
  · rw [if_pos h1, decide_eq_false (fun q => absurd h1 (Int32.not_lt.mpr q.1))]
    rfl
  · rw [if_neg h1]
    by_cases h2 : b ≤ x
    · rw [if_pos h2, decide_eq_false (fun q => absurd q.2 (Int32.not_lt.mpr h2))]
      rfl
    · rw [if_neg h2, decide_eq_true ⟨Int32.not_lt.mp h1, Int32.not_le.mp h2⟩]
      rfl
theorem g24_eq (x : Int32) (σ : xS) : g24 x σ = some (.inl (xb (decide (0 ≤ x ∧ x < 12))), σ) := by
  unfold g24; rw [g25_eq]; dsimp only; rw [xb_01, cond_true]
theorem g47_eq (x : Int32) (σ : xS) : g47 x σ = some (.inl (xb (decide (0 ≤ x ∧ x < 8))), σ) := by
  unfold g47; rw [g25_eq]; dsimp only; rw [xb_01, cond_true]
theorem g63_eq (x : Int32) (σ : xS) : g63 x σ = some (.inl (xb (decide (0 ≤ x ∧ x < 6))), σ) := by
  unfold g63; rw [g25_eq]; dsimp only; rw [xb_01, cond_true]
theorem g80_eq (x : Int32) (σ : xS) : g80 x σ = some (.inl (xb (decide (0 ≤ x ∧ x < 16))), σ) := by
  unfold g80; rw [g25_eq]; dsimp only; rw [xb_01, cond_true]
theorem g152_eq (x b : Int32) (σ : xS) : g152 x b σ = some (.inl (xb (decide (0 ≤ x ∧ x < b))), σ) := by
  unfold g152
  by_cases h1 : x < 0
  · rw [if_pos h1, decide_eq_false (fun q => absurd h1 (Int32.not_lt.mpr q.1))]
    rfl
  · rw [if_neg h1]
    by_cases h2 : b ≤ x
    · rw [if_pos h2, decide_eq_false (fun q => absurd q.2 (Int32.not_lt.mpr h2))]
      rfl
    · rw [if_neg h2, decide_eq_true ⟨Int32.not_lt.mp h1, Int32.not_le.mp h2⟩]
      rfl
theorem g28_eq (s m : Int32) (σ : xS) : g28 s m σ = some (.inl (xb (decide (s >>> (m &&& 31) &&& 1 = 1))), σ) := by
  unfold g28
  by_cases h1 : s >>> (m &&& 31) &&& 1 = 1
  · rw [if_pos h1, decide_eq_true h1]; rfl
  · rw [if_neg h1, decide_eq_false h1]; rfl
theorem g26_eq (b : Bool) (σ : xS) : g26 (xb b) σ = some (bif b then .inl 0 else .inr 0, σ) := by
  cases b <;> rfl
theorem g31_eq (b : Bool) (σ : xS) : g31 (xb b) σ = some (bif b then .inl 0 else .inr 1, σ) := by
  cases b <;> rfl
