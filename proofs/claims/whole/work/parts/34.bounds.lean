/-! bounds: who breaks one -/
theorem x8 : ∀ i, i < 8 → ¬ (8 : Int32) ≤ Int32.ofNat i ∧ xn (Int32.ofNat i) 8 = true ∧ (Int32.ofNat i).toNatClampNeg = i ∧ Int32.ofNat i + 1 = Int32.ofNat (i + 1) := by decide
theorem x6 : ∀ i, i < 6 → ¬ (6 : Int32) ≤ Int32.ofNat i ∧ xn (Int32.ofNat i) 6 = true ∧ (Int32.ofNat i).toNatClampNeg = i ∧ Int32.ofNat i + 1 = Int32.ofNat (i + 1) := by decide
theorem g39_eq {i : Nat} (hi : i < 8) (σ : xS) : g39 (Int32.ofNat i) σ = some (.inl (wk (σ 2) 11 (σ 4 i)), σ) := by
  obtain ⟨h1, h2, h3, h4⟩ := x8 i hi
  unfold g39
  rw [h2, cond_true, h3, g30_eq]
theorem g36_eq {i : Nat} (hi : i < 6) (σ : xS) : g36 (Int32.ofNat i) σ = some (.inl (wk (σ 2) 11 (σ 9 i)), σ) := by
  obtain ⟨h1, h2, h3, h4⟩ := x6 i hi
  unfold g36
  rw [h2, cond_true, h3, g30_eq]
/-- the first of them that breaks it says so -/
def wf (N : Nat) (x : Nat → Int32) (n : Int32) (σ : xS) : xQ := ((List.range' 0 N).findSome? (fun i => if x i < n then none else some ((Sum.inl 1, σ) : xQ))).getD (Sum.inl 0, σ)
theorem g38_eq (r n : Int32) (σ : xS) : g38 r n σ = some (wf 8 (fun i => wb (wk (σ 2) 11 (σ 4 i) &&& r)) n σ) := by
  unfold g38 g38_2
  exact xlo_find (fun i => (r, n, Int32.ofNat i, σ)) 8 (fun i => if wb (wk (σ 2) 11 (σ 4 i) &&& r) < n then none else some ((Sum.inl 1, σ) : xQ)) (Sum.inl 0, σ) (fun i hi => by
    obtain ⟨h1, h2, h3, h4⟩ := x8 i hi
    dsimp only
    unfold g38_2b
    rw [if_neg h1, g39_eq hi]
    dsimp only
    rw [g37_eq]
    dsimp only
    by_cases hb : wb (wk (σ 2) 11 (σ 4 i) &&& r) < n
    · rw [if_pos hb, if_pos hb, h4]
    · rw [if_neg hb, if_neg hb]) (by
    dsimp only
    unfold g38_2b
    rw [if_pos (by decide)]) 8 1000 0 rfl (by decide)
theorem g35_eq (r n : Int32) (σ : xS) : g35 r n σ = some (wf 6 (fun i => wb (wk (σ 2) 11 (σ 9 i) &&& r)) n σ) := by
  unfold g35 g35_2
  exact xlo_find (fun i => (r, n, Int32.ofNat i, σ)) 6 (fun i => if wb (wk (σ 2) 11 (σ 9 i) &&& r) < n then none else some ((Sum.inl 1, σ) : xQ)) (Sum.inl 0, σ) (fun i hi => by
    obtain ⟨h1, h2, h3, h4⟩ := x6 i hi
    dsimp only
    unfold g35_2b
    rw [if_neg h1, g36_eq hi]
    dsimp only
    rw [g37_eq]
    dsimp only
    by_cases hb : wb (wk (σ 2) 11 (σ 9 i) &&& r) < n
    · rw [if_pos hb, if_pos hb, h4]
    · rw [if_neg hb, if_neg hb]) (by
    dsimp only
    unfold g35_2b
    rw [if_pos (by decide)]) 6 1000 0 rfl (by decide)
theorem g155_67_eq {b : Nat} (hb6 : b < 6) (σ : xS) : g155_67 (Int32.ofNat b) 0 σ = some (wf 8 (fun i => wm (wc (σ 54) (σ 55 i) &&& σ 63 b)) (σ 64 b) σ) := by
  obtain ⟨-, k2, k3, -⟩ := x6 b hb6
  unfold g155_67
  exact xlo_find (fun i => (Int32.ofNat b, Int32.ofNat i, σ)) 8 (fun i => if wm (wc (σ 54) (σ 55 i) &&& σ 63 b) < σ 64 b then none else some ((Sum.inl 1, σ) : xQ)) (Sum.inl 0, σ) (fun i hi => by
    obtain ⟨h1, h2, h3, h4⟩ := x8 i hi
    dsimp only
    unfold g155_67b
    rw [if_neg h1, h2, cond_true, h3, g153_eq]
    dsimp only
    rw [k2, cond_true, k3, g156_eq]
    dsimp only
    by_cases hb : wm (wc (σ 54) (σ 55 i) &&& σ 63 b) < σ 64 b
    · rw [if_pos hb, if_pos hb, h4]
    · rw [if_neg hb, if_neg hb]) (by
    dsimp only
    unfold g155_67b
    rw [if_pos (by decide)]) 8 1000 0 rfl (by decide)
/-- the reference asks the open sessions alone -/
def wo (N : Nat) (o x : Nat → Int32) (n : Int32) (σ : xS) : xQ := ((List.range' 0 N).findSome? (fun i => if o i = 0 then none else if x i < n then none else some ((Sum.inl 1, σ) : xQ))).getD (Sum.inl 0, σ)
theorem g155_11_eq {b : Nat} (hb6 : b < 6) (σ : xS) : g155_11 (Int32.ofNat b) 0 σ = some (wo 6 (σ 58) (fun i => wm (wc (σ 54) (σ 60 i) &&& σ 63 b)) (σ 64 b) σ) := by
  obtain ⟨-, k2, k3, -⟩ := x6 b hb6
  unfold g155_11
  exact xlo_find (fun i => (Int32.ofNat b, Int32.ofNat i, σ)) 6 (fun i => if σ 58 i = 0 then none else if wm (wc (σ 54) (σ 60 i) &&& σ 63 b) < σ 64 b then none else some ((Sum.inl 1, σ) : xQ)) (Sum.inl 0, σ) (fun i hi => by
    obtain ⟨h1, h2, h3, h4⟩ := x6 i hi
    dsimp only
    unfold g155_11b g155_57
    rw [if_neg h1, h2, cond_true, h3, h4]
    by_cases ho : σ 58 i = 0
    · rw [if_pos ho, if_pos ho]
    · rw [if_neg ho, if_neg ho, g153_eq]
      dsimp only
      rw [k2, cond_true, k3, g156_eq]
      dsimp only
      by_cases hb : wm (wc (σ 54) (σ 60 i) &&& σ 63 b) < σ 64 b
      · rw [if_pos hb, if_pos hb]
      · rw [if_neg hb, if_neg hb]) (by
    dsimp only
    unfold g155_11b
    rw [if_pos (by decide)]) 6 1000 0 rfl (by decide)
