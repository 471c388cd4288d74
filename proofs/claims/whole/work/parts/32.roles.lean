/-! the roles: the reference's closure -/
theorem x12 : ∀ i, i < 12 → ¬ (12 : Int32) ≤ Int32.ofNat i ∧ xn (Int32.ofNat i) 12 = true ∧ (Int32.ofNat i).toNatClampNeg = i ∧ Int32.ofNat i + 1 = Int32.ofNat (i + 1) := by decide
/-- one round over the roles, what is found counting at once -/
def wr (U : Nat → Int32) (x : Int32) : Int32 := (List.range' 0 12).foldl (fun x i => if (x >>> (Int32.ofNat i &&& 31)) &&& 1 = 1 then x ||| U i else x) x
theorem g153_13_eq (x c : Int32) (σ : xS) : g153_13 x c 0 σ = some (.inl (wr (σ 54) x, c + 1, σ)) := by
  unfold g153_13
  exact xlo_for (fun i y => (y, c, Int32.ofNat i, σ)) 12 (fun i y => if (y >>> (Int32.ofNat i &&& 31)) &&& 1 = 1 then y ||| σ 54 i else y) (fun y => Sum.inl (y, c + 1, σ)) (fun i y hi => by
    obtain ⟨h1, h2, h3, h4⟩ := x12 i hi
    dsimp only
    unfold g153_13b
    rw [if_neg h1, h2, cond_true, h3]
    unfold g153_40
    rw [h4]
    by_cases hb : (y >>> (Int32.ofNat i &&& 31)) &&& 1 = 1
    · rw [if_pos hb, if_pos hb]
    · rw [if_neg hb, if_neg hb]) (fun y => by
    dsimp only
    unfold g153_13b
    rw [if_pos (by decide)]) 12 1000 0 x rfl (by decide)
/-- twelve rounds -/
def wc (U : Nat → Int32) (x : Int32) : Int32 := (List.range' 0 12).foldl (fun x _ => wr U x) x
theorem g153_eq (x : Int32) (σ : xS) : g153 x σ = some (.inl (wc (σ 54) x), σ) := by
  unfold g153 g153_4
  exact xlo_for (fun i y => (y, Int32.ofNat i, σ)) 12 (fun _ y => wr (σ 54) y) (fun y => (Sum.inl y, σ)) (fun i y hi => by
    obtain ⟨h1, h2, h3, h4⟩ := x12 i hi
    dsimp only
    unfold g153_4b
    rw [if_neg h1, g153_13_eq, h4]) (fun y => by
    dsimp only
    unfold g153_4b
    rw [if_pos (by decide)]) 12 1000 0 x rfl (by decide)
/-- how many of the twelve -/
def wm (x : Int32) : Int32 := (List.range' 0 12).foldl (fun n i => n + ((x >>> (Int32.ofNat i &&& 31)) &&& 1)) 0
theorem g156_eq (x : Int32) (σ : xS) : g156 x σ = some (.inl (wm x), σ) := by
  unfold g156 g156_4
  exact xlo_for (fun i y => (x, y, Int32.ofNat i, σ)) 12 (fun i y => y + ((x >>> (Int32.ofNat i &&& 31)) &&& 1)) (fun y => (Sum.inl y, σ)) (fun i y hi => by
    obtain ⟨h1, h2, h3, h4⟩ := x12 i hi
    dsimp only
    unfold g156_4b
    rw [if_neg h1, h4]) (fun y => by
    dsimp only
    unfold g156_4b
    rw [if_pos (by decide)]) 12 1000 0 0 rfl (by decide)
