/-! the roles: the reference's closure -/
theorem x12 : ∀ i, i < 12 → ¬ (12 : Int32) ≤ Int32.ofNat i ∧ xn (Int32.ofNat i) 12 = true ∧ (Int32.ofNat i).toNatClampNeg = i ∧ Int32.ofNat i + 1 = Int32.ofNat (i + 1) := by decide
/-- one round over the roles, what is found counting at once -/
def wr (U : Nat → Int32) (x : Int32) : Int32 := (List.range' 0 12).foldl (fun x i => if (x >>> (Int32.ofNat i &&& 31)) &&& 1 = 1 then x ||| U i else x) x
theorem g153_13_eq (x c : Int32) (σ : xS) : g153_13 x c 0 σ = some (.inl (wr (σ 54) x, c + 1, σ)) := by
  unfold g153_13
  exact xlo_for (fun i y => (y, c, Int32.ofNat i, σ)) 12 (fun i y => if (y >>> (Int32.ofNat i &&& 31)) &&& 1 = 1 then y ||| σ 54 i else y) (fun y => Sum.inl (y, c + 1, σ)) (fun i y hi => by
    obtain ⟨h1, h2, h3, h4⟩ := x12 i hi
    dsimp only
    unfold g153_13b
    rw [if_neg h1, h2, cond_true, h3]
    unfold g153_40
    rw [h4]
    by_cases hb : (y >>> (Int32.ofNat i &&& 31)) &&& 1 = 1
    · rw [if_pos hb, if_pos hb]
    · rw [if_neg hb, if_neg hb]) (fun y => by
    dsimp only
    unfold g153_13b
    rw [if_pos (by decide)]) 12 1000 0 x rfl (by decide)
/-- twelve rounds -/
def wc (U : Nat → Int32) (x : Int32) : Int32 := (List.range' 0 12).foldl (fun x _ => wr U x) x
theorem g153_eq (x : Int32) (σ : xS) : g153 x σ = some (.inl (wc (σ 54) x), σ) := by
  unfold g153 g153_4
  exact xlo_for (fun i y => (y, Int32.ofNat i, σ)) 12 (fun _ y => wr (σ 54) y) (fun y => (Sum.inl y, σ)) (fun i y hi => by
    obtain ⟨h1, h2, h3, h4⟩ := x12 i hi
    dsimp only
    unfold g153_4b
    rw [if_neg h1, g153_13_eq, h4]) (fun y => by
    dsimp only
    unfold g153_4b
    rw [if_pos (by decide)]) 12 1000 0 x rfl (by decide)
/-- how many of the twelve -/
def wm (x : Int32) : Int32 := (List.range' 0 12).foldl (fun n i => n + ((x >>> (Int32.ofNat i &&& 31)) &&& 1)) 0
theorem g156_eq (x : Int32) (σ : xS) : g156 x σ = some (.inl (wm x), σ) := by
  unfold g156 g156_4
  exact xlo_for (fun i y => (x, y, Int32.ofNat i, σ)) 12 (fun i y => y + ((x >>> (Int32.ofNat i &&& 31)) &&& 1)) (fun y => (Sum.inl y, σ)) (fun i y hi => by
    obtain ⟨h1, h2, h3, h4⟩ := x12 i hi
    dsimp only
    unfold g156_4b
    rw [if_neg h1, h4]) (fun y => by
    dsimp only
    unfold g156_4b
    rw [if_pos (by decide)]) 12 1000 0 0 rfl (by decide)
/-! the class's closure -/
theorem xb_if {γ : Type} (b : Bool) (A B : γ) : (if xb b = 0 then A else B) = bif b then B else A := by cases b <;> rfl
/-- one round over the roles known at its start -/
def wj (U : Nat → Int32) (k : Int32) : Int32 := (List.range' 0 12).foldl (fun y i => if (k >>> (Int32.ofNat i &&& 31)) &&& 1 = 1 then y ||| U i else y) k
/-- rounds until nothing is found, at most n -/
def wk (U : Nat → Int32) : Nat → Int32 → Int32
  | 0, x => x
  | n + 1, x => if wj U x = x then x else wk U n (wj U x)
theorem g30_16_eq (x c : Int32) (σ : xS) : g30_16 x c x 0 σ = some (if wj (σ 2) x = x then .inr (.inl (wj (σ 2) x), σ) else .inl (wj (σ 2) x, c + 1, σ)) := by
  unfold g30_16
  exact xlo_for (fun i y => (y, c, x, Int32.ofNat i, σ)) 12 (fun i y => if (x >>> (Int32.ofNat i &&& 31)) &&& 1 = 1 then y ||| σ 2 i else y) (fun y => (if y = x then Sum.inr (Sum.inl y, σ) else Sum.inl (y, c + 1, σ) : (Int32 × Int32 × xS) ⊕ xQ)) (fun i y hi => by
    obtain ⟨h1, h2, h3, h4⟩ := x12 i hi
    dsimp only
    unfold g30_16b
    rw [if_neg h1, g28_eq]
    dsimp only
    rw [xb_if, h2, cond_true, h3]
    unfold g30_43
    rw [h4]
    by_cases hb : (x >>> (Int32.ofNat i &&& 31)) &&& 1 = 1
    · rw [decide_eq_true hb, cond_true, if_pos hb]
    · rw [decide_eq_false hb, cond_false, if_neg hb]) (fun y => by
    dsimp only
    unfold g30_16b
    rw [if_pos (by decide)]
    by_cases hy : y = x
    · rw [if_pos hy, if_pos hy]
    · rw [if_neg hy, if_neg hy]) 12 1000 0 x rfl (by decide)
theorem g30_4_eq (σ : xS) : ∀ (k n i : Nat) (x : Int32), i + k = 12 → k < n → xlo (fun a : Int32 × Int32 × xS => g30_4b a.1 a.2.1 a.2.2) n (x, Int32.ofNat i, σ) = some (.inl (wk (σ 2) k x), σ)
  | _, 0, _, _, _, hn => absurd hn (Nat.not_lt_zero _)
  | 0, n + 1, i, x, hi, _ => by
    rw [Nat.add_zero] at hi
    subst hi
    refine xlo_end ?_
    dsimp only
    unfold g30_4b
    rw [if_pos (by decide)]
    rfl
  | k + 1, n + 1, i, x, hi, hn => by
    obtain ⟨h1, h2, h3, h4⟩ := x12 i (by omega)
    by_cases hw : wj (σ 2) x = x
    · have e : g30_4b x (Int32.ofNat i) σ = some (.inr (.inl x, σ)) := by
        unfold g30_4b
        rw [if_neg h1, g30_16_eq, if_pos hw, hw]
      rw [xlo_end (a := (x, Int32.ofNat i, σ)) e, wk, if_pos hw]
    · have e : g30_4b x (Int32.ofNat i) σ = some (.inl (wj (σ 2) x, Int32.ofNat (i + 1), σ)) := by
        unfold g30_4b
        rw [if_neg h1, g30_16_eq, if_neg hw, h4]
      rw [xlo_step (a := (x, Int32.ofNat i, σ)) e, g30_4_eq σ k n (i + 1) _ (by omega) (by omega), wk, if_neg hw]
theorem g30_eq (x : Int32) (σ : xS) : g30 x σ = some (.inl (wk (σ 2) 11 x), σ) := by
  unfold g30 g30_4
  exact g30_4_eq σ 11 1000 1 x rfl (by decide)
