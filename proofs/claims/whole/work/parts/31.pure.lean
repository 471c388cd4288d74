/-! the pure part: what the functions come to -/
theorem xb_01 (b : Bool) : decide (xb b = 0 ∨ xb b = 1) = true := by cases b <;> decide
theorem g25_eq (x b : Int32) (σ : xS) : g25 x b σ = some (.inl (xb (decide (0 ≤ x ∧ x < b))), σ) := by
  unfold g25
  by_cases h1 : x < 0
  · rw [if_pos h1, decide_eq_false (fun q => absurd h1 (Int32.not_lt.mpr q.1))]
    rfl
  · rw [if_neg h1]
    by_cases h2 : b ≤ x
    · rw [if_pos h2, decide_eq_false (fun q => absurd q.2 (Int32.not_lt.mpr h2))]
      rfl
    · rw [if_neg h2, decide_eq_true ⟨Int32.not_lt.mp h1, Int32.not_le.mp h2⟩]
      rfl
theorem g24_eq (x : Int32) (σ : xS) : g24 x σ = some (.inl (xb (decide (0 ≤ x ∧ x < 12))), σ) := by
  unfold g24; rw [g25_eq]; dsimp only; rw [xb_01, cond_true]
theorem g47_eq (x : Int32) (σ : xS) : g47 x σ = some (.inl (xb (decide (0 ≤ x ∧ x < 8))), σ) := by
  unfold g47; rw [g25_eq]; dsimp only; rw [xb_01, cond_true]
theorem g63_eq (x : Int32) (σ : xS) : g63 x σ = some (.inl (xb (decide (0 ≤ x ∧ x < 6))), σ) := by
  unfold g63; rw [g25_eq]; dsimp only; rw [xb_01, cond_true]
theorem g80_eq (x : Int32) (σ : xS) : g80 x σ = some (.inl (xb (decide (0 ≤ x ∧ x < 16))), σ) := by
  unfold g80; rw [g25_eq]; dsimp only; rw [xb_01, cond_true]
theorem g152_eq (x b : Int32) (σ : xS) : g152 x b σ = some (.inl (xb (decide (0 ≤ x ∧ x < b))), σ) := by
  unfold g152
  by_cases h1 : x < 0
  · rw [if_pos h1, decide_eq_false (fun q => absurd h1 (Int32.not_lt.mpr q.1))]
    rfl
  · rw [if_neg h1]
    by_cases h2 : b ≤ x
    · rw [if_pos h2, decide_eq_false (fun q => absurd q.2 (Int32.not_lt.mpr h2))]
      rfl
    · rw [if_neg h2, decide_eq_true ⟨Int32.not_lt.mp h1, Int32.not_le.mp h2⟩]
      rfl
theorem g28_eq (s m : Int32) (σ : xS) : g28 s m σ = some (.inl (xb (decide (s >>> (m &&& 31) &&& 1 = 1))), σ) := by
  unfold g28
  by_cases h1 : s >>> (m &&& 31) &&& 1 = 1
  · rw [if_pos h1, decide_eq_true h1]; rfl
  · rw [if_neg h1, decide_eq_false h1]; rfl
theorem g26_eq (b : Bool) (σ : xS) : g26 (xb b) σ = some (bif b then .inl 0 else .inr 0, σ) := by
  cases b <;> rfl
theorem g31_eq (b : Bool) (σ : xS) : g31 (xb b) σ = some (bif b then .inl 0 else .inr 1, σ) := by
  cases b <;> rfl
section Xlo
variable {α β ρ : Type} {f : α → Option (α ⊕ ρ)}
theorem xlo_step {n : Nat} {a b : α} (h : f a = some (.inl b)) : xlo f (n + 1) a = xlo f n b := by
  rw [xlo, h]
theorem xlo_end {n : Nat} {a : α} {q : ρ} (h : f a = some (.inr q)) : xlo f (n + 1) a = some q := by
  rw [xlo, h]
theorem xlo_more : ∀ (n m : Nat) (a : α) (q : ρ), xlo f n a = some q → n ≤ m → xlo f m a = some q
  | 0, _, _, _, h, _ => by cases h
  | n + 1, 0, _, _, _, hm => absurd hm (Nat.not_succ_le_zero n)
  | n + 1, m + 1, a, q, h, hm => by
    rw [xlo] at h ⊢
    cases hq : f a with
    | none => rw [hq] at h; cases h
    | some x =>
      rw [hq] at h
      cases x with
      | inl b => exact xlo_more n m b q h (Nat.le_of_succ_le_succ hm)
      | inr y => exact h
/-- a loop that counts up to N and carries b -/
theorem xlo_for (st : Nat → β → α) (N : Nat) (body : Nat → β → β) (fin : β → ρ) (hs : ∀ i b, i < N → f (st i b) = some (.inl (st (i + 1) (body i b)))) (he : ∀ b, f (st N b) = some (.inr (fin b))) :
    ∀ (k n i : Nat) (b : β), i + k = N → k < n → xlo f n (st i b) = some (fin ((List.range' i k).foldl (fun b i => body i b) b))
  | _, 0, _, _, _, hn => absurd hn (Nat.not_lt_zero _)
  | 0, n + 1, i, b, hi, _ => by
    rw [Nat.add_zero] at hi
    subst hi
    rw [xlo_end (he b)]
    rfl
  | k + 1, n + 1, i, b, hi, hn => by
    rw [xlo_step (hs i b (by omega)), xlo_for st N body fin hs he k n (i + 1) _ (by omega) (by omega)]
    rfl
/-- a loop that counts up to N, and may stop on the way -/
theorem xlo_find (st : Nat → α) (N : Nat) (stop : Nat → Option ρ) (fin : ρ) (hs : ∀ i, i < N → f (st i) = some (match stop i with | some q => .inr q | none => .inl (st (i + 1)))) (he : f (st N) = some (.inr fin)) :
    ∀ (k n i : Nat), i + k = N → k < n → xlo f n (st i) = some (((List.range' i k).findSome? stop).getD fin)
  | _, 0, _, _, hn => absurd hn (Nat.not_lt_zero _)
  | 0, n + 1, i, hi, _ => by
    rw [Nat.add_zero] at hi
    subst hi
    rw [xlo_end he]
    rfl
  | k + 1, n + 1, i, hi, hn => by
    have h1 := hs i (by omega)
    rw [List.range'_succ, List.findSome?_cons]
    cases hq : stop i with
    | none => rw [hq] at h1; rw [xlo_step h1, xlo_find st N stop fin hs he k n (i + 1) (by omega) (by omega)]
    | some q => rw [hq] at h1; rw [xlo_end h1]; rfl
end Xlo
