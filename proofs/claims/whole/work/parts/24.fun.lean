/-! what a method does, as a function of the ints: .inl what it returns (0 where nothing), .inr which exception it throws; none where the machine would leave the road -/
abbrev xH (l : Launch) : Prop := ∀ e, l.admits e → e.platform.stackTraces = false
abbrev xS : Type := Nat → Nat → Int32
abbrev xQ : Type := (Int32 ⊕ Nat) × xS
abbrev xO : Type := Option xQ
def xn (x : Int32) (n : Nat) : Bool := !decide (x < 0) && Nat.blt x.toNatClampNeg n
theorem xn_in {x : Int32} {n : Nat} (h : xn x n = true) : vp_in x n := by
  unfold xn at h
  simp only [Bool.and_eq_true, Bool.not_eq_true', decide_eq_false_iff_not, Nat.blt_eq] at h
  unfold vp_in
  intro q
  rcases q with q | q
  · exact h.1 q
  · omega
theorem xb01 {x : Int32} (h : decide (x = 0 ∨ x = 1) = true) : x = 0 ∨ x = 1 := of_decide_eq_true h
def xlo {α ρ : Type} (f : α → Option (α ⊕ ρ)) : Nat → α → Option ρ
  | 0, _ => none
  | n + 1, a => match f a with
    | none => none
    | some (.inl b) => xlo f n b
    | some (.inr q) => some q
def xo {ρ : Type} (B : ρ → Prop) : Option ρ → Prop
  | none => False
  | some q => B q
def xd {α ρ : Type} (A : α → Prop) (B : ρ → Prop) : α ⊕ ρ → Prop
  | .inl a => A a
  | .inr q => B q
theorem xo_map {α ρ : Type} {A : α → Prop} {B : ρ → Prop} {x : Option ρ} (h : xo (xd A B) (x.map Sum.inr)) : xo B x := by
  cases x with
  | none => exact h
  | some q => exact h
theorem xlo_ok {α ρ : Type} {f : α → Option (α ⊕ ρ)} {A : α → Prop} {B : ρ → Prop} (hb : ∀ a, xo (xd A B) (f a) → A a) : ∀ (n : Nat) (a : α), xo B (xlo f n a) → A a
  | 0, a, H => False.elim H
  | n + 1, a, H => by
    refine hb a ?_
    unfold xlo at H
    cases hq : f a with
    | none => rw [hq] at H; exact H
    | some q =>
      rw [hq] at H
      cases q with
      | inl b => exact xlo_ok hb n b H
      | inr q => exact H
def xq_R (vd : Bool) (p : Nat) (τ : Nat → Nat → Int64) (q : xQ) : xv_R := (match q.1 with
  | .inl v => .inl (bif vd then none else some (.int v))
  | .inr c => .inr (xq_C c), hM p q.2 τ)
def xB (vd : Bool) (p : Nat) (τ : Nat → Nat → Int64) (r : xv_R) (q : xQ) : Prop := xq_R vd p τ q = r
