/-! the methods as functions: laid by program (wip/whole/dec.py) -/
/- AccessDesk$Judge.combineOnlyOne -/
def g134_64 (p : Nat) (x1 : Int32) (x2 : Int32) (x3 : Int32) (σ : xS) : Option ((Int32 × Int32 × Int32 × xS) ⊕ xQ) := some (Sum.inl (x1, x2, (x3 + 1), σ))
def g134_54 (p : Nat) (x1 : Int32) (σ : xS) : Option xQ := (bif xn x1 40 then some ((Sum.inl 0, (xh_ui σ 48 (Int32.toNatClampNeg x1) 5))) else none)
def g134_6b (p : Nat) (x1 : Int32) (x2 : Int32) (x3 : Int32) (σ : xS) : Option ((Int32 × Int32 × Int32 × xS) ⊕ xQ) := (if (σ (59 - p) 7) ≤ x3 then (match g133 x1 x2 σ with | some (Sum.inl v2, s3) => some (Sum.inr ((Sum.inl 0, s3))) | some (Sum.inr v2, s3) => none | none => none) else (bif xn x3 40 then (if (σ ((59 - p) + 2) (Int32.toNatClampNeg x3)) = x1 then (if (σ 47 (Int32.toNatClampNeg x3)) = 0 then g134_64 p x1 x2 x3 σ else (if (σ 47 (Int32.toNatClampNeg x3)) = 1 then Option.map Sum.inr (g134_54 p x1 σ) else (if x2 = (-1) then g134_64 p x1 x3 x3 σ else Option.map Sum.inr (g134_54 p x1 σ)))) else g134_64 p x1 x2 x3 σ) else none))
def g134_6 (p : Nat) (x1 : Int32) (x2 : Int32) (x3 : Int32) (σ : xS) : Option xQ := xlo (fun a : Int32 × Int32 × Int32 × xS => g134_6b p a.1 a.2.1 a.2.2.1 a.2.2.2) 1000 (x1, x2, x3, σ)
def g134 (p : Nat) (a1 : Int32) (σ : xS) : xO := g134_6 p a1 (-1) (a1 + 1) σ
def a134_6 (l : Launch) (Ω : xo_O) (d p : Nat) (τ : Nat → Nat → Int64) (r : xv_R) : Int32 × Int32 × Int32 × xS → Prop := fun a => xv l Ω (d + 1) 0 0 134 6 [some (.ref 34), some (.int a.1), some (.int a.2.1), some (.int a.2.2.1)] [] (hM p a.2.2.2 τ) r
theorem g134_64_ok_23 {l : Launch} {Ω : xo_O} (htr : xH l) (d : Nat) (τ : Nat → Nat → Int64) (x1 : Int32) (x2 : Int32) (x3 : Int32) (σ : xS) (r : xv_R) (H : xo (xd (a134_6 l Ω d 23 τ r) (xB true 23 τ r)) (g134_64 23 x1 x2 x3 σ)) : xv l Ω (d + 1) 0 0 134 64 [some (.ref 34), some (.int x1), some (.int x2), some (.int x3)] [] (hM 23 σ τ) r := by
  unfold g134_64 at H
  refine xp_ok htr 2 (d + 1) 0 0 [] 134 64 [some (.ref 34), some (.int x1), some (.int x2), some (.int x3)] [] (hM 23 σ τ) ?_
  show xv l Ω (d + 1) 0 0 134 6 [some (.ref 34), some (.int x1), some (.int x2), some (.int (x3 + 1))] [] (hM 23 σ τ) r
  exact xv_sub (L' := [some (.ref 34), some (.int x1), some (.int x2), some (.int (x3 + 1))]) ⟨rfl, ⟨rfl, ⟨rfl, ⟨rfl, trivial⟩⟩⟩⟩ H
theorem g134_54_ok_23 {l : Launch} {Ω : xo_O} (htr : xH l) (d : Nat) (τ : Nat → Nat → Int64) (x1 : Int32) (σ : xS) (r : xv_R) (H : xo (xB true 23 τ r) (g134_54 23 x1 σ)) : xv l Ω (d + 1) 0 0 134 54 [some (.ref 34), some (.int x1), none, none] [] (hM 23 σ τ) r := by
  unfold g134_54 at H
  cases g9 : xn x1 40 with
  | false => rw [g9, cond_false] at H; exact False.elim H
  | true =>
    rw [g9, cond_true] at H
    exact xp_ok htr 6 (d + 1) 0 0 [] 134 54 [some (.ref 34), some (.int x1), none, none] [] (hM 23 σ τ) ⟨(xn_in g9), trivial, (Eq.symm H)⟩
theorem g134_6b_ok_23 {l : Launch} {Ω : xo_O} (htr : xH l) (d : Nat) (τ : Nat → Nat → Int64) (x1 : Int32) (x2 : Int32) (x3 : Int32) (σ : xS) (r : xv_R) (H : xo (xd (a134_6 l Ω d 23 τ r) (xB true 23 τ r)) (g134_6b 23 x1 x2 x3 σ)) : xv l Ω (d + 1) 0 0 134 6 [some (.ref 34), some (.int x1), some (.int x2), some (.int x3)] [] (hM 23 σ τ) r := by
  unfold g134_6b at H
  by_cases h1 : (σ (59 - 23) 7) ≤ x3
  · rw [if_pos h1] at H
    refine xp_ok htr 5 (d + 1) 0 0 [eB true] 134 6 [some (.ref 34), some (.int x1), some (.int x2), some (.int x3)] [] (hM 23 σ τ) ⟨h1, ?_⟩
    show xv l Ω (d + 1) 0 0 134 70 [some (.ref 34), some (.int x1), some (.int x2), some (.int x3)] [] (hM 23 σ τ) r
    cases q4 : g133 x1 x2 σ with
    | none => rw [q4] at H; exact False.elim H
    | some q40 =>
      obtain ⟨v2 | v2, s3⟩ := q40
      · rw [q4] at H; dsimp only at H
        have hc := g133_run (Ω := Ω) htr d 23 τ x1 x2 σ q4
        refine xp_ok htr 4 (d + 1) 0 0 [eC none (hM 23 s3 τ)] 134 70 [some (.ref 34), some (.int x1), some (.int x2), some (.int x3)] [] (hM 23 σ τ) ⟨hc, ?_⟩
        show xv l Ω (d + 1) 0 0 134 76 [some (.ref 34), some (.int x1), some (.int x2), some (.int x3)] [] (hM 23 s3 τ) r
        exact xp_ok htr 1 (d + 1) 0 0 [] 134 76 [some (.ref 34), some (.int x1), some (.int x2), some (.int x3)] [] (hM 23 s3 τ) ⟨trivial, (Eq.symm H)⟩
      · rw [q4] at H; exact False.elim H
  · rw [if_neg h1] at H
    refine xp_ok htr 5 (d + 1) 0 0 [eB false] 134 6 [some (.ref 34), some (.int x1), some (.int x2), some (.int x3)] [] (hM 23 σ τ) ⟨h1, ?_⟩
    show xv l Ω (d + 1) 0 0 134 17 [some (.ref 34), some (.int x1), some (.int x2), some (.int x3)] [] (hM 23 σ τ) r
    cases g5 : xn x3 40 with
    | false => rw [g5, cond_false] at H; exact False.elim H
    | true =>
      rw [g5, cond_true] at H
      by_cases h6 : (σ ((59 - 23) + 2) (Int32.toNatClampNeg x3)) = x1
      · rw [if_pos h6] at H
        refine xp_ok htr 7 (d + 1) 0 0 [eB false] 134 17 [some (.ref 34), some (.int x1), some (.int x2), some (.int x3)] [] (hM 23 σ τ) ⟨(xn_in g5), h6, ?_⟩
        show xv l Ω (d + 1) 0 0 134 30 [some (.ref 34), some (.int x1), some (.int x2), some (.int x3)] [] (hM 23 σ τ) r
        by_cases h7 : (σ 47 (Int32.toNatClampNeg x3)) = 0
        · rw [if_pos h7] at H
          refine xp_ok htr 5 (d + 1) 0 0 [eB true] 134 30 [some (.ref 34), some (.int x1), some (.int x2), some (.int x3)] [] (hM 23 σ τ) ⟨(xn_in g5), h7, ?_⟩
          show xv l Ω (d + 1) 0 0 134 64 [some (.ref 34), some (.int x1), some (.int x2), some (.int x3)] [] (hM 23 σ τ) r
          exact xv_sub (L' := [some (.ref 34), some (.int x1), some (.int x2), some (.int x3)]) ⟨rfl, ⟨rfl, ⟨rfl, ⟨rfl, trivial⟩⟩⟩⟩ (g134_64_ok_23 htr d  τ x1 x2 x3 σ r H)
        · rw [if_neg h7] at H
          refine xp_ok htr 5 (d + 1) 0 0 [eB false] 134 30 [some (.ref 34), some (.int x1), some (.int x2), some (.int x3)] [] (hM 23 σ τ) ⟨(xn_in g5), h7, ?_⟩
          show xv l Ω (d + 1) 0 0 134 39 [some (.ref 34), some (.int x1), some (.int x2), some (.int x3)] [] (hM 23 σ τ) r
          by_cases h8 : (σ 47 (Int32.toNatClampNeg x3)) = 1
          · rw [if_pos h8] at H
            refine xp_ok htr 6 (d + 1) 0 0 [eB true] 134 39 [some (.ref 34), some (.int x1), some (.int x2), some (.int x3)] [] (hM 23 σ τ) ⟨(xn_in g5), h8, ?_⟩
            show xv l Ω (d + 1) 0 0 134 54 [some (.ref 34), some (.int x1), some (.int x2), some (.int x3)] [] (hM 23 σ τ) r
            exact xv_sub (L' := [some (.ref 34), some (.int x1), none, none]) ⟨rfl, ⟨rfl, trivial⟩⟩ (g134_54_ok_23 htr d  τ x1 σ r (xo_map H))
          · rw [if_neg h8] at H
            refine xp_ok htr 6 (d + 1) 0 0 [eB false] 134 39 [some (.ref 34), some (.int x1), some (.int x2), some (.int x3)] [] (hM 23 σ τ) ⟨(xn_in g5), h8, ?_⟩
            show xv l Ω (d + 1) 0 0 134 49 [some (.ref 34), some (.int x1), some (.int x2), some (.int x3)] [] (hM 23 σ τ) r
            by_cases h10 : x2 = (-1)
            · rw [if_pos h10] at H
              refine xp_ok htr 3 (d + 1) 0 0 [eB true] 134 49 [some (.ref 34), some (.int x1), some (.int x2), some (.int x3)] [] (hM 23 σ τ) ⟨h10, ?_⟩
              show xv l Ω (d + 1) 0 0 134 62 [some (.ref 34), some (.int x1), some (.int x2), some (.int x3)] [] (hM 23 σ τ) r
              refine xp_ok htr 2 (d + 1) 0 0 [] 134 62 [some (.ref 34), some (.int x1), some (.int x2), some (.int x3)] [] (hM 23 σ τ) ?_
              show xv l Ω (d + 1) 0 0 134 64 [some (.ref 34), some (.int x1), some (.int x3), some (.int x3)] [] (hM 23 σ τ) r
              exact xv_sub (L' := [some (.ref 34), some (.int x1), some (.int x3), some (.int x3)]) ⟨rfl, ⟨rfl, ⟨rfl, ⟨rfl, trivial⟩⟩⟩⟩ (g134_64_ok_23 htr d  τ x1 x3 x3 σ r H)
            · rw [if_neg h10] at H
              refine xp_ok htr 3 (d + 1) 0 0 [eB false] 134 49 [some (.ref 34), some (.int x1), some (.int x2), some (.int x3)] [] (hM 23 σ τ) ⟨h10, ?_⟩
              show xv l Ω (d + 1) 0 0 134 54 [some (.ref 34), some (.int x1), some (.int x2), some (.int x3)] [] (hM 23 σ τ) r
              exact xv_sub (L' := [some (.ref 34), some (.int x1), none, none]) ⟨rfl, ⟨rfl, trivial⟩⟩ (g134_54_ok_23 htr d  τ x1 σ r (xo_map H))
      · rw [if_neg h6] at H
        refine xp_ok htr 7 (d + 1) 0 0 [eB true] 134 17 [some (.ref 34), some (.int x1), some (.int x2), some (.int x3)] [] (hM 23 σ τ) ⟨(xn_in g5), h6, ?_⟩
        show xv l Ω (d + 1) 0 0 134 64 [some (.ref 34), some (.int x1), some (.int x2), some (.int x3)] [] (hM 23 σ τ) r
        exact xv_sub (L' := [some (.ref 34), some (.int x1), some (.int x2), some (.int x3)]) ⟨rfl, ⟨rfl, ⟨rfl, ⟨rfl, trivial⟩⟩⟩⟩ (g134_64_ok_23 htr d  τ x1 x2 x3 σ r H)
theorem g134_6_ok_23 {l : Launch} {Ω : xo_O} (htr : xH l) (d : Nat) (τ : Nat → Nat → Int64) (x1 : Int32) (x2 : Int32) (x3 : Int32) (σ : xS) (r : xv_R) (H : xo (xB true 23 τ r) (g134_6 23 x1 x2 x3 σ)) : xv l Ω (d + 1) 0 0 134 6 [some (.ref 34), some (.int x1), some (.int x2), some (.int x3)] [] (hM 23 σ τ) r :=
  xlo_ok (A := a134_6 l Ω d 23 τ r) (fun a H => g134_6b_ok_23 htr d  τ a.1 a.2.1 a.2.2.1 a.2.2.2 r H) 1000 (x1, x2, x3, σ) H
theorem g134_run_23 {l : Launch} {Ω : xo_O} (htr : xH l) (d : Nat) (τ : Nat → Nat → Int64) (a1 : Int32) (σ : xS) {q : xQ} (hq : g134 23 a1 σ = some q) : xv l Ω (d + 1) 0 0 134 0 (xs_loc (xm_l 134) [.ref 34, .int a1]) [] (hM 23 σ τ) (xq_R true 23 τ q) := by
  have H : xo (xB true 23 τ (xq_R true 23 τ q)) (g134 23 a1 σ) := by rw [hq]; exact rfl
  generalize xq_R true 23 τ q = r at H ⊢
  show xv l Ω (d + 1) 0 0 134 0 [some (.ref 34), some (.int a1), none, none] [] (hM 23 σ τ) r
  unfold g134 at H
  refine xp_ok htr 6 (d + 1) 0 0 [] 134 0 [some (.ref 34), some (.int a1), none, none] [] (hM 23 σ τ) ?_
  show xv l Ω (d + 1) 0 0 134 6 [some (.ref 34), some (.int a1), some (.int (-1)), some (.int (a1 + 1))] [] (hM 23 σ τ) r
  exact xv_sub (L' := [some (.ref 34), some (.int a1), some (.int (-1)), some (.int (a1 + 1))]) ⟨rfl, ⟨rfl, ⟨rfl, ⟨rfl, trivial⟩⟩⟩⟩ (g134_6_ok_23 htr d  τ a1 (-1) (a1 + 1) σ r H)
theorem g134_64_ok_36 {l : Launch} {Ω : xo_O} (htr : xH l) (d : Nat) (τ : Nat → Nat → Int64) (x1 : Int32) (x2 : Int32) (x3 : Int32) (σ : xS) (r : xv_R) (H : xo (xd (a134_6 l Ω d 36 τ r) (xB true 36 τ r)) (g134_64 36 x1 x2 x3 σ)) : xv l Ω (d + 1) 0 0 134 64 [some (.ref 34), some (.int x1), some (.int x2), some (.int x3)] [] (hM 36 σ τ) r := by
  unfold g134_64 at H
  refine xp_ok htr 2 (d + 1) 0 0 [] 134 64 [some (.ref 34), some (.int x1), some (.int x2), some (.int x3)] [] (hM 36 σ τ) ?_
  show xv l Ω (d + 1) 0 0 134 6 [some (.ref 34), some (.int x1), some (.int x2), some (.int (x3 + 1))] [] (hM 36 σ τ) r
  exact xv_sub (L' := [some (.ref 34), some (.int x1), some (.int x2), some (.int (x3 + 1))]) ⟨rfl, ⟨rfl, ⟨rfl, ⟨rfl, trivial⟩⟩⟩⟩ H
theorem g134_54_ok_36 {l : Launch} {Ω : xo_O} (htr : xH l) (d : Nat) (τ : Nat → Nat → Int64) (x1 : Int32) (σ : xS) (r : xv_R) (H : xo (xB true 36 τ r) (g134_54 36 x1 σ)) : xv l Ω (d + 1) 0 0 134 54 [some (.ref 34), some (.int x1), none, none] [] (hM 36 σ τ) r := by
  unfold g134_54 at H
  cases g9 : xn x1 40 with
  | false => rw [g9, cond_false] at H; exact False.elim H
  | true =>
    rw [g9, cond_true] at H
    exact xp_ok htr 6 (d + 1) 0 0 [] 134 54 [some (.ref 34), some (.int x1), none, none] [] (hM 36 σ τ) ⟨(xn_in g9), trivial, (Eq.symm H)⟩
theorem g134_6b_ok_36 {l : Launch} {Ω : xo_O} (htr : xH l) (d : Nat) (τ : Nat → Nat → Int64) (x1 : Int32) (x2 : Int32) (x3 : Int32) (σ : xS) (r : xv_R) (H : xo (xd (a134_6 l Ω d 36 τ r) (xB true 36 τ r)) (g134_6b 36 x1 x2 x3 σ)) : xv l Ω (d + 1) 0 0 134 6 [some (.ref 34), some (.int x1), some (.int x2), some (.int x3)] [] (hM 36 σ τ) r := by
  unfold g134_6b at H
  by_cases h1 : (σ (59 - 36) 7) ≤ x3
  · rw [if_pos h1] at H
    refine xp_ok htr 5 (d + 1) 0 0 [eB true] 134 6 [some (.ref 34), some (.int x1), some (.int x2), some (.int x3)] [] (hM 36 σ τ) ⟨h1, ?_⟩
    show xv l Ω (d + 1) 0 0 134 70 [some (.ref 34), some (.int x1), some (.int x2), some (.int x3)] [] (hM 36 σ τ) r
    cases q4 : g133 x1 x2 σ with
    | none => rw [q4] at H; exact False.elim H
    | some q40 =>
      obtain ⟨v2 | v2, s3⟩ := q40
      · rw [q4] at H; dsimp only at H
        have hc := g133_run (Ω := Ω) htr d 36 τ x1 x2 σ q4
        refine xp_ok htr 4 (d + 1) 0 0 [eC none (hM 36 s3 τ)] 134 70 [some (.ref 34), some (.int x1), some (.int x2), some (.int x3)] [] (hM 36 σ τ) ⟨hc, ?_⟩
        show xv l Ω (d + 1) 0 0 134 76 [some (.ref 34), some (.int x1), some (.int x2), some (.int x3)] [] (hM 36 s3 τ) r
        exact xp_ok htr 1 (d + 1) 0 0 [] 134 76 [some (.ref 34), some (.int x1), some (.int x2), some (.int x3)] [] (hM 36 s3 τ) ⟨trivial, (Eq.symm H)⟩
      · rw [q4] at H; exact False.elim H
  · rw [if_neg h1] at H
    refine xp_ok htr 5 (d + 1) 0 0 [eB false] 134 6 [some (.ref 34), some (.int x1), some (.int x2), some (.int x3)] [] (hM 36 σ τ) ⟨h1, ?_⟩
    show xv l Ω (d + 1) 0 0 134 17 [some (.ref 34), some (.int x1), some (.int x2), some (.int x3)] [] (hM 36 σ τ) r
    cases g5 : xn x3 40 with
    | false => rw [g5, cond_false] at H; exact False.elim H
    | true =>
      rw [g5, cond_true] at H
      by_cases h6 : (σ ((59 - 36) + 2) (Int32.toNatClampNeg x3)) = x1
      · rw [if_pos h6] at H
        refine xp_ok htr 7 (d + 1) 0 0 [eB false] 134 17 [some (.ref 34), some (.int x1), some (.int x2), some (.int x3)] [] (hM 36 σ τ) ⟨(xn_in g5), h6, ?_⟩
        show xv l Ω (d + 1) 0 0 134 30 [some (.ref 34), some (.int x1), some (.int x2), some (.int x3)] [] (hM 36 σ τ) r
        by_cases h7 : (σ 47 (Int32.toNatClampNeg x3)) = 0
        · rw [if_pos h7] at H
          refine xp_ok htr 5 (d + 1) 0 0 [eB true] 134 30 [some (.ref 34), some (.int x1), some (.int x2), some (.int x3)] [] (hM 36 σ τ) ⟨(xn_in g5), h7, ?_⟩
          show xv l Ω (d + 1) 0 0 134 64 [some (.ref 34), some (.int x1), some (.int x2), some (.int x3)] [] (hM 36 σ τ) r
          exact xv_sub (L' := [some (.ref 34), some (.int x1), some (.int x2), some (.int x3)]) ⟨rfl, ⟨rfl, ⟨rfl, ⟨rfl, trivial⟩⟩⟩⟩ (g134_64_ok_36 htr d  τ x1 x2 x3 σ r H)
        · rw [if_neg h7] at H
          refine xp_ok htr 5 (d + 1) 0 0 [eB false] 134 30 [some (.ref 34), some (.int x1), some (.int x2), some (.int x3)] [] (hM 36 σ τ) ⟨(xn_in g5), h7, ?_⟩
          show xv l Ω (d + 1) 0 0 134 39 [some (.ref 34), some (.int x1), some (.int x2), some (.int x3)] [] (hM 36 σ τ) r
          by_cases h8 : (σ 47 (Int32.toNatClampNeg x3)) = 1
          · rw [if_pos h8] at H
            refine xp_ok htr 6 (d + 1) 0 0 [eB true] 134 39 [some (.ref 34), some (.int x1), some (.int x2), some (.int x3)] [] (hM 36 σ τ) ⟨(xn_in g5), h8, ?_⟩
            show xv l Ω (d + 1) 0 0 134 54 [some (.ref 34), some (.int x1), some (.int x2), some (.int x3)] [] (hM 36 σ τ) r
            exact xv_sub (L' := [some (.ref 34), some (.int x1), none, none]) ⟨rfl, ⟨rfl, trivial⟩⟩ (g134_54_ok_36 htr d  τ x1 σ r (xo_map H))
          · rw [if_neg h8] at H
            refine xp_ok htr 6 (d + 1) 0 0 [eB false] 134 39 [some (.ref 34), some (.int x1), some (.int x2), some (.int x3)] [] (hM 36 σ τ) ⟨(xn_in g5), h8, ?_⟩
            show xv l Ω (d + 1) 0 0 134 49 [some (.ref 34), some (.int x1), some (.int x2), some (.int x3)] [] (hM 36 σ τ) r
            by_cases h10 : x2 = (-1)
            · rw [if_pos h10] at H
              refine xp_ok htr 3 (d + 1) 0 0 [eB true] 134 49 [some (.ref 34), some (.int x1), some (.int x2), some (.int x3)] [] (hM 36 σ τ) ⟨h10, ?_⟩
              show xv l Ω (d + 1) 0 0 134 62 [some (.ref 34), some (.int x1), some (.int x2), some (.int x3)] [] (hM 36 σ τ) r
              refine xp_ok htr 2 (d + 1) 0 0 [] 134 62 [some (.ref 34), some (.int x1), some (.int x2), some (.int x3)] [] (hM 36 σ τ) ?_
              show xv l Ω (d + 1) 0 0 134 64 [some (.ref 34), some (.int x1), some (.int x3), some (.int x3)] [] (hM 36 σ τ) r
              exact xv_sub (L' := [some (.ref 34), some (.int x1), some (.int x3), some (.int x3)]) ⟨rfl, ⟨rfl, ⟨rfl, ⟨rfl, trivial⟩⟩⟩⟩ (g134_64_ok_36 htr d  τ x1 x3 x3 σ r H)
            · rw [if_neg h10] at H
              refine xp_ok htr 3 (d + 1) 0 0 [eB false] 134 49 [some (.ref 34), some (.int x1), some (.int x2), some (.int x3)] [] (hM 36 σ τ) ⟨h10, ?_⟩
              show xv l Ω (d + 1) 0 0 134 54 [some (.ref 34), some (.int x1), some (.int x2), some (.int x3)] [] (hM 36 σ τ) r
              exact xv_sub (L' := [some (.ref 34), some (.int x1), none, none]) ⟨rfl, ⟨rfl, trivial⟩⟩ (g134_54_ok_36 htr d  τ x1 σ r (xo_map H))
      · rw [if_neg h6] at H
        refine xp_ok htr 7 (d + 1) 0 0 [eB true] 134 17 [some (.ref 34), some (.int x1), some (.int x2), some (.int x3)] [] (hM 36 σ τ) ⟨(xn_in g5), h6, ?_⟩
        show xv l Ω (d + 1) 0 0 134 64 [some (.ref 34), some (.int x1), some (.int x2), some (.int x3)] [] (hM 36 σ τ) r
        exact xv_sub (L' := [some (.ref 34), some (.int x1), some (.int x2), some (.int x3)]) ⟨rfl, ⟨rfl, ⟨rfl, ⟨rfl, trivial⟩⟩⟩⟩ (g134_64_ok_36 htr d  τ x1 x2 x3 σ r H)
theorem g134_6_ok_36 {l : Launch} {Ω : xo_O} (htr : xH l) (d : Nat) (τ : Nat → Nat → Int64) (x1 : Int32) (x2 : Int32) (x3 : Int32) (σ : xS) (r : xv_R) (H : xo (xB true 36 τ r) (g134_6 36 x1 x2 x3 σ)) : xv l Ω (d + 1) 0 0 134 6 [some (.ref 34), some (.int x1), some (.int x2), some (.int x3)] [] (hM 36 σ τ) r :=
  xlo_ok (A := a134_6 l Ω d 36 τ r) (fun a H => g134_6b_ok_36 htr d  τ a.1 a.2.1 a.2.2.1 a.2.2.2 r H) 1000 (x1, x2, x3, σ) H
theorem g134_run_36 {l : Launch} {Ω : xo_O} (htr : xH l) (d : Nat) (τ : Nat → Nat → Int64) (a1 : Int32) (σ : xS) {q : xQ} (hq : g134 36 a1 σ = some q) : xv l Ω (d + 1) 0 0 134 0 (xs_loc (xm_l 134) [.ref 34, .int a1]) [] (hM 36 σ τ) (xq_R true 36 τ q) := by
  have H : xo (xB true 36 τ (xq_R true 36 τ q)) (g134 36 a1 σ) := by rw [hq]; exact rfl
  generalize xq_R true 36 τ q = r at H ⊢
  show xv l Ω (d + 1) 0 0 134 0 [some (.ref 34), some (.int a1), none, none] [] (hM 36 σ τ) r
  unfold g134 at H
  refine xp_ok htr 6 (d + 1) 0 0 [] 134 0 [some (.ref 34), some (.int a1), none, none] [] (hM 36 σ τ) ?_
  show xv l Ω (d + 1) 0 0 134 6 [some (.ref 34), some (.int a1), some (.int (-1)), some (.int (a1 + 1))] [] (hM 36 σ τ) r
  exact xv_sub (L' := [some (.ref 34), some (.int a1), some (.int (-1)), some (.int (a1 + 1))]) ⟨rfl, ⟨rfl, ⟨rfl, ⟨rfl, trivial⟩⟩⟩⟩ (g134_6_ok_36 htr d  τ a1 (-1) (a1 + 1) σ r H)
/- AccessDesk$Judge.combine -/
def g128_115 (p : Nat) (k1 : Int32) (k2 : Int32) (σ : xS) : Option xQ := (match g131 p k1 k2 σ with | some (Sum.inl v34, s35) => some ((Sum.inl 0, s35)) | some (Sum.inr v34, s35) => none | none => none)
def g128_140 (p : Nat) (k1 : Int32) (k2 : Int32) (σ : xS) : Option xQ := (match g131 p k1 k2 σ with | some (Sum.inl v44, s45) => some ((Sum.inl 0, s45)) | some (Sum.inr v44, s45) => none | none => none)
def g128 (p : Nat) (a1 : Int32) (σ : xS) : xO := (bif xn a1 40 then (if (σ ((59 - p) + 1) (Int32.toNatClampNeg a1)) = 68 then (match g129 p a1 σ with | some (Sum.inl v3, s4) => (match g130 2 1 v3 s4 with | some (Sum.inl v6, s7) => (match g131 p a1 v6 s7 with | some (Sum.inl v9, s10) => some ((Sum.inl 0, s10)) | some (Sum.inr v9, s10) => none | none => none) | some (Sum.inr v6, s7) => none | none => none) | some (Sum.inr v3, s4) => none | none => none) else (if (σ ((59 - p) + 1) (Int32.toNatClampNeg a1)) = 70 then (match g132 p a1 σ with | some (Sum.inl v12, s13) => (match g133 a1 v12 s13 with | some (Sum.inl v15, s16) => some ((Sum.inl 0, s16)) | some (Sum.inr v15, s16) => none | none => none) | some (Sum.inr v12, s13) => none | none => none) else (if (σ ((59 - p) + 1) (Int32.toNatClampNeg a1)) = 80 then (match g129 p a1 σ with | some (Sum.inl v18, s19) => (match g130 1 2 v18 s19 with | some (Sum.inl v21, s22) => (match g131 p a1 v21 s22 with | some (Sum.inl v24, s25) => some ((Sum.inl 0, s25)) | some (Sum.inr v24, s25) => none | none => none) | some (Sum.inr v21, s22) => none | none => none) | some (Sum.inr v18, s19) => none | none => none) else (if (σ ((59 - p) + 1) (Int32.toNatClampNeg a1)) = 88 then (match g129 p a1 σ with | some (Sum.inl v27, s28) => (match g28 v27 1 s28 with | some (Sum.inl v30, s31) => (if v30 = 0 then g128_115 p a1 2 s31 else g128_115 p a1 1 s31) | some (Sum.inr v30, s31) => none | none => none) | some (Sum.inr v27, s28) => none | none => none) else (if (σ ((59 - p) + 1) (Int32.toNatClampNeg a1)) = 89 then (match g129 p a1 σ with | some (Sum.inl v37, s38) => (match g28 v37 2 s38 with | some (Sum.inl v40, s41) => (if v40 = 0 then g128_140 p a1 1 s41 else g128_140 p a1 2 s41) | some (Sum.inr v40, s41) => none | none => none) | some (Sum.inr v37, s38) => none | none => none) else (match g134 p a1 σ with | some (Sum.inl v47, s48) => some ((Sum.inl 0, s48)) | some (Sum.inr v47, s48) => none | none => none)))))) else none)
theorem g128_115_ok_23 {l : Launch} {Ω : xo_O} (htr : xH l) (d : Nat) (τ : Nat → Nat → Int64) (k1 : Int32) (k2 : Int32) (σ : xS) (r : xv_R) (H : xo (xB true 23 τ r) (g128_115 23 k1 k2 σ)) : xv l Ω (d + 2) 0 0 128 115 [none, none] [.int k2, .int k1, .ref 34] (hM 23 σ τ) r := by
  unfold g128_115 at H
  cases q36 : g131 23 k1 k2 σ with
  | none => rw [q36] at H; exact False.elim H
  | some q360 =>
    obtain ⟨v34 | v34, s35⟩ := q360
    · rw [q36] at H; dsimp only at H
      have hc := g131_run_23 (Ω := Ω) htr (d + 1)  τ k1 k2 σ q36
      refine xp_ok htr 1 (d + 2) 0 0 [eC none (hM 23 s35 τ)] 128 115 [none, none] [.int k2, .int k1, .ref 34] (hM 23 σ τ) ⟨hc, ?_⟩
      show xv l Ω (d + 2) 0 0 128 118 [none, none] [] (hM 23 s35 τ) r
      exact xp_ok htr 2 (d + 2) 0 0 [] 128 118 [none, none] [] (hM 23 s35 τ) ⟨trivial, (Eq.symm H)⟩
    · rw [q36] at H; exact False.elim H
theorem g128_140_ok_23 {l : Launch} {Ω : xo_O} (htr : xH l) (d : Nat) (τ : Nat → Nat → Int64) (k1 : Int32) (k2 : Int32) (σ : xS) (r : xv_R) (H : xo (xB true 23 τ r) (g128_140 23 k1 k2 σ)) : xv l Ω (d + 2) 0 0 128 140 [none, none] [.int k2, .int k1, .ref 34] (hM 23 σ τ) r := by
  unfold g128_140 at H
  cases q46 : g131 23 k1 k2 σ with
  | none => rw [q46] at H; exact False.elim H
  | some q460 =>
    obtain ⟨v44 | v44, s45⟩ := q460
    · rw [q46] at H; dsimp only at H
      have hc := g131_run_23 (Ω := Ω) htr (d + 1)  τ k1 k2 σ q46
      refine xp_ok htr 1 (d + 2) 0 0 [eC none (hM 23 s45 τ)] 128 140 [none, none] [.int k2, .int k1, .ref 34] (hM 23 σ τ) ⟨hc, ?_⟩
      show xv l Ω (d + 2) 0 0 128 143 [none, none] [] (hM 23 s45 τ) r
      exact xp_ok htr 2 (d + 2) 0 0 [] 128 143 [none, none] [] (hM 23 s45 τ) ⟨trivial, (Eq.symm H)⟩
    · rw [q46] at H; exact False.elim H
theorem g128_run_23 {l : Launch} {Ω : xo_O} (htr : xH l) (d : Nat) (τ : Nat → Nat → Int64) (a1 : Int32) (σ : xS) {q : xQ} (hq : g128 23 a1 σ = some q) : xv l Ω (d + 2) 0 0 128 0 (xs_loc (xm_l 128) [.ref 34, .int a1]) [] (hM 23 σ τ) (xq_R true 23 τ q) := by
  have H : xo (xB true 23 τ (xq_R true 23 τ q)) (g128 23 a1 σ) := by rw [hq]; exact rfl
  generalize xq_R true 23 τ q = r at H ⊢
  show xv l Ω (d + 2) 0 0 128 0 [some (.ref 34), some (.int a1)] [] (hM 23 σ τ) r
  unfold g128 at H
  cases g1 : xn a1 40 with
  | false => rw [g1, cond_false] at H; exact False.elim H
  | true =>
    rw [g1, cond_true] at H
    by_cases h2_0 : (σ ((59 - 23) + 1) (Int32.toNatClampNeg a1)) = 68
    · rw [if_pos h2_0] at H
      refine xp_ok htr 6 (d + 2) 0 0 [eS (some 68)] 128 0 [some (.ref 34), some (.int a1)] [] (hM 23 σ τ) ⟨(xn_in g1), h2_0, ?_⟩
      show xv l Ω (d + 2) 0 0 128 60 [some (.ref 34), some (.int a1)] [] (hM 23 σ τ) r
      cases q5 : g129 23 a1 σ with
      | none => rw [q5] at H; exact False.elim H
      | some q50 =>
        obtain ⟨v3 | v3, s4⟩ := q50
        · rw [q5] at H; dsimp only at H
          have hc := g129_run_23 (Ω := Ω) htr (d + 1)  τ a1 σ q5
          refine xp_ok htr 7 (d + 2) 0 0 [eC (some (.int v3)) (hM 23 s4 τ)] 128 60 [some (.ref 34), some (.int a1)] [] (hM 23 σ τ) ⟨hc, ?_⟩
          show xv l Ω (d + 2) 0 0 128 69 [some (.ref 34), some (.int a1)] [.int v3, .int 1, .int 2, .int a1, .ref 34] (hM 23 s4 τ) r
          cases q8 : g130 2 1 v3 s4 with
          | none => rw [q8] at H; exact False.elim H
          | some q80 =>
            obtain ⟨v6 | v6, s7⟩ := q80
            · rw [q8] at H; dsimp only at H
              have hc := g130_run (Ω := Ω) htr d 23 τ 2 1 v3 s4 q8
              refine xp_ok htr 1 (d + 2) 0 0 [eC (some (.int v6)) (hM 23 s7 τ)] 128 69 [some (.ref 34), some (.int a1)] [.int v3, .int 1, .int 2, .int a1, .ref 34] (hM 23 s4 τ) ⟨hc, ?_⟩
              show xv l Ω (d + 2) 0 0 128 72 [some (.ref 34), some (.int a1)] [.int v6, .int a1, .ref 34] (hM 23 s7 τ) r
              cases q11 : g131 23 a1 v6 s7 with
              | none => rw [q11] at H; exact False.elim H
              | some q110 =>
                obtain ⟨v9 | v9, s10⟩ := q110
                · rw [q11] at H; dsimp only at H
                  have hc := g131_run_23 (Ω := Ω) htr (d + 1)  τ a1 v6 s7 q11
                  refine xp_ok htr 1 (d + 2) 0 0 [eC none (hM 23 s10 τ)] 128 72 [some (.ref 34), some (.int a1)] [.int v6, .int a1, .ref 34] (hM 23 s7 τ) ⟨hc, ?_⟩
                  show xv l Ω (d + 2) 0 0 128 75 [some (.ref 34), some (.int a1)] [] (hM 23 s10 τ) r
                  exact xp_ok htr 2 (d + 2) 0 0 [] 128 75 [some (.ref 34), some (.int a1)] [] (hM 23 s10 τ) ⟨trivial, (Eq.symm H)⟩
                · rw [q11] at H; exact False.elim H
            · rw [q8] at H; exact False.elim H
        · rw [q5] at H; exact False.elim H
    rw [if_neg h2_0] at H
    by_cases h2_1 : (σ ((59 - 23) + 1) (Int32.toNatClampNeg a1)) = 70
    · rw [if_pos h2_1] at H
      refine xp_ok htr 6 (d + 2) 0 0 [eS (some 70)] 128 0 [some (.ref 34), some (.int a1)] [] (hM 23 σ τ) ⟨(xn_in g1), h2_1, ?_⟩
      show xv l Ω (d + 2) 0 0 128 146 [some (.ref 34), some (.int a1)] [] (hM 23 σ τ) r
      cases q14 : g132 23 a1 σ with
      | none => rw [q14] at H; exact False.elim H
      | some q140 =>
        obtain ⟨v12 | v12, s13⟩ := q140
        · rw [q14] at H; dsimp only at H
          have hc := g132_run_23 (Ω := Ω) htr (d + 1)  τ a1 σ q14
          refine xp_ok htr 5 (d + 2) 0 0 [eC (some (.int v12)) (hM 23 s13 τ)] 128 146 [some (.ref 34), some (.int a1)] [] (hM 23 σ τ) ⟨hc, ?_⟩
          show xv l Ω (d + 2) 0 0 128 153 [some (.ref 34), some (.int a1)] [.int v12, .int a1, .ref 34] (hM 23 s13 τ) r
          cases q17 : g133 a1 v12 s13 with
          | none => rw [q17] at H; exact False.elim H
          | some q170 =>
            obtain ⟨v15 | v15, s16⟩ := q170
            · rw [q17] at H; dsimp only at H
              have hc := g133_run (Ω := Ω) htr (d + 1) 23 τ a1 v12 s13 q17
              refine xp_ok htr 1 (d + 2) 0 0 [eC none (hM 23 s16 τ)] 128 153 [some (.ref 34), some (.int a1)] [.int v12, .int a1, .ref 34] (hM 23 s13 τ) ⟨hc, ?_⟩
              show xv l Ω (d + 2) 0 0 128 156 [some (.ref 34), some (.int a1)] [] (hM 23 s16 τ) r
              exact xp_ok htr 2 (d + 2) 0 0 [] 128 156 [some (.ref 34), some (.int a1)] [] (hM 23 s16 τ) ⟨trivial, (Eq.symm H)⟩
            · rw [q17] at H; exact False.elim H
        · rw [q14] at H; exact False.elim H
    rw [if_neg h2_1] at H
    by_cases h2_2 : (σ ((59 - 23) + 1) (Int32.toNatClampNeg a1)) = 80
    · rw [if_pos h2_2] at H
      refine xp_ok htr 6 (d + 2) 0 0 [eS (some 80)] 128 0 [some (.ref 34), some (.int a1)] [] (hM 23 σ τ) ⟨(xn_in g1), h2_2, ?_⟩
      show xv l Ω (d + 2) 0 0 128 78 [some (.ref 34), some (.int a1)] [] (hM 23 σ τ) r
      cases q20 : g129 23 a1 σ with
      | none => rw [q20] at H; exact False.elim H
      | some q200 =>
        obtain ⟨v18 | v18, s19⟩ := q200
        · rw [q20] at H; dsimp only at H
          have hc := g129_run_23 (Ω := Ω) htr (d + 1)  τ a1 σ q20
          refine xp_ok htr 7 (d + 2) 0 0 [eC (some (.int v18)) (hM 23 s19 τ)] 128 78 [some (.ref 34), some (.int a1)] [] (hM 23 σ τ) ⟨hc, ?_⟩
          show xv l Ω (d + 2) 0 0 128 87 [some (.ref 34), some (.int a1)] [.int v18, .int 2, .int 1, .int a1, .ref 34] (hM 23 s19 τ) r
          cases q23 : g130 1 2 v18 s19 with
          | none => rw [q23] at H; exact False.elim H
          | some q230 =>
            obtain ⟨v21 | v21, s22⟩ := q230
            · rw [q23] at H; dsimp only at H
              have hc := g130_run (Ω := Ω) htr d 23 τ 1 2 v18 s19 q23
              refine xp_ok htr 1 (d + 2) 0 0 [eC (some (.int v21)) (hM 23 s22 τ)] 128 87 [some (.ref 34), some (.int a1)] [.int v18, .int 2, .int 1, .int a1, .ref 34] (hM 23 s19 τ) ⟨hc, ?_⟩
              show xv l Ω (d + 2) 0 0 128 90 [some (.ref 34), some (.int a1)] [.int v21, .int a1, .ref 34] (hM 23 s22 τ) r
              cases q26 : g131 23 a1 v21 s22 with
              | none => rw [q26] at H; exact False.elim H
              | some q260 =>
                obtain ⟨v24 | v24, s25⟩ := q260
                · rw [q26] at H; dsimp only at H
                  have hc := g131_run_23 (Ω := Ω) htr (d + 1)  τ a1 v21 s22 q26
                  refine xp_ok htr 1 (d + 2) 0 0 [eC none (hM 23 s25 τ)] 128 90 [some (.ref 34), some (.int a1)] [.int v21, .int a1, .ref 34] (hM 23 s22 τ) ⟨hc, ?_⟩
                  show xv l Ω (d + 2) 0 0 128 93 [some (.ref 34), some (.int a1)] [] (hM 23 s25 τ) r
                  exact xp_ok htr 2 (d + 2) 0 0 [] 128 93 [some (.ref 34), some (.int a1)] [] (hM 23 s25 τ) ⟨trivial, (Eq.symm H)⟩
                · rw [q26] at H; exact False.elim H
            · rw [q23] at H; exact False.elim H
        · rw [q20] at H; exact False.elim H
    rw [if_neg h2_2] at H
    by_cases h2_3 : (σ ((59 - 23) + 1) (Int32.toNatClampNeg a1)) = 88
    · rw [if_pos h2_3] at H
      refine xp_ok htr 6 (d + 2) 0 0 [eS (some 88)] 128 0 [some (.ref 34), some (.int a1)] [] (hM 23 σ τ) ⟨(xn_in g1), h2_3, ?_⟩
      show xv l Ω (d + 2) 0 0 128 96 [some (.ref 34), some (.int a1)] [] (hM 23 σ τ) r
      cases q29 : g129 23 a1 σ with
      | none => rw [q29] at H; exact False.elim H
      | some q290 =>
        obtain ⟨v27 | v27, s28⟩ := q290
        · rw [q29] at H; dsimp only at H
          have hc := g129_run_23 (Ω := Ω) htr (d + 1)  τ a1 σ q29
          refine xp_ok htr 5 (d + 2) 0 0 [eC (some (.int v27)) (hM 23 s28 τ)] 128 96 [some (.ref 34), some (.int a1)] [] (hM 23 σ τ) ⟨hc, ?_⟩
          show xv l Ω (d + 2) 0 0 128 103 [some (.ref 34), some (.int a1)] [.int v27, .int a1, .ref 34] (hM 23 s28 τ) r
          cases q32 : g28 v27 1 s28 with
          | none => rw [q32] at H; exact False.elim H
          | some q320 =>
            obtain ⟨v30 | v30, s31⟩ := q320
            · rw [q32] at H; dsimp only at H
              have hc := g28_run (Ω := Ω) htr (d + 1) 23 τ v27 1 s28 q32
              refine xp_ok htr 2 (d + 2) 0 0 [eC (some (.int v30)) (hM 23 s31 τ)] 128 103 [some (.ref 34), some (.int a1)] [.int v27, .int a1, .ref 34] (hM 23 s28 τ) ⟨hc, ?_⟩
              show xv l Ω (d + 2) 0 0 128 107 [some (.ref 34), some (.int a1)] [.int v30, .int a1, .ref 34] (hM 23 s31 τ) r
              by_cases h33 : v30 = 0
              · rw [if_pos h33] at H
                refine xp_ok htr 1 (d + 2) 0 0 [eB true] 128 107 [some (.ref 34), some (.int a1)] [.int v30, .int a1, .ref 34] (hM 23 s31 τ) ⟨h33, ?_⟩
                show xv l Ω (d + 2) 0 0 128 114 [some (.ref 34), some (.int a1)] [.int a1, .ref 34] (hM 23 s31 τ) r
                refine xp_ok htr 1 (d + 2) 0 0 [] 128 114 [some (.ref 34), some (.int a1)] [.int a1, .ref 34] (hM 23 s31 τ) ?_
                show xv l Ω (d + 2) 0 0 128 115 [some (.ref 34), some (.int a1)] [.int 2, .int a1, .ref 34] (hM 23 s31 τ) r
                exact xv_sub (L' := [none, none]) trivial (g128_115_ok_23 htr d  τ a1 2 s31 r H)
              · rw [if_neg h33] at H
                refine xp_ok htr 1 (d + 2) 0 0 [eB false] 128 107 [some (.ref 34), some (.int a1)] [.int v30, .int a1, .ref 34] (hM 23 s31 τ) ⟨h33, ?_⟩
                show xv l Ω (d + 2) 0 0 128 110 [some (.ref 34), some (.int a1)] [.int a1, .ref 34] (hM 23 s31 τ) r
                refine xp_ok htr 2 (d + 2) 0 0 [] 128 110 [some (.ref 34), some (.int a1)] [.int a1, .ref 34] (hM 23 s31 τ) ?_
                show xv l Ω (d + 2) 0 0 128 115 [some (.ref 34), some (.int a1)] [.int 1, .int a1, .ref 34] (hM 23 s31 τ) r
                exact xv_sub (L' := [none, none]) trivial (g128_115_ok_23 htr d  τ a1 1 s31 r H)
            · rw [q32] at H; exact False.elim H
        · rw [q29] at H; exact False.elim H
    rw [if_neg h2_3] at H
    by_cases h2_4 : (σ ((59 - 23) + 1) (Int32.toNatClampNeg a1)) = 89
    · rw [if_pos h2_4] at H
      refine xp_ok htr 6 (d + 2) 0 0 [eS (some 89)] 128 0 [some (.ref 34), some (.int a1)] [] (hM 23 σ τ) ⟨(xn_in g1), h2_4, ?_⟩
      show xv l Ω (d + 2) 0 0 128 121 [some (.ref 34), some (.int a1)] [] (hM 23 σ τ) r
      cases q39 : g129 23 a1 σ with
      | none => rw [q39] at H; exact False.elim H
      | some q390 =>
        obtain ⟨v37 | v37, s38⟩ := q390
        · rw [q39] at H; dsimp only at H
          have hc := g129_run_23 (Ω := Ω) htr (d + 1)  τ a1 σ q39
          refine xp_ok htr 5 (d + 2) 0 0 [eC (some (.int v37)) (hM 23 s38 τ)] 128 121 [some (.ref 34), some (.int a1)] [] (hM 23 σ τ) ⟨hc, ?_⟩
          show xv l Ω (d + 2) 0 0 128 128 [some (.ref 34), some (.int a1)] [.int v37, .int a1, .ref 34] (hM 23 s38 τ) r
          cases q42 : g28 v37 2 s38 with
          | none => rw [q42] at H; exact False.elim H
          | some q420 =>
            obtain ⟨v40 | v40, s41⟩ := q420
            · rw [q42] at H; dsimp only at H
              have hc := g28_run (Ω := Ω) htr (d + 1) 23 τ v37 2 s38 q42
              refine xp_ok htr 2 (d + 2) 0 0 [eC (some (.int v40)) (hM 23 s41 τ)] 128 128 [some (.ref 34), some (.int a1)] [.int v37, .int a1, .ref 34] (hM 23 s38 τ) ⟨hc, ?_⟩
              show xv l Ω (d + 2) 0 0 128 132 [some (.ref 34), some (.int a1)] [.int v40, .int a1, .ref 34] (hM 23 s41 τ) r
              by_cases h43 : v40 = 0
              · rw [if_pos h43] at H
                refine xp_ok htr 1 (d + 2) 0 0 [eB true] 128 132 [some (.ref 34), some (.int a1)] [.int v40, .int a1, .ref 34] (hM 23 s41 τ) ⟨h43, ?_⟩
                show xv l Ω (d + 2) 0 0 128 139 [some (.ref 34), some (.int a1)] [.int a1, .ref 34] (hM 23 s41 τ) r
                refine xp_ok htr 1 (d + 2) 0 0 [] 128 139 [some (.ref 34), some (.int a1)] [.int a1, .ref 34] (hM 23 s41 τ) ?_
                show xv l Ω (d + 2) 0 0 128 140 [some (.ref 34), some (.int a1)] [.int 1, .int a1, .ref 34] (hM 23 s41 τ) r
                exact xv_sub (L' := [none, none]) trivial (g128_140_ok_23 htr d  τ a1 1 s41 r H)
              · rw [if_neg h43] at H
                refine xp_ok htr 1 (d + 2) 0 0 [eB false] 128 132 [some (.ref 34), some (.int a1)] [.int v40, .int a1, .ref 34] (hM 23 s41 τ) ⟨h43, ?_⟩
                show xv l Ω (d + 2) 0 0 128 135 [some (.ref 34), some (.int a1)] [.int a1, .ref 34] (hM 23 s41 τ) r
                refine xp_ok htr 2 (d + 2) 0 0 [] 128 135 [some (.ref 34), some (.int a1)] [.int a1, .ref 34] (hM 23 s41 τ) ?_
                show xv l Ω (d + 2) 0 0 128 140 [some (.ref 34), some (.int a1)] [.int 2, .int a1, .ref 34] (hM 23 s41 τ) r
                exact xv_sub (L' := [none, none]) trivial (g128_140_ok_23 htr d  τ a1 2 s41 r H)
            · rw [q42] at H; exact False.elim H
        · rw [q39] at H; exact False.elim H
    rw [if_neg h2_4] at H
    refine xp_ok htr 6 (d + 2) 0 0 [eS none] 128 0 [some (.ref 34), some (.int a1)] [] (hM 23 σ τ) ⟨(xn_in g1), ⟨h2_0, h2_1, h2_2, h2_3, h2_4, trivial⟩, ?_⟩
    show xv l Ω (d + 2) 0 0 128 159 [some (.ref 34), some (.int a1)] [] (hM 23 σ τ) r
    cases q49 : g134 23 a1 σ with
    | none => rw [q49] at H; exact False.elim H
    | some q490 =>
      obtain ⟨v47 | v47, s48⟩ := q490
      · rw [q49] at H; dsimp only at H
        have hc := g134_run_23 (Ω := Ω) htr d  τ a1 σ q49
        refine xp_ok htr 3 (d + 2) 0 0 [eC none (hM 23 s48 τ)] 128 159 [some (.ref 34), some (.int a1)] [] (hM 23 σ τ) ⟨hc, ?_⟩
        show xv l Ω (d + 2) 0 0 128 164 [some (.ref 34), some (.int a1)] [] (hM 23 s48 τ) r
        exact xp_ok htr 1 (d + 2) 0 0 [] 128 164 [some (.ref 34), some (.int a1)] [] (hM 23 s48 τ) ⟨trivial, (Eq.symm H)⟩
      · rw [q49] at H; exact False.elim H
theorem g128_115_ok_36 {l : Launch} {Ω : xo_O} (htr : xH l) (d : Nat) (τ : Nat → Nat → Int64) (k1 : Int32) (k2 : Int32) (σ : xS) (r : xv_R) (H : xo (xB true 36 τ r) (g128_115 36 k1 k2 σ)) : xv l Ω (d + 2) 0 0 128 115 [none, none] [.int k2, .int k1, .ref 34] (hM 36 σ τ) r := by
  unfold g128_115 at H
  cases q36 : g131 36 k1 k2 σ with
  | none => rw [q36] at H; exact False.elim H
  | some q360 =>
    obtain ⟨v34 | v34, s35⟩ := q360
    · rw [q36] at H; dsimp only at H
      have hc := g131_run_36 (Ω := Ω) htr (d + 1)  τ k1 k2 σ q36
      refine xp_ok htr 1 (d + 2) 0 0 [eC none (hM 36 s35 τ)] 128 115 [none, none] [.int k2, .int k1, .ref 34] (hM 36 σ τ) ⟨hc, ?_⟩
      show xv l Ω (d + 2) 0 0 128 118 [none, none] [] (hM 36 s35 τ) r
      exact xp_ok htr 2 (d + 2) 0 0 [] 128 118 [none, none] [] (hM 36 s35 τ) ⟨trivial, (Eq.symm H)⟩
    · rw [q36] at H; exact False.elim H
theorem g128_140_ok_36 {l : Launch} {Ω : xo_O} (htr : xH l) (d : Nat) (τ : Nat → Nat → Int64) (k1 : Int32) (k2 : Int32) (σ : xS) (r : xv_R) (H : xo (xB true 36 τ r) (g128_140 36 k1 k2 σ)) : xv l Ω (d + 2) 0 0 128 140 [none, none] [.int k2, .int k1, .ref 34] (hM 36 σ τ) r := by
  unfold g128_140 at H
  cases q46 : g131 36 k1 k2 σ with
  | none => rw [q46] at H; exact False.elim H
  | some q460 =>
    obtain ⟨v44 | v44, s45⟩ := q460
    · rw [q46] at H; dsimp only at H
      have hc := g131_run_36 (Ω := Ω) htr (d + 1)  τ k1 k2 σ q46
      refine xp_ok htr 1 (d + 2) 0 0 [eC none (hM 36 s45 τ)] 128 140 [none, none] [.int k2, .int k1, .ref 34] (hM 36 σ τ) ⟨hc, ?_⟩
      show xv l Ω (d + 2) 0 0 128 143 [none, none] [] (hM 36 s45 τ) r
      exact xp_ok htr 2 (d + 2) 0 0 [] 128 143 [none, none] [] (hM 36 s45 τ) ⟨trivial, (Eq.symm H)⟩
    · rw [q46] at H; exact False.elim H
theorem g128_run_36 {l : Launch} {Ω : xo_O} (htr : xH l) (d : Nat) (τ : Nat → Nat → Int64) (a1 : Int32) (σ : xS) {q : xQ} (hq : g128 36 a1 σ = some q) : xv l Ω (d + 2) 0 0 128 0 (xs_loc (xm_l 128) [.ref 34, .int a1]) [] (hM 36 σ τ) (xq_R true 36 τ q) := by
  have H : xo (xB true 36 τ (xq_R true 36 τ q)) (g128 36 a1 σ) := by rw [hq]; exact rfl
  generalize xq_R true 36 τ q = r at H ⊢
  show xv l Ω (d + 2) 0 0 128 0 [some (.ref 34), some (.int a1)] [] (hM 36 σ τ) r
  unfold g128 at H
  cases g1 : xn a1 40 with
  | false => rw [g1, cond_false] at H; exact False.elim H
  | true =>
    rw [g1, cond_true] at H
    by_cases h2_0 : (σ ((59 - 36) + 1) (Int32.toNatClampNeg a1)) = 68
    · rw [if_pos h2_0] at H
      refine xp_ok htr 6 (d + 2) 0 0 [eS (some 68)] 128 0 [some (.ref 34), some (.int a1)] [] (hM 36 σ τ) ⟨(xn_in g1), h2_0, ?_⟩
      show xv l Ω (d + 2) 0 0 128 60 [some (.ref 34), some (.int a1)] [] (hM 36 σ τ) r
      cases q5 : g129 36 a1 σ with
      | none => rw [q5] at H; exact False.elim H
      | some q50 =>
        obtain ⟨v3 | v3, s4⟩ := q50
        · rw [q5] at H; dsimp only at H
          have hc := g129_run_36 (Ω := Ω) htr (d + 1)  τ a1 σ q5
          refine xp_ok htr 7 (d + 2) 0 0 [eC (some (.int v3)) (hM 36 s4 τ)] 128 60 [some (.ref 34), some (.int a1)] [] (hM 36 σ τ) ⟨hc, ?_⟩
          show xv l Ω (d + 2) 0 0 128 69 [some (.ref 34), some (.int a1)] [.int v3, .int 1, .int 2, .int a1, .ref 34] (hM 36 s4 τ) r
          cases q8 : g130 2 1 v3 s4 with
          | none => rw [q8] at H; exact False.elim H
          | some q80 =>
            obtain ⟨v6 | v6, s7⟩ := q80
            · rw [q8] at H; dsimp only at H
              have hc := g130_run (Ω := Ω) htr d 36 τ 2 1 v3 s4 q8
              refine xp_ok htr 1 (d + 2) 0 0 [eC (some (.int v6)) (hM 36 s7 τ)] 128 69 [some (.ref 34), some (.int a1)] [.int v3, .int 1, .int 2, .int a1, .ref 34] (hM 36 s4 τ) ⟨hc, ?_⟩
              show xv l Ω (d + 2) 0 0 128 72 [some (.ref 34), some (.int a1)] [.int v6, .int a1, .ref 34] (hM 36 s7 τ) r
              cases q11 : g131 36 a1 v6 s7 with
              | none => rw [q11] at H; exact False.elim H
              | some q110 =>
                obtain ⟨v9 | v9, s10⟩ := q110
                · rw [q11] at H; dsimp only at H
                  have hc := g131_run_36 (Ω := Ω) htr (d + 1)  τ a1 v6 s7 q11
                  refine xp_ok htr 1 (d + 2) 0 0 [eC none (hM 36 s10 τ)] 128 72 [some (.ref 34), some (.int a1)] [.int v6, .int a1, .ref 34] (hM 36 s7 τ) ⟨hc, ?_⟩
                  show xv l Ω (d + 2) 0 0 128 75 [some (.ref 34), some (.int a1)] [] (hM 36 s10 τ) r
                  exact xp_ok htr 2 (d + 2) 0 0 [] 128 75 [some (.ref 34), some (.int a1)] [] (hM 36 s10 τ) ⟨trivial, (Eq.symm H)⟩
                · rw [q11] at H; exact False.elim H
            · rw [q8] at H; exact False.elim H
        · rw [q5] at H; exact False.elim H
    rw [if_neg h2_0] at H
    by_cases h2_1 : (σ ((59 - 36) + 1) (Int32.toNatClampNeg a1)) = 70
    · rw [if_pos h2_1] at H
      refine xp_ok htr 6 (d + 2) 0 0 [eS (some 70)] 128 0 [some (.ref 34), some (.int a1)] [] (hM 36 σ τ) ⟨(xn_in g1), h2_1, ?_⟩
      show xv l Ω (d + 2) 0 0 128 146 [some (.ref 34), some (.int a1)] [] (hM 36 σ τ) r
      cases q14 : g132 36 a1 σ with
      | none => rw [q14] at H; exact False.elim H
      | some q140 =>
        obtain ⟨v12 | v12, s13⟩ := q140
        · rw [q14] at H; dsimp only at H
          have hc := g132_run_36 (Ω := Ω) htr (d + 1)  τ a1 σ q14
          refine xp_ok htr 5 (d + 2) 0 0 [eC (some (.int v12)) (hM 36 s13 τ)] 128 146 [some (.ref 34), some (.int a1)] [] (hM 36 σ τ) ⟨hc, ?_⟩
          show xv l Ω (d + 2) 0 0 128 153 [some (.ref 34), some (.int a1)] [.int v12, .int a1, .ref 34] (hM 36 s13 τ) r
          cases q17 : g133 a1 v12 s13 with
          | none => rw [q17] at H; exact False.elim H
          | some q170 =>
            obtain ⟨v15 | v15, s16⟩ := q170
            · rw [q17] at H; dsimp only at H
              have hc := g133_run (Ω := Ω) htr (d + 1) 36 τ a1 v12 s13 q17
              refine xp_ok htr 1 (d + 2) 0 0 [eC none (hM 36 s16 τ)] 128 153 [some (.ref 34), some (.int a1)] [.int v12, .int a1, .ref 34] (hM 36 s13 τ) ⟨hc, ?_⟩
              show xv l Ω (d + 2) 0 0 128 156 [some (.ref 34), some (.int a1)] [] (hM 36 s16 τ) r
              exact xp_ok htr 2 (d + 2) 0 0 [] 128 156 [some (.ref 34), some (.int a1)] [] (hM 36 s16 τ) ⟨trivial, (Eq.symm H)⟩
            · rw [q17] at H; exact False.elim H
        · rw [q14] at H; exact False.elim H
    rw [if_neg h2_1] at H
    by_cases h2_2 : (σ ((59 - 36) + 1) (Int32.toNatClampNeg a1)) = 80
    · rw [if_pos h2_2] at H
      refine xp_ok htr 6 (d + 2) 0 0 [eS (some 80)] 128 0 [some (.ref 34), some (.int a1)] [] (hM 36 σ τ) ⟨(xn_in g1), h2_2, ?_⟩
      show xv l Ω (d + 2) 0 0 128 78 [some (.ref 34), some (.int a1)] [] (hM 36 σ τ) r
      cases q20 : g129 36 a1 σ with
      | none => rw [q20] at H; exact False.elim H
      | some q200 =>
        obtain ⟨v18 | v18, s19⟩ := q200
        · rw [q20] at H; dsimp only at H
          have hc := g129_run_36 (Ω := Ω) htr (d + 1)  τ a1 σ q20
          refine xp_ok htr 7 (d + 2) 0 0 [eC (some (.int v18)) (hM 36 s19 τ)] 128 78 [some (.ref 34), some (.int a1)] [] (hM 36 σ τ) ⟨hc, ?_⟩
          show xv l Ω (d + 2) 0 0 128 87 [some (.ref 34), some (.int a1)] [.int v18, .int 2, .int 1, .int a1, .ref 34] (hM 36 s19 τ) r
          cases q23 : g130 1 2 v18 s19 with
          | none => rw [q23] at H; exact False.elim H
          | some q230 =>
            obtain ⟨v21 | v21, s22⟩ := q230
            · rw [q23] at H; dsimp only at H
              have hc := g130_run (Ω := Ω) htr d 36 τ 1 2 v18 s19 q23
              refine xp_ok htr 1 (d + 2) 0 0 [eC (some (.int v21)) (hM 36 s22 τ)] 128 87 [some (.ref 34), some (.int a1)] [.int v18, .int 2, .int 1, .int a1, .ref 34] (hM 36 s19 τ) ⟨hc, ?_⟩
              show xv l Ω (d + 2) 0 0 128 90 [some (.ref 34), some (.int a1)] [.int v21, .int a1, .ref 34] (hM 36 s22 τ) r
              cases q26 : g131 36 a1 v21 s22 with
              | none => rw [q26] at H; exact False.elim H
              | some q260 =>
                obtain ⟨v24 | v24, s25⟩ := q260
                · rw [q26] at H; dsimp only at H
                  have hc := g131_run_36 (Ω := Ω) htr (d + 1)  τ a1 v21 s22 q26
                  refine xp_ok htr 1 (d + 2) 0 0 [eC none (hM 36 s25 τ)] 128 90 [some (.ref 34), some (.int a1)] [.int v21, .int a1, .ref 34] (hM 36 s22 τ) ⟨hc, ?_⟩
                  show xv l Ω (d + 2) 0 0 128 93 [some (.ref 34), some (.int a1)] [] (hM 36 s25 τ) r
                  exact xp_ok htr 2 (d + 2) 0 0 [] 128 93 [some (.ref 34), some (.int a1)] [] (hM 36 s25 τ) ⟨trivial, (Eq.symm H)⟩
                · rw [q26] at H; exact False.elim H
            · rw [q23] at H; exact False.elim H
        · rw [q20] at H; exact False.elim H
    rw [if_neg h2_2] at H
    by_cases h2_3 : (σ ((59 - 36) + 1) (Int32.toNatClampNeg a1)) = 88
    · rw [if_pos h2_3] at H
      refine xp_ok htr 6 (d + 2) 0 0 [eS (some 88)] 128 0 [some (.ref 34), some (.int a1)] [] (hM 36 σ τ) ⟨(xn_in g1), h2_3, ?_⟩
      show xv l Ω (d + 2) 0 0 128 96 [some (.ref 34), some (.int a1)] [] (hM 36 σ τ) r
      cases q29 : g129 36 a1 σ with
      | none => rw [q29] at H; exact False.elim H
      | some q290 =>
        obtain ⟨v27 | v27, s28⟩ := q290
        · rw [q29] at H; dsimp only at H
          have hc := g129_run_36 (Ω := Ω) htr (d + 1)  τ a1 σ q29
          refine xp_ok htr 5 (d + 2) 0 0 [eC (some (.int v27)) (hM 36 s28 τ)] 128 96 [some (.ref 34), some (.int a1)] [] (hM 36 σ τ) ⟨hc, ?_⟩
          show xv l Ω (d + 2) 0 0 128 103 [some (.ref 34), some (.int a1)] [.int v27, .int a1, .ref 34] (hM 36 s28 τ) r
          cases q32 : g28 v27 1 s28 with
          | none => rw [q32] at H; exact False.elim H
          | some q320 =>
            obtain ⟨v30 | v30, s31⟩ := q320
            · rw [q32] at H; dsimp only at H
              have hc := g28_run (Ω := Ω) htr (d + 1) 36 τ v27 1 s28 q32
              refine xp_ok htr 2 (d + 2) 0 0 [eC (some (.int v30)) (hM 36 s31 τ)] 128 103 [some (.ref 34), some (.int a1)] [.int v27, .int a1, .ref 34] (hM 36 s28 τ) ⟨hc, ?_⟩
              show xv l Ω (d + 2) 0 0 128 107 [some (.ref 34), some (.int a1)] [.int v30, .int a1, .ref 34] (hM 36 s31 τ) r
              by_cases h33 : v30 = 0
              · rw [if_pos h33] at H
                refine xp_ok htr 1 (d + 2) 0 0 [eB true] 128 107 [some (.ref 34), some (.int a1)] [.int v30, .int a1, .ref 34] (hM 36 s31 τ) ⟨h33, ?_⟩
                show xv l Ω (d + 2) 0 0 128 114 [some (.ref 34), some (.int a1)] [.int a1, .ref 34] (hM 36 s31 τ) r
                refine xp_ok htr 1 (d + 2) 0 0 [] 128 114 [some (.ref 34), some (.int a1)] [.int a1, .ref 34] (hM 36 s31 τ) ?_
                show xv l Ω (d + 2) 0 0 128 115 [some (.ref 34), some (.int a1)] [.int 2, .int a1, .ref 34] (hM 36 s31 τ) r
                exact xv_sub (L' := [none, none]) trivial (g128_115_ok_36 htr d  τ a1 2 s31 r H)
              · rw [if_neg h33] at H
                refine xp_ok htr 1 (d + 2) 0 0 [eB false] 128 107 [some (.ref 34), some (.int a1)] [.int v30, .int a1, .ref 34] (hM 36 s31 τ) ⟨h33, ?_⟩
                show xv l Ω (d + 2) 0 0 128 110 [some (.ref 34), some (.int a1)] [.int a1, .ref 34] (hM 36 s31 τ) r
                refine xp_ok htr 2 (d + 2) 0 0 [] 128 110 [some (.ref 34), some (.int a1)] [.int a1, .ref 34] (hM 36 s31 τ) ?_
                show xv l Ω (d + 2) 0 0 128 115 [some (.ref 34), some (.int a1)] [.int 1, .int a1, .ref 34] (hM 36 s31 τ) r
                exact xv_sub (L' := [none, none]) trivial (g128_115_ok_36 htr d  τ a1 1 s31 r H)
            · rw [q32] at H; exact False.elim H
        · rw [q29] at H; exact False.elim H
    rw [if_neg h2_3] at H
    by_cases h2_4 : (σ ((59 - 36) + 1) (Int32.toNatClampNeg a1)) = 89
    · rw [if_pos h2_4] at H
      refine xp_ok htr 6 (d + 2) 0 0 [eS (some 89)] 128 0 [some (.ref 34), some (.int a1)] [] (hM 36 σ τ) ⟨(xn_in g1), h2_4, ?_⟩
      show xv l Ω (d + 2) 0 0 128 121 [some (.ref 34), some (.int a1)] [] (hM 36 σ τ) r
      cases q39 : g129 36 a1 σ with
      | none => rw [q39] at H; exact False.elim H
      | some q390 =>
        obtain ⟨v37 | v37, s38⟩ := q390
        · rw [q39] at H; dsimp only at H
          have hc := g129_run_36 (Ω := Ω) htr (d + 1)  τ a1 σ q39
          refine xp_ok htr 5 (d + 2) 0 0 [eC (some (.int v37)) (hM 36 s38 τ)] 128 121 [some (.ref 34), some (.int a1)] [] (hM 36 σ τ) ⟨hc, ?_⟩
          show xv l Ω (d + 2) 0 0 128 128 [some (.ref 34), some (.int a1)] [.int v37, .int a1, .ref 34] (hM 36 s38 τ) r
          cases q42 : g28 v37 2 s38 with
          | none => rw [q42] at H; exact False.elim H
          | some q420 =>
            obtain ⟨v40 | v40, s41⟩ := q420
            · rw [q42] at H; dsimp only at H
              have hc := g28_run (Ω := Ω) htr (d + 1) 36 τ v37 2 s38 q42
              refine xp_ok htr 2 (d + 2) 0 0 [eC (some (.int v40)) (hM 36 s41 τ)] 128 128 [some (.ref 34), some (.int a1)] [.int v37, .int a1, .ref 34] (hM 36 s38 τ) ⟨hc, ?_⟩
              show xv l Ω (d + 2) 0 0 128 132 [some (.ref 34), some (.int a1)] [.int v40, .int a1, .ref 34] (hM 36 s41 τ) r
              by_cases h43 : v40 = 0
              · rw [if_pos h43] at H
                refine xp_ok htr 1 (d + 2) 0 0 [eB true] 128 132 [some (.ref 34), some (.int a1)] [.int v40, .int a1, .ref 34] (hM 36 s41 τ) ⟨h43, ?_⟩
                show xv l Ω (d + 2) 0 0 128 139 [some (.ref 34), some (.int a1)] [.int a1, .ref 34] (hM 36 s41 τ) r
                refine xp_ok htr 1 (d + 2) 0 0 [] 128 139 [some (.ref 34), some (.int a1)] [.int a1, .ref 34] (hM 36 s41 τ) ?_
                show xv l Ω (d + 2) 0 0 128 140 [some (.ref 34), some (.int a1)] [.int 1, .int a1, .ref 34] (hM 36 s41 τ) r
                exact xv_sub (L' := [none, none]) trivial (g128_140_ok_36 htr d  τ a1 1 s41 r H)
              · rw [if_neg h43] at H
                refine xp_ok htr 1 (d + 2) 0 0 [eB false] 128 132 [some (.ref 34), some (.int a1)] [.int v40, .int a1, .ref 34] (hM 36 s41 τ) ⟨h43, ?_⟩
                show xv l Ω (d + 2) 0 0 128 135 [some (.ref 34), some (.int a1)] [.int a1, .ref 34] (hM 36 s41 τ) r
                refine xp_ok htr 2 (d + 2) 0 0 [] 128 135 [some (.ref 34), some (.int a1)] [.int a1, .ref 34] (hM 36 s41 τ) ?_
                show xv l Ω (d + 2) 0 0 128 140 [some (.ref 34), some (.int a1)] [.int 2, .int a1, .ref 34] (hM 36 s41 τ) r
                exact xv_sub (L' := [none, none]) trivial (g128_140_ok_36 htr d  τ a1 2 s41 r H)
            · rw [q42] at H; exact False.elim H
        · rw [q39] at H; exact False.elim H
    rw [if_neg h2_4] at H
    refine xp_ok htr 6 (d + 2) 0 0 [eS none] 128 0 [some (.ref 34), some (.int a1)] [] (hM 36 σ τ) ⟨(xn_in g1), ⟨h2_0, h2_1, h2_2, h2_3, h2_4, trivial⟩, ?_⟩
    show xv l Ω (d + 2) 0 0 128 159 [some (.ref 34), some (.int a1)] [] (hM 36 σ τ) r
    cases q49 : g134 36 a1 σ with
    | none => rw [q49] at H; exact False.elim H
    | some q490 =>
      obtain ⟨v47 | v47, s48⟩ := q490
      · rw [q49] at H; dsimp only at H
        have hc := g134_run_36 (Ω := Ω) htr d  τ a1 σ q49
        refine xp_ok htr 3 (d + 2) 0 0 [eC none (hM 36 s48 τ)] 128 159 [some (.ref 34), some (.int a1)] [] (hM 36 σ τ) ⟨hc, ?_⟩
        show xv l Ω (d + 2) 0 0 128 164 [some (.ref 34), some (.int a1)] [] (hM 36 s48 τ) r
        exact xp_ok htr 1 (d + 2) 0 0 [] 128 164 [some (.ref 34), some (.int a1)] [] (hM 36 s48 τ) ⟨trivial, (Eq.symm H)⟩
      · rw [q49] at H; exact False.elim H
/- AccessDesk$Judge.weighPolicy -/
def g127_89 (p : Nat) (x1 : Int32) (x2 : Int32) (σ : xS) : Option xQ := (if x2 = 0 then some ((Sum.inl 0, σ)) else (bif xn x1 40 then (match g126 (59 - p) x1 (σ 48 (Int32.toNatClampNeg x1)) σ with | some (Sum.inl v10, s11) => some ((Sum.inl 0, (xh_ui s11 49 (Int32.toNatClampNeg x1) ((σ 49 (Int32.toNatClampNeg x1)) ||| v10)))) | some (Sum.inr v10, s11) => none | none => none) else none))
def g127_54 (p : Nat) (x1 : Int32) (k0 : Int32) (σ : xS) : Option xQ := (if k0 = 0 then g127_89 p x1 k0 σ else (bif xn x1 40 then (if (σ 47 (Int32.toNatClampNeg x1)) = 1 then some ((Sum.inl 0, (xh_ui (xh_ui σ 48 (Int32.toNatClampNeg x1) ((σ 48 (Int32.toNatClampNeg x1)) + 2)) 49 (Int32.toNatClampNeg x1) 0))) else g127_89 p x1 k0 σ) else none))
def g127_49 (p : Nat) (x1 : Int32) (σ : xS) : Option xQ := g127_54 p x1 1 σ
def g127 (p : Nat) (a1 : Int32) (σ : xS) : xO := (bif xn a1 40 then (if ((xh_ui (xh_ui σ 48 (Int32.toNatClampNeg a1) 0) 49 (Int32.toNatClampNeg a1) 0) 47 (Int32.toNatClampNeg a1)) = 0 then some ((Sum.inl 0, (xh_ui (xh_ui σ 48 (Int32.toNatClampNeg a1) 0) 49 (Int32.toNatClampNeg a1) 0))) else (match g128 p a1 (xh_ui (xh_ui σ 48 (Int32.toNatClampNeg a1) 0) 49 (Int32.toNatClampNeg a1) 0) with | some (Sum.inl v3, s4) => (if (s4 48 (Int32.toNatClampNeg a1)) = 1 then g127_49 p a1 s4 else (if (s4 48 (Int32.toNatClampNeg a1)) = 2 then g127_49 p a1 s4 else g127_54 p a1 0 s4)) | some (Sum.inr v3, s4) => none | none => none)) else none)
theorem g127_89_ok_23 {l : Launch} {Ω : xo_O} (htr : xH l) (d : Nat) (τ : Nat → Nat → Int64) (x1 : Int32) (x2 : Int32) (σ : xS) (r : xv_R) (H : xo (xB true 23 τ r) (g127_89 23 x1 x2 σ)) : xv l Ω (d + 3) 0 0 127 89 [some (.ref 34), some (.int x1), some (.int x2)] [] (hM 23 σ τ) r := by
  unfold g127_89 at H
  by_cases h8 : x2 = 0
  · rw [if_pos h8] at H
    refine xp_ok htr 2 (d + 3) 0 0 [eB true] 127 89 [some (.ref 34), some (.int x1), some (.int x2)] [] (hM 23 σ τ) ⟨h8, ?_⟩
    show xv l Ω (d + 3) 0 0 127 116 [some (.ref 34), some (.int x1), some (.int x2)] [] (hM 23 σ τ) r
    exact xp_ok htr 1 (d + 3) 0 0 [] 127 116 [some (.ref 34), some (.int x1), some (.int x2)] [] (hM 23 σ τ) ⟨trivial, (Eq.symm H)⟩
  · rw [if_neg h8] at H
    refine xp_ok htr 2 (d + 3) 0 0 [eB false] 127 89 [some (.ref 34), some (.int x1), some (.int x2)] [] (hM 23 σ τ) ⟨h8, ?_⟩
    show xv l Ω (d + 3) 0 0 127 93 [some (.ref 34), some (.int x1), some (.int x2)] [] (hM 23 σ τ) r
    cases g9 : xn x1 40 with
    | false => rw [g9, cond_false] at H; exact False.elim H
    | true =>
      rw [g9, cond_true] at H
      refine xp_ok htr 8 (d + 3) 0 0 [] 127 93 [some (.ref 34), some (.int x1), some (.int x2)] [] (hM 23 σ τ) ⟨(xn_in g9), ?_⟩
      show xv l Ω (d + 3) 0 0 127 105 [some (.ref 34), some (.int x1), some (.int x2)] [.int x1, .ref (59 - 23), .int (σ 49 (Int32.toNatClampNeg x1)), .int x1, .ref 49] (hM 23 σ τ) r
      cases q12 : g126 (59 - 23) x1 (σ 48 (Int32.toNatClampNeg x1)) σ with
      | none => rw [q12] at H; exact False.elim H
      | some q120 =>
        obtain ⟨v10 | v10, s11⟩ := q120
        · rw [q12] at H; dsimp only at H
          have hc := g126_run_36 (Ω := Ω) htr (d + 2) 23 τ x1 (σ 48 (Int32.toNatClampNeg x1)) σ q12
          refine xp_ok htr 5 (d + 3) 0 0 [eC (some (.int v10)) (hM 23 s11 τ)] 127 105 [some (.ref 34), some (.int x1), some (.int x2)] [.int x1, .ref (59 - 23), .int (σ 49 (Int32.toNatClampNeg x1)), .int x1, .ref 49] (hM 23 σ τ) ⟨(xn_in g9), hc, ?_⟩
          show xv l Ω (d + 3) 0 0 127 114 [some (.ref 34), some (.int x1), some (.int x2)] [.int v10, .int (σ 49 (Int32.toNatClampNeg x1)), .int x1, .ref 49] (hM 23 s11 τ) r
          exact xp_ok htr 3 (d + 3) 0 0 [] 127 114 [some (.ref 34), some (.int x1), some (.int x2)] [.int v10, .int (σ 49 (Int32.toNatClampNeg x1)), .int x1, .ref 49] (hM 23 s11 τ) ⟨(xn_in g9), trivial, (Eq.symm H)⟩
        · rw [q12] at H; exact False.elim H
theorem g127_54_ok_23 {l : Launch} {Ω : xo_O} (htr : xH l) (d : Nat) (τ : Nat → Nat → Int64) (x1 : Int32) (k0 : Int32) (σ : xS) (r : xv_R) (H : xo (xB true 23 τ r) (g127_54 23 x1 k0 σ)) : xv l Ω (d + 3) 0 0 127 54 [some (.ref 34), some (.int x1), none] [.int k0] (hM 23 σ τ) r := by
  unfold g127_54 at H
  by_cases h7 : k0 = 0
  · rw [if_pos h7] at H
    refine xp_ok htr 3 (d + 3) 0 0 [eB true] 127 54 [some (.ref 34), some (.int x1), none] [.int k0] (hM 23 σ τ) ⟨h7, ?_⟩
    show xv l Ω (d + 3) 0 0 127 89 [some (.ref 34), some (.int x1), some (.int k0)] [] (hM 23 σ τ) r
    exact xv_sub (L' := [some (.ref 34), some (.int x1), some (.int k0)]) ⟨rfl, ⟨rfl, ⟨rfl, trivial⟩⟩⟩ (g127_89_ok_23 htr d  τ x1 k0 σ r H)
  · rw [if_neg h7] at H
    refine xp_ok htr 3 (d + 3) 0 0 [eB false] 127 54 [some (.ref 34), some (.int x1), none] [.int k0] (hM 23 σ τ) ⟨h7, ?_⟩
    show xv l Ω (d + 3) 0 0 127 59 [some (.ref 34), some (.int x1), some (.int k0)] [] (hM 23 σ τ) r
    cases g13 : xn x1 40 with
    | false => rw [g13, cond_false] at H; exact False.elim H
    | true =>
      rw [g13, cond_true] at H
      by_cases h14 : (σ 47 (Int32.toNatClampNeg x1)) = 1
      · rw [if_pos h14] at H
        refine xp_ok htr 6 (d + 3) 0 0 [eB false] 127 59 [some (.ref 34), some (.int x1), some (.int k0)] [] (hM 23 σ τ) ⟨(xn_in g13), h14, ?_⟩
        show xv l Ω (d + 3) 0 0 127 69 [some (.ref 34), some (.int x1), some (.int k0)] [] (hM 23 σ τ) r
        refine xp_ok htr 8 (d + 3) 0 0 [] 127 69 [some (.ref 34), some (.int x1), some (.int k0)] [] (hM 23 σ τ) ⟨(xn_in g13), (xn_in g13), ?_⟩
        show xv l Ω (d + 3) 0 0 127 79 [some (.ref 34), some (.int x1), some (.int k0)] [] (hM 23 (xh_ui σ 48 (Int32.toNatClampNeg x1) ((σ 48 (Int32.toNatClampNeg x1)) + 2)) τ) r
        exact xp_ok htr 7 (d + 3) 0 0 [] 127 79 [some (.ref 34), some (.int x1), some (.int k0)] [] (hM 23 (xh_ui σ 48 (Int32.toNatClampNeg x1) ((σ 48 (Int32.toNatClampNeg x1)) + 2)) τ) ⟨(xn_in g13), trivial, (Eq.symm H)⟩
      · rw [if_neg h14] at H
        refine xp_ok htr 6 (d + 3) 0 0 [eB true] 127 59 [some (.ref 34), some (.int x1), some (.int k0)] [] (hM 23 σ τ) ⟨(xn_in g13), h14, ?_⟩
        show xv l Ω (d + 3) 0 0 127 89 [some (.ref 34), some (.int x1), some (.int k0)] [] (hM 23 σ τ) r
        exact xv_sub (L' := [some (.ref 34), some (.int x1), some (.int k0)]) ⟨rfl, ⟨rfl, ⟨rfl, trivial⟩⟩⟩ (g127_89_ok_23 htr d  τ x1 k0 σ r H)
theorem g127_49_ok_23 {l : Launch} {Ω : xo_O} (htr : xH l) (d : Nat) (τ : Nat → Nat → Int64) (x1 : Int32) (σ : xS) (r : xv_R) (H : xo (xB true 23 τ r) (g127_49 23 x1 σ)) : xv l Ω (d + 3) 0 0 127 49 [some (.ref 34), some (.int x1), none] [] (hM 23 σ τ) r := by
  unfold g127_49 at H
  refine xp_ok htr 2 (d + 3) 0 0 [] 127 49 [some (.ref 34), some (.int x1), none] [] (hM 23 σ τ) ?_
  show xv l Ω (d + 3) 0 0 127 54 [some (.ref 34), some (.int x1), none] [.int 1] (hM 23 σ τ) r
  exact xv_sub (L' := [some (.ref 34), some (.int x1), none]) ⟨rfl, ⟨rfl, trivial⟩⟩ (g127_54_ok_23 htr d  τ x1 1 σ r H)
theorem g127_run_23 {l : Launch} {Ω : xo_O} (htr : xH l) (d : Nat) (τ : Nat → Nat → Int64) (a1 : Int32) (σ : xS) {q : xQ} (hq : g127 23 a1 σ = some q) : xv l Ω (d + 3) 0 0 127 0 (xs_loc (xm_l 127) [.ref 34, .int a1]) [] (hM 23 σ τ) (xq_R true 23 τ q) := by
  have H : xo (xB true 23 τ (xq_R true 23 τ q)) (g127 23 a1 σ) := by rw [hq]; exact rfl
  generalize xq_R true 23 τ q = r at H ⊢
  show xv l Ω (d + 3) 0 0 127 0 [some (.ref 34), some (.int a1), none] [] (hM 23 σ τ) r
  unfold g127 at H
  cases g1 : xn a1 40 with
  | false => rw [g1, cond_false] at H; exact False.elim H
  | true =>
    rw [g1, cond_true] at H
    refine xp_ok htr 8 (d + 3) 0 0 [] 127 0 [some (.ref 34), some (.int a1), none] [] (hM 23 σ τ) ⟨(xn_in g1), ?_⟩
    show xv l Ω (d + 3) 0 0 127 12 [some (.ref 34), some (.int a1), none] [.int a1, .ref 49] (hM 23 (xh_ui σ 48 (Int32.toNatClampNeg a1) 0) τ) r
    by_cases h2 : ((xh_ui (xh_ui σ 48 (Int32.toNatClampNeg a1) 0) 49 (Int32.toNatClampNeg a1) 0) 47 (Int32.toNatClampNeg a1)) = 0
    · rw [if_pos h2] at H
      refine xp_ok htr 7 (d + 3) 0 0 [eB false] 127 12 [some (.ref 34), some (.int a1), none] [.int a1, .ref 49] (hM 23 (xh_ui σ 48 (Int32.toNatClampNeg a1) 0) τ) ⟨(xn_in g1), (xn_in g1), h2, ?_⟩
      show xv l Ω (d + 3) 0 0 127 23 [some (.ref 34), some (.int a1), none] [] (hM 23 (xh_ui (xh_ui σ 48 (Int32.toNatClampNeg a1) 0) 49 (Int32.toNatClampNeg a1) 0) τ) r
      exact xp_ok htr 1 (d + 3) 0 0 [] 127 23 [some (.ref 34), some (.int a1), none] [] (hM 23 (xh_ui (xh_ui σ 48 (Int32.toNatClampNeg a1) 0) 49 (Int32.toNatClampNeg a1) 0) τ) ⟨trivial, (Eq.symm H)⟩
    · rw [if_neg h2] at H
      refine xp_ok htr 7 (d + 3) 0 0 [eB true] 127 12 [some (.ref 34), some (.int a1), none] [.int a1, .ref 49] (hM 23 (xh_ui σ 48 (Int32.toNatClampNeg a1) 0) τ) ⟨(xn_in g1), (xn_in g1), h2, ?_⟩
      show xv l Ω (d + 3) 0 0 127 24 [some (.ref 34), some (.int a1), none] [] (hM 23 (xh_ui (xh_ui σ 48 (Int32.toNatClampNeg a1) 0) 49 (Int32.toNatClampNeg a1) 0) τ) r
      cases q5 : g128 23 a1 (xh_ui (xh_ui σ 48 (Int32.toNatClampNeg a1) 0) 49 (Int32.toNatClampNeg a1) 0) with
      | none => rw [q5] at H; exact False.elim H
      | some q50 =>
        obtain ⟨v3 | v3, s4⟩ := q50
        · rw [q5] at H; dsimp only at H
          have hc := g128_run_23 (Ω := Ω) htr d  τ a1 (xh_ui (xh_ui σ 48 (Int32.toNatClampNeg a1) 0) 49 (Int32.toNatClampNeg a1) 0) q5
          refine xp_ok htr 3 (d + 3) 0 0 [eC none (hM 23 s4 τ)] 127 24 [some (.ref 34), some (.int a1), none] [] (hM 23 (xh_ui (xh_ui σ 48 (Int32.toNatClampNeg a1) 0) 49 (Int32.toNatClampNeg a1) 0) τ) ⟨hc, ?_⟩
          show xv l Ω (d + 3) 0 0 127 29 [some (.ref 34), some (.int a1), none] [] (hM 23 s4 τ) r
          by_cases h6 : (s4 48 (Int32.toNatClampNeg a1)) = 1
          · rw [if_pos h6] at H
            refine xp_ok htr 6 (d + 3) 0 0 [eB true] 127 29 [some (.ref 34), some (.int a1), none] [] (hM 23 s4 τ) ⟨(xn_in g1), h6, ?_⟩
            show xv l Ω (d + 3) 0 0 127 49 [some (.ref 34), some (.int a1), none] [] (hM 23 s4 τ) r
            exact xv_sub (L' := [some (.ref 34), some (.int a1), none]) ⟨rfl, ⟨rfl, trivial⟩⟩ (g127_49_ok_23 htr d  τ a1 s4 r H)
          · rw [if_neg h6] at H
            refine xp_ok htr 6 (d + 3) 0 0 [eB false] 127 29 [some (.ref 34), some (.int a1), none] [] (hM 23 s4 τ) ⟨(xn_in g1), h6, ?_⟩
            show xv l Ω (d + 3) 0 0 127 39 [some (.ref 34), some (.int a1), none] [] (hM 23 s4 τ) r
            by_cases h15 : (s4 48 (Int32.toNatClampNeg a1)) = 2
            · rw [if_pos h15] at H
              refine xp_ok htr 6 (d + 3) 0 0 [eB false] 127 39 [some (.ref 34), some (.int a1), none] [] (hM 23 s4 τ) ⟨(xn_in g1), h15, ?_⟩
              show xv l Ω (d + 3) 0 0 127 49 [some (.ref 34), some (.int a1), none] [] (hM 23 s4 τ) r
              exact xv_sub (L' := [some (.ref 34), some (.int a1), none]) ⟨rfl, ⟨rfl, trivial⟩⟩ (g127_49_ok_23 htr d  τ a1 s4 r H)
            · rw [if_neg h15] at H
              refine xp_ok htr 6 (d + 3) 0 0 [eB true] 127 39 [some (.ref 34), some (.int a1), none] [] (hM 23 s4 τ) ⟨(xn_in g1), h15, ?_⟩
              show xv l Ω (d + 3) 0 0 127 53 [some (.ref 34), some (.int a1), none] [] (hM 23 s4 τ) r
              refine xp_ok htr 1 (d + 3) 0 0 [] 127 53 [some (.ref 34), some (.int a1), none] [] (hM 23 s4 τ) ?_
              show xv l Ω (d + 3) 0 0 127 54 [some (.ref 34), some (.int a1), none] [.int 0] (hM 23 s4 τ) r
              exact xv_sub (L' := [some (.ref 34), some (.int a1), none]) ⟨rfl, ⟨rfl, trivial⟩⟩ (g127_54_ok_23 htr d  τ a1 0 s4 r H)
        · rw [q5] at H; exact False.elim H
theorem g127_89_ok_36 {l : Launch} {Ω : xo_O} (htr : xH l) (d : Nat) (τ : Nat → Nat → Int64) (x1 : Int32) (x2 : Int32) (σ : xS) (r : xv_R) (H : xo (xB true 36 τ r) (g127_89 36 x1 x2 σ)) : xv l Ω (d + 3) 0 0 127 89 [some (.ref 34), some (.int x1), some (.int x2)] [] (hM 36 σ τ) r := by
  unfold g127_89 at H
  by_cases h8 : x2 = 0
  · rw [if_pos h8] at H
    refine xp_ok htr 2 (d + 3) 0 0 [eB true] 127 89 [some (.ref 34), some (.int x1), some (.int x2)] [] (hM 36 σ τ) ⟨h8, ?_⟩
    show xv l Ω (d + 3) 0 0 127 116 [some (.ref 34), some (.int x1), some (.int x2)] [] (hM 36 σ τ) r
    exact xp_ok htr 1 (d + 3) 0 0 [] 127 116 [some (.ref 34), some (.int x1), some (.int x2)] [] (hM 36 σ τ) ⟨trivial, (Eq.symm H)⟩
  · rw [if_neg h8] at H
    refine xp_ok htr 2 (d + 3) 0 0 [eB false] 127 89 [some (.ref 34), some (.int x1), some (.int x2)] [] (hM 36 σ τ) ⟨h8, ?_⟩
    show xv l Ω (d + 3) 0 0 127 93 [some (.ref 34), some (.int x1), some (.int x2)] [] (hM 36 σ τ) r
    cases g9 : xn x1 40 with
    | false => rw [g9, cond_false] at H; exact False.elim H
    | true =>
      rw [g9, cond_true] at H
      refine xp_ok htr 8 (d + 3) 0 0 [] 127 93 [some (.ref 34), some (.int x1), some (.int x2)] [] (hM 36 σ τ) ⟨(xn_in g9), ?_⟩
      show xv l Ω (d + 3) 0 0 127 105 [some (.ref 34), some (.int x1), some (.int x2)] [.int x1, .ref (59 - 36), .int (σ 49 (Int32.toNatClampNeg x1)), .int x1, .ref 49] (hM 36 σ τ) r
      cases q12 : g126 (59 - 36) x1 (σ 48 (Int32.toNatClampNeg x1)) σ with
      | none => rw [q12] at H; exact False.elim H
      | some q120 =>
        obtain ⟨v10 | v10, s11⟩ := q120
        · rw [q12] at H; dsimp only at H
          have hc := g126_run_23 (Ω := Ω) htr (d + 2) 36 τ x1 (σ 48 (Int32.toNatClampNeg x1)) σ q12
          refine xp_ok htr 5 (d + 3) 0 0 [eC (some (.int v10)) (hM 36 s11 τ)] 127 105 [some (.ref 34), some (.int x1), some (.int x2)] [.int x1, .ref (59 - 36), .int (σ 49 (Int32.toNatClampNeg x1)), .int x1, .ref 49] (hM 36 σ τ) ⟨(xn_in g9), hc, ?_⟩
          show xv l Ω (d + 3) 0 0 127 114 [some (.ref 34), some (.int x1), some (.int x2)] [.int v10, .int (σ 49 (Int32.toNatClampNeg x1)), .int x1, .ref 49] (hM 36 s11 τ) r
          exact xp_ok htr 3 (d + 3) 0 0 [] 127 114 [some (.ref 34), some (.int x1), some (.int x2)] [.int v10, .int (σ 49 (Int32.toNatClampNeg x1)), .int x1, .ref 49] (hM 36 s11 τ) ⟨(xn_in g9), trivial, (Eq.symm H)⟩
        · rw [q12] at H; exact False.elim H
theorem g127_54_ok_36 {l : Launch} {Ω : xo_O} (htr : xH l) (d : Nat) (τ : Nat → Nat → Int64) (x1 : Int32) (k0 : Int32) (σ : xS) (r : xv_R) (H : xo (xB true 36 τ r) (g127_54 36 x1 k0 σ)) : xv l Ω (d + 3) 0 0 127 54 [some (.ref 34), some (.int x1), none] [.int k0] (hM 36 σ τ) r := by
  unfold g127_54 at H
  by_cases h7 : k0 = 0
  · rw [if_pos h7] at H
    refine xp_ok htr 3 (d + 3) 0 0 [eB true] 127 54 [some (.ref 34), some (.int x1), none] [.int k0] (hM 36 σ τ) ⟨h7, ?_⟩
    show xv l Ω (d + 3) 0 0 127 89 [some (.ref 34), some (.int x1), some (.int k0)] [] (hM 36 σ τ) r
    exact xv_sub (L' := [some (.ref 34), some (.int x1), some (.int k0)]) ⟨rfl, ⟨rfl, ⟨rfl, trivial⟩⟩⟩ (g127_89_ok_36 htr d  τ x1 k0 σ r H)
  · rw [if_neg h7] at H
    refine xp_ok htr 3 (d + 3) 0 0 [eB false] 127 54 [some (.ref 34), some (.int x1), none] [.int k0] (hM 36 σ τ) ⟨h7, ?_⟩
    show xv l Ω (d + 3) 0 0 127 59 [some (.ref 34), some (.int x1), some (.int k0)] [] (hM 36 σ τ) r
    cases g13 : xn x1 40 with
    | false => rw [g13, cond_false] at H; exact False.elim H
    | true =>
      rw [g13, cond_true] at H
      by_cases h14 : (σ 47 (Int32.toNatClampNeg x1)) = 1
      · rw [if_pos h14] at H
        refine xp_ok htr 6 (d + 3) 0 0 [eB false] 127 59 [some (.ref 34), some (.int x1), some (.int k0)] [] (hM 36 σ τ) ⟨(xn_in g13), h14, ?_⟩
        show xv l Ω (d + 3) 0 0 127 69 [some (.ref 34), some (.int x1), some (.int k0)] [] (hM 36 σ τ) r
        refine xp_ok htr 8 (d + 3) 0 0 [] 127 69 [some (.ref 34), some (.int x1), some (.int k0)] [] (hM 36 σ τ) ⟨(xn_in g13), (xn_in g13), ?_⟩
        show xv l Ω (d + 3) 0 0 127 79 [some (.ref 34), some (.int x1), some (.int k0)] [] (hM 36 (xh_ui σ 48 (Int32.toNatClampNeg x1) ((σ 48 (Int32.toNatClampNeg x1)) + 2)) τ) r
        exact xp_ok htr 7 (d + 3) 0 0 [] 127 79 [some (.ref 34), some (.int x1), some (.int k0)] [] (hM 36 (xh_ui σ 48 (Int32.toNatClampNeg x1) ((σ 48 (Int32.toNatClampNeg x1)) + 2)) τ) ⟨(xn_in g13), trivial, (Eq.symm H)⟩
      · rw [if_neg h14] at H
        refine xp_ok htr 6 (d + 3) 0 0 [eB true] 127 59 [some (.ref 34), some (.int x1), some (.int k0)] [] (hM 36 σ τ) ⟨(xn_in g13), h14, ?_⟩
        show xv l Ω (d + 3) 0 0 127 89 [some (.ref 34), some (.int x1), some (.int k0)] [] (hM 36 σ τ) r
        exact xv_sub (L' := [some (.ref 34), some (.int x1), some (.int k0)]) ⟨rfl, ⟨rfl, ⟨rfl, trivial⟩⟩⟩ (g127_89_ok_36 htr d  τ x1 k0 σ r H)
theorem g127_49_ok_36 {l : Launch} {Ω : xo_O} (htr : xH l) (d : Nat) (τ : Nat → Nat → Int64) (x1 : Int32) (σ : xS) (r : xv_R) (H : xo (xB true 36 τ r) (g127_49 36 x1 σ)) : xv l Ω (d + 3) 0 0 127 49 [some (.ref 34), some (.int x1), none] [] (hM 36 σ τ) r := by
  unfold g127_49 at H
  refine xp_ok htr 2 (d + 3) 0 0 [] 127 49 [some (.ref 34), some (.int x1), none] [] (hM 36 σ τ) ?_
  show xv l Ω (d + 3) 0 0 127 54 [some (.ref 34), some (.int x1), none] [.int 1] (hM 36 σ τ) r
  exact xv_sub (L' := [some (.ref 34), some (.int x1), none]) ⟨rfl, ⟨rfl, trivial⟩⟩ (g127_54_ok_36 htr d  τ x1 1 σ r H)
theorem g127_run_36 {l : Launch} {Ω : xo_O} (htr : xH l) (d : Nat) (τ : Nat → Nat → Int64) (a1 : Int32) (σ : xS) {q : xQ} (hq : g127 36 a1 σ = some q) : xv l Ω (d + 3) 0 0 127 0 (xs_loc (xm_l 127) [.ref 34, .int a1]) [] (hM 36 σ τ) (xq_R true 36 τ q) := by
  have H : xo (xB true 36 τ (xq_R true 36 τ q)) (g127 36 a1 σ) := by rw [hq]; exact rfl
  generalize xq_R true 36 τ q = r at H ⊢
  show xv l Ω (d + 3) 0 0 127 0 [some (.ref 34), some (.int a1), none] [] (hM 36 σ τ) r
  unfold g127 at H
  cases g1 : xn a1 40 with
  | false => rw [g1, cond_false] at H; exact False.elim H
  | true =>
    rw [g1, cond_true] at H
    refine xp_ok htr 8 (d + 3) 0 0 [] 127 0 [some (.ref 34), some (.int a1), none] [] (hM 36 σ τ) ⟨(xn_in g1), ?_⟩
    show xv l Ω (d + 3) 0 0 127 12 [some (.ref 34), some (.int a1), none] [.int a1, .ref 49] (hM 36 (xh_ui σ 48 (Int32.toNatClampNeg a1) 0) τ) r
    by_cases h2 : ((xh_ui (xh_ui σ 48 (Int32.toNatClampNeg a1) 0) 49 (Int32.toNatClampNeg a1) 0) 47 (Int32.toNatClampNeg a1)) = 0
    · rw [if_pos h2] at H
      refine xp_ok htr 7 (d + 3) 0 0 [eB false] 127 12 [some (.ref 34), some (.int a1), none] [.int a1, .ref 49] (hM 36 (xh_ui σ 48 (Int32.toNatClampNeg a1) 0) τ) ⟨(xn_in g1), (xn_in g1), h2, ?_⟩
      show xv l Ω (d + 3) 0 0 127 23 [some (.ref 34), some (.int a1), none] [] (hM 36 (xh_ui (xh_ui σ 48 (Int32.toNatClampNeg a1) 0) 49 (Int32.toNatClampNeg a1) 0) τ) r
      exact xp_ok htr 1 (d + 3) 0 0 [] 127 23 [some (.ref 34), some (.int a1), none] [] (hM 36 (xh_ui (xh_ui σ 48 (Int32.toNatClampNeg a1) 0) 49 (Int32.toNatClampNeg a1) 0) τ) ⟨trivial, (Eq.symm H)⟩
    · rw [if_neg h2] at H
      refine xp_ok htr 7 (d + 3) 0 0 [eB true] 127 12 [some (.ref 34), some (.int a1), none] [.int a1, .ref 49] (hM 36 (xh_ui σ 48 (Int32.toNatClampNeg a1) 0) τ) ⟨(xn_in g1), (xn_in g1), h2, ?_⟩
      show xv l Ω (d + 3) 0 0 127 24 [some (.ref 34), some (.int a1), none] [] (hM 36 (xh_ui (xh_ui σ 48 (Int32.toNatClampNeg a1) 0) 49 (Int32.toNatClampNeg a1) 0) τ) r
      cases q5 : g128 36 a1 (xh_ui (xh_ui σ 48 (Int32.toNatClampNeg a1) 0) 49 (Int32.toNatClampNeg a1) 0) with
      | none => rw [q5] at H; exact False.elim H
      | some q50 =>
        obtain ⟨v3 | v3, s4⟩ := q50
        · rw [q5] at H; dsimp only at H
          have hc := g128_run_36 (Ω := Ω) htr d  τ a1 (xh_ui (xh_ui σ 48 (Int32.toNatClampNeg a1) 0) 49 (Int32.toNatClampNeg a1) 0) q5
          refine xp_ok htr 3 (d + 3) 0 0 [eC none (hM 36 s4 τ)] 127 24 [some (.ref 34), some (.int a1), none] [] (hM 36 (xh_ui (xh_ui σ 48 (Int32.toNatClampNeg a1) 0) 49 (Int32.toNatClampNeg a1) 0) τ) ⟨hc, ?_⟩
          show xv l Ω (d + 3) 0 0 127 29 [some (.ref 34), some (.int a1), none] [] (hM 36 s4 τ) r
          by_cases h6 : (s4 48 (Int32.toNatClampNeg a1)) = 1
          · rw [if_pos h6] at H
            refine xp_ok htr 6 (d + 3) 0 0 [eB true] 127 29 [some (.ref 34), some (.int a1), none] [] (hM 36 s4 τ) ⟨(xn_in g1), h6, ?_⟩
            show xv l Ω (d + 3) 0 0 127 49 [some (.ref 34), some (.int a1), none] [] (hM 36 s4 τ) r
            exact xv_sub (L' := [some (.ref 34), some (.int a1), none]) ⟨rfl, ⟨rfl, trivial⟩⟩ (g127_49_ok_36 htr d  τ a1 s4 r H)
          · rw [if_neg h6] at H
            refine xp_ok htr 6 (d + 3) 0 0 [eB false] 127 29 [some (.ref 34), some (.int a1), none] [] (hM 36 s4 τ) ⟨(xn_in g1), h6, ?_⟩
            show xv l Ω (d + 3) 0 0 127 39 [some (.ref 34), some (.int a1), none] [] (hM 36 s4 τ) r
            by_cases h15 : (s4 48 (Int32.toNatClampNeg a1)) = 2
            · rw [if_pos h15] at H
              refine xp_ok htr 6 (d + 3) 0 0 [eB false] 127 39 [some (.ref 34), some (.int a1), none] [] (hM 36 s4 τ) ⟨(xn_in g1), h15, ?_⟩
              show xv l Ω (d + 3) 0 0 127 49 [some (.ref 34), some (.int a1), none] [] (hM 36 s4 τ) r
              exact xv_sub (L' := [some (.ref 34), some (.int a1), none]) ⟨rfl, ⟨rfl, trivial⟩⟩ (g127_49_ok_36 htr d  τ a1 s4 r H)
            · rw [if_neg h15] at H
              refine xp_ok htr 6 (d + 3) 0 0 [eB true] 127 39 [some (.ref 34), some (.int a1), none] [] (hM 36 s4 τ) ⟨(xn_in g1), h15, ?_⟩
              show xv l Ω (d + 3) 0 0 127 53 [some (.ref 34), some (.int a1), none] [] (hM 36 s4 τ) r
              refine xp_ok htr 1 (d + 3) 0 0 [] 127 53 [some (.ref 34), some (.int a1), none] [] (hM 36 s4 τ) ?_
              show xv l Ω (d + 3) 0 0 127 54 [some (.ref 34), some (.int a1), none] [.int 0] (hM 36 s4 τ) r
              exact xv_sub (L' := [some (.ref 34), some (.int a1), none]) ⟨rfl, ⟨rfl, trivial⟩⟩ (g127_54_ok_36 htr d  τ a1 0 s4 r H)
        · rw [q5] at H; exact False.elim H
/- AccessDesk$Judge.weigh -/
def g117_83 (p : Nat) (x1 : Int32) (σ : xS) : Option ((Int32 × xS) ⊕ xQ) := some (Sum.inl ((x1 + (-1)), σ))
def g117_65 (p : Nat) (x1 : Int32) (σ : xS) : Option ((Int32 × xS) ⊕ xQ) := (match g123 p x1 σ with | some (Sum.inl v8, s9) => (match g125 p x1 v8 s9 with | some (Sum.inl v11, s12) => g117_83 p x1 s12 | some (Sum.inr v11, s12) => none | none => none) | some (Sum.inr v8, s9) => none | none => none)
def g117_22b (p : Nat) (x1 : Int32) (σ : xS) : Option ((Int32 × xS) ⊕ xQ) := (if x1 < 0 then some (Sum.inr ((Sum.inl ((σ 48 0) + (10 * (σ 49 0))), σ))) else (match g118 p x1 σ with | some (Sum.inl v3, s4) => (bif xn x1 40 then (if ((xh_ui s4 47 (Int32.toNatClampNeg x1) v3) ((59 - p) + 1) (Int32.toNatClampNeg x1)) = 112 then g117_65 p x1 (xh_ui s4 47 (Int32.toNatClampNeg x1) v3) else (if ((xh_ui s4 47 (Int32.toNatClampNeg x1) v3) ((59 - p) + 1) (Int32.toNatClampNeg x1)) = 100 then g117_65 p x1 (xh_ui s4 47 (Int32.toNatClampNeg x1) v3) else (match g127 p x1 (xh_ui s4 47 (Int32.toNatClampNeg x1) v3) with | some (Sum.inl v15, s16) => g117_83 p x1 s16 | some (Sum.inr v15, s16) => none | none => none))) else none) | some (Sum.inr v3, s4) => none | none => none))
def g117_22 (p : Nat) (x1 : Int32) (σ : xS) : Option xQ := xlo (fun a : Int32 × xS => g117_22b p a.1 a.2) 1000 (x1, σ)
def g117 (p : Nat)  (σ : xS) : xO := (if (σ (59 - p) 7) = 0 then some ((Sum.inl 0, σ)) else g117_22 p ((σ (59 - p) 7) - 1) σ)
def a117_22 (l : Launch) (Ω : xo_O) (d p : Nat) (τ : Nat → Nat → Int64) (r : xv_R) : Int32 × xS → Prop := fun a => xv l Ω (d + 5) 0 0 117 22 [some (.ref 34), some (.int a.1)] [] (hM p a.2 τ) r
theorem g117_83_ok_23 {l : Launch} {Ω : xo_O} (htr : xH l) (d : Nat) (τ : Nat → Nat → Int64) (x1 : Int32) (σ : xS) (r : xv_R) (H : xo (xd (a117_22 l Ω d 23 τ r) (xB false 23 τ r)) (g117_83 23 x1 σ)) : xv l Ω (d + 5) 0 0 117 83 [some (.ref 34), some (.int x1)] [] (hM 23 σ τ) r := by
  unfold g117_83 at H
  refine xp_ok htr 2 (d + 5) 0 0 [] 117 83 [some (.ref 34), some (.int x1)] [] (hM 23 σ τ) ?_
  show xv l Ω (d + 5) 0 0 117 22 [some (.ref 34), some (.int (x1 + (-1)))] [] (hM 23 σ τ) r
  exact xv_sub (L' := [some (.ref 34), some (.int (x1 + (-1)))]) ⟨rfl, ⟨rfl, trivial⟩⟩ H
theorem g117_65_ok_23 {l : Launch} {Ω : xo_O} (htr : xH l) (d : Nat) (τ : Nat → Nat → Int64) (x1 : Int32) (σ : xS) (r : xv_R) (H : xo (xd (a117_22 l Ω d 23 τ r) (xB false 23 τ r)) (g117_65 23 x1 σ)) : xv l Ω (d + 5) 0 0 117 65 [some (.ref 34), some (.int x1)] [] (hM 23 σ τ) r := by
  unfold g117_65 at H
  cases q10 : g123 23 x1 σ with
  | none => rw [q10] at H; exact False.elim H
  | some q100 =>
    obtain ⟨v8 | v8, s9⟩ := q100
    · rw [q10] at H; dsimp only at H
      have hc := g123_run_23 (Ω := Ω) htr d  τ x1 σ q10
      refine xp_ok htr 5 (d + 5) 0 0 [eC (some (.int v8)) (hM 23 s9 τ)] 117 65 [some (.ref 34), some (.int x1)] [] (hM 23 σ τ) ⟨hc, ?_⟩
      show xv l Ω (d + 5) 0 0 117 72 [some (.ref 34), some (.int x1)] [.int v8, .int x1, .ref 34] (hM 23 s9 τ) r
      cases q13 : g125 23 x1 v8 s9 with
      | none => rw [q13] at H; exact False.elim H
      | some q130 =>
        obtain ⟨v11 | v11, s12⟩ := q130
        · rw [q13] at H; dsimp only at H
          have hc := g125_run_23 (Ω := Ω) htr (d + 3)  τ x1 v8 s9 q13
          refine xp_ok htr 1 (d + 5) 0 0 [eC none (hM 23 s12 τ)] 117 72 [some (.ref 34), some (.int x1)] [.int v8, .int x1, .ref 34] (hM 23 s9 τ) ⟨hc, ?_⟩
          show xv l Ω (d + 5) 0 0 117 75 [some (.ref 34), some (.int x1)] [] (hM 23 s12 τ) r
          refine xp_ok htr 1 (d + 5) 0 0 [] 117 75 [some (.ref 34), some (.int x1)] [] (hM 23 s12 τ) ?_
          show xv l Ω (d + 5) 0 0 117 83 [some (.ref 34), some (.int x1)] [] (hM 23 s12 τ) r
          exact xv_sub (L' := [some (.ref 34), some (.int x1)]) ⟨rfl, ⟨rfl, trivial⟩⟩ (g117_83_ok_23 htr d  τ x1 s12 r H)
        · rw [q13] at H; exact False.elim H
    · rw [q10] at H; exact False.elim H
theorem g117_22b_ok_23 {l : Launch} {Ω : xo_O} (htr : xH l) (d : Nat) (τ : Nat → Nat → Int64) (x1 : Int32) (σ : xS) (r : xv_R) (H : xo (xd (a117_22 l Ω d 23 τ r) (xB false 23 τ r)) (g117_22b 23 x1 σ)) : xv l Ω (d + 5) 0 0 117 22 [some (.ref 34), some (.int x1)] [] (hM 23 σ τ) r := by
  unfold g117_22b at H
  by_cases h2 : x1 < 0
  · rw [if_pos h2] at H
    refine xp_ok htr 2 (d + 5) 0 0 [eB true] 117 22 [some (.ref 34), some (.int x1)] [] (hM 23 σ τ) ⟨h2, ?_⟩
    show xv l Ω (d + 5) 0 0 117 89 [some (.ref 34), some (.int x1)] [] (hM 23 σ τ) r
    refine xp_ok htr 8 (d + 5) 0 0 [] 117 89 [some (.ref 34), some (.int x1)] [] (hM 23 σ τ) ⟨(by unfold vp_in; decide), ?_⟩
    show xv l Ω (d + 5) 0 0 117 102 [some (.ref 34), some (.int x1)] [.int 0, .ref 49, .int 10, .int (σ 48 0)] (hM 23 σ τ) r
    exact xp_ok htr 4 (d + 5) 0 0 [] 117 102 [some (.ref 34), some (.int x1)] [.int 0, .ref 49, .int 10, .int (σ 48 0)] (hM 23 σ τ) ⟨(by unfold vp_in; decide), trivial, (Eq.symm H)⟩
  · rw [if_neg h2] at H
    refine xp_ok htr 2 (d + 5) 0 0 [eB false] 117 22 [some (.ref 34), some (.int x1)] [] (hM 23 σ τ) ⟨h2, ?_⟩
    show xv l Ω (d + 5) 0 0 117 26 [some (.ref 34), some (.int x1)] [] (hM 23 σ τ) r
    cases q5 : g118 23 x1 σ with
    | none => rw [q5] at H; exact False.elim H
    | some q50 =>
      obtain ⟨v3 | v3, s4⟩ := q50
      · rw [q5] at H; dsimp only at H
        have hc := g118_run_23 (Ω := Ω) htr (d + 1)  τ x1 σ q5
        refine xp_ok htr 6 (d + 5) 0 0 [eC (some (.int v3)) (hM 23 s4 τ)] 117 26 [some (.ref 34), some (.int x1)] [] (hM 23 σ τ) ⟨hc, ?_⟩
        show xv l Ω (d + 5) 0 0 117 36 [some (.ref 34), some (.int x1)] [.int v3, .int x1, .ref 47] (hM 23 s4 τ) r
        cases g6 : xn x1 40 with
        | false => rw [g6, cond_false] at H; exact False.elim H
        | true =>
          rw [g6, cond_true] at H
          by_cases h7 : ((xh_ui s4 47 (Int32.toNatClampNeg x1) v3) ((59 - 23) + 1) (Int32.toNatClampNeg x1)) = 112
          · rw [if_pos h7] at H
            refine xp_ok htr 8 (d + 5) 0 0 [eB true] 117 36 [some (.ref 34), some (.int x1)] [.int v3, .int x1, .ref 47] (hM 23 s4 τ) ⟨(xn_in g6), (xn_in g6), h7, ?_⟩
            show xv l Ω (d + 5) 0 0 117 65 [some (.ref 34), some (.int x1)] [] (hM 23 (xh_ui s4 47 (Int32.toNatClampNeg x1) v3) τ) r
            exact xv_sub (L' := [some (.ref 34), some (.int x1)]) ⟨rfl, ⟨rfl, trivial⟩⟩ (g117_65_ok_23 htr d  τ x1 (xh_ui s4 47 (Int32.toNatClampNeg x1) v3) r H)
          · rw [if_neg h7] at H
            refine xp_ok htr 8 (d + 5) 0 0 [eB false] 117 36 [some (.ref 34), some (.int x1)] [.int v3, .int x1, .ref 47] (hM 23 s4 τ) ⟨(xn_in g6), (xn_in g6), h7, ?_⟩
            show xv l Ω (d + 5) 0 0 117 51 [some (.ref 34), some (.int x1)] [] (hM 23 (xh_ui s4 47 (Int32.toNatClampNeg x1) v3) τ) r
            by_cases h14 : ((xh_ui s4 47 (Int32.toNatClampNeg x1) v3) ((59 - 23) + 1) (Int32.toNatClampNeg x1)) = 100
            · rw [if_pos h14] at H
              refine xp_ok htr 7 (d + 5) 0 0 [eB false] 117 51 [some (.ref 34), some (.int x1)] [] (hM 23 (xh_ui s4 47 (Int32.toNatClampNeg x1) v3) τ) ⟨(xn_in g6), h14, ?_⟩
              show xv l Ω (d + 5) 0 0 117 65 [some (.ref 34), some (.int x1)] [] (hM 23 (xh_ui s4 47 (Int32.toNatClampNeg x1) v3) τ) r
              exact xv_sub (L' := [some (.ref 34), some (.int x1)]) ⟨rfl, ⟨rfl, trivial⟩⟩ (g117_65_ok_23 htr d  τ x1 (xh_ui s4 47 (Int32.toNatClampNeg x1) v3) r H)
            · rw [if_neg h14] at H
              refine xp_ok htr 7 (d + 5) 0 0 [eB true] 117 51 [some (.ref 34), some (.int x1)] [] (hM 23 (xh_ui s4 47 (Int32.toNatClampNeg x1) v3) τ) ⟨(xn_in g6), h14, ?_⟩
              show xv l Ω (d + 5) 0 0 117 78 [some (.ref 34), some (.int x1)] [] (hM 23 (xh_ui s4 47 (Int32.toNatClampNeg x1) v3) τ) r
              cases q17 : g127 23 x1 (xh_ui s4 47 (Int32.toNatClampNeg x1) v3) with
              | none => rw [q17] at H; exact False.elim H
              | some q170 =>
                obtain ⟨v15 | v15, s16⟩ := q170
                · rw [q17] at H; dsimp only at H
                  have hc := g127_run_23 (Ω := Ω) htr (d + 1)  τ x1 (xh_ui s4 47 (Int32.toNatClampNeg x1) v3) q17
                  refine xp_ok htr 3 (d + 5) 0 0 [eC none (hM 23 s16 τ)] 117 78 [some (.ref 34), some (.int x1)] [] (hM 23 (xh_ui s4 47 (Int32.toNatClampNeg x1) v3) τ) ⟨hc, ?_⟩
                  show xv l Ω (d + 5) 0 0 117 83 [some (.ref 34), some (.int x1)] [] (hM 23 s16 τ) r
                  exact xv_sub (L' := [some (.ref 34), some (.int x1)]) ⟨rfl, ⟨rfl, trivial⟩⟩ (g117_83_ok_23 htr d  τ x1 s16 r H)
                · rw [q17] at H; exact False.elim H
      · rw [q5] at H; exact False.elim H
theorem g117_22_ok_23 {l : Launch} {Ω : xo_O} (htr : xH l) (d : Nat) (τ : Nat → Nat → Int64) (x1 : Int32) (σ : xS) (r : xv_R) (H : xo (xB false 23 τ r) (g117_22 23 x1 σ)) : xv l Ω (d + 5) 0 0 117 22 [some (.ref 34), some (.int x1)] [] (hM 23 σ τ) r :=
  xlo_ok (A := a117_22 l Ω d 23 τ r) (fun a H => g117_22b_ok_23 htr d  τ a.1 a.2 r H) 1000 (x1, σ) H
theorem g117_run_23 {l : Launch} {Ω : xo_O} (htr : xH l) (d : Nat) (τ : Nat → Nat → Int64)  (σ : xS) {q : xQ} (hq : g117 23  σ = some q) : xv l Ω (d + 5) 0 0 117 0 (xs_loc (xm_l 117) [.ref 34]) [] (hM 23 σ τ) (xq_R false 23 τ q) := by
  have H : xo (xB false 23 τ (xq_R false 23 τ q)) (g117 23  σ) := by rw [hq]; exact rfl
  generalize xq_R false 23 τ q = r at H ⊢
  show xv l Ω (d + 5) 0 0 117 0 [some (.ref 34), none] [] (hM 23 σ τ) r
  unfold g117 at H
  by_cases h1 : (σ (59 - 23) 7) = 0
  · rw [if_pos h1] at H
    refine xp_ok htr 4 (d + 5) 0 0 [eB false] 117 0 [some (.ref 34), none] [] (hM 23 σ τ) ⟨h1, ?_⟩
    show xv l Ω (d + 5) 0 0 117 10 [some (.ref 34), none] [] (hM 23 σ τ) r
    exact xp_ok htr 2 (d + 5) 0 0 [] 117 10 [some (.ref 34), none] [] (hM 23 σ τ) ⟨trivial, (Eq.symm H)⟩
  · rw [if_neg h1] at H
    refine xp_ok htr 4 (d + 5) 0 0 [eB true] 117 0 [some (.ref 34), none] [] (hM 23 σ τ) ⟨h1, ?_⟩
    show xv l Ω (d + 5) 0 0 117 12 [some (.ref 34), none] [] (hM 23 σ τ) r
    refine xp_ok htr 6 (d + 5) 0 0 [] 117 12 [some (.ref 34), none] [] (hM 23 σ τ) ?_
    show xv l Ω (d + 5) 0 0 117 22 [some (.ref 34), some (.int ((σ (59 - 23) 7) - 1))] [] (hM 23 σ τ) r
    exact xv_sub (L' := [some (.ref 34), some (.int ((σ (59 - 23) 7) - 1))]) ⟨rfl, ⟨rfl, trivial⟩⟩ (g117_22_ok_23 htr d  τ ((σ (59 - 23) 7) - 1) σ r H)
theorem g117_83_ok_36 {l : Launch} {Ω : xo_O} (htr : xH l) (d : Nat) (τ : Nat → Nat → Int64) (x1 : Int32) (σ : xS) (r : xv_R) (H : xo (xd (a117_22 l Ω d 36 τ r) (xB false 36 τ r)) (g117_83 36 x1 σ)) : xv l Ω (d + 5) 0 0 117 83 [some (.ref 34), some (.int x1)] [] (hM 36 σ τ) r := by
  unfold g117_83 at H
  refine xp_ok htr 2 (d + 5) 0 0 [] 117 83 [some (.ref 34), some (.int x1)] [] (hM 36 σ τ) ?_
  show xv l Ω (d + 5) 0 0 117 22 [some (.ref 34), some (.int (x1 + (-1)))] [] (hM 36 σ τ) r
  exact xv_sub (L' := [some (.ref 34), some (.int (x1 + (-1)))]) ⟨rfl, ⟨rfl, trivial⟩⟩ H
theorem g117_65_ok_36 {l : Launch} {Ω : xo_O} (htr : xH l) (d : Nat) (τ : Nat → Nat → Int64) (x1 : Int32) (σ : xS) (r : xv_R) (H : xo (xd (a117_22 l Ω d 36 τ r) (xB false 36 τ r)) (g117_65 36 x1 σ)) : xv l Ω (d + 5) 0 0 117 65 [some (.ref 34), some (.int x1)] [] (hM 36 σ τ) r := by
  unfold g117_65 at H
  cases q10 : g123 36 x1 σ with
  | none => rw [q10] at H; exact False.elim H
  | some q100 =>
    obtain ⟨v8 | v8, s9⟩ := q100
    · rw [q10] at H; dsimp only at H
      have hc := g123_run_36 (Ω := Ω) htr d  τ x1 σ q10
      refine xp_ok htr 5 (d + 5) 0 0 [eC (some (.int v8)) (hM 36 s9 τ)] 117 65 [some (.ref 34), some (.int x1)] [] (hM 36 σ τ) ⟨hc, ?_⟩
      show xv l Ω (d + 5) 0 0 117 72 [some (.ref 34), some (.int x1)] [.int v8, .int x1, .ref 34] (hM 36 s9 τ) r
      cases q13 : g125 36 x1 v8 s9 with
      | none => rw [q13] at H; exact False.elim H
      | some q130 =>
        obtain ⟨v11 | v11, s12⟩ := q130
        · rw [q13] at H; dsimp only at H
          have hc := g125_run_36 (Ω := Ω) htr (d + 3)  τ x1 v8 s9 q13
          refine xp_ok htr 1 (d + 5) 0 0 [eC none (hM 36 s12 τ)] 117 72 [some (.ref 34), some (.int x1)] [.int v8, .int x1, .ref 34] (hM 36 s9 τ) ⟨hc, ?_⟩
          show xv l Ω (d + 5) 0 0 117 75 [some (.ref 34), some (.int x1)] [] (hM 36 s12 τ) r
          refine xp_ok htr 1 (d + 5) 0 0 [] 117 75 [some (.ref 34), some (.int x1)] [] (hM 36 s12 τ) ?_
          show xv l Ω (d + 5) 0 0 117 83 [some (.ref 34), some (.int x1)] [] (hM 36 s12 τ) r
          exact xv_sub (L' := [some (.ref 34), some (.int x1)]) ⟨rfl, ⟨rfl, trivial⟩⟩ (g117_83_ok_36 htr d  τ x1 s12 r H)
        · rw [q13] at H; exact False.elim H
    · rw [q10] at H; exact False.elim H
theorem g117_22b_ok_36 {l : Launch} {Ω : xo_O} (htr : xH l) (d : Nat) (τ : Nat → Nat → Int64) (x1 : Int32) (σ : xS) (r : xv_R) (H : xo (xd (a117_22 l Ω d 36 τ r) (xB false 36 τ r)) (g117_22b 36 x1 σ)) : xv l Ω (d + 5) 0 0 117 22 [some (.ref 34), some (.int x1)] [] (hM 36 σ τ) r := by
  unfold g117_22b at H
  by_cases h2 : x1 < 0
  · rw [if_pos h2] at H
    refine xp_ok htr 2 (d + 5) 0 0 [eB true] 117 22 [some (.ref 34), some (.int x1)] [] (hM 36 σ τ) ⟨h2, ?_⟩
    show xv l Ω (d + 5) 0 0 117 89 [some (.ref 34), some (.int x1)] [] (hM 36 σ τ) r
    refine xp_ok htr 8 (d + 5) 0 0 [] 117 89 [some (.ref 34), some (.int x1)] [] (hM 36 σ τ) ⟨(by unfold vp_in; decide), ?_⟩
    show xv l Ω (d + 5) 0 0 117 102 [some (.ref 34), some (.int x1)] [.int 0, .ref 49, .int 10, .int (σ 48 0)] (hM 36 σ τ) r
    exact xp_ok htr 4 (d + 5) 0 0 [] 117 102 [some (.ref 34), some (.int x1)] [.int 0, .ref 49, .int 10, .int (σ 48 0)] (hM 36 σ τ) ⟨(by unfold vp_in; decide), trivial, (Eq.symm H)⟩
  · rw [if_neg h2] at H
    refine xp_ok htr 2 (d + 5) 0 0 [eB false] 117 22 [some (.ref 34), some (.int x1)] [] (hM 36 σ τ) ⟨h2, ?_⟩
    show xv l Ω (d + 5) 0 0 117 26 [some (.ref 34), some (.int x1)] [] (hM 36 σ τ) r
    cases q5 : g118 36 x1 σ with
    | none => rw [q5] at H; exact False.elim H
    | some q50 =>
      obtain ⟨v3 | v3, s4⟩ := q50
      · rw [q5] at H; dsimp only at H
        have hc := g118_run_36 (Ω := Ω) htr (d + 1)  τ x1 σ q5
        refine xp_ok htr 6 (d + 5) 0 0 [eC (some (.int v3)) (hM 36 s4 τ)] 117 26 [some (.ref 34), some (.int x1)] [] (hM 36 σ τ) ⟨hc, ?_⟩
        show xv l Ω (d + 5) 0 0 117 36 [some (.ref 34), some (.int x1)] [.int v3, .int x1, .ref 47] (hM 36 s4 τ) r
        cases g6 : xn x1 40 with
        | false => rw [g6, cond_false] at H; exact False.elim H
        | true =>
          rw [g6, cond_true] at H
          by_cases h7 : ((xh_ui s4 47 (Int32.toNatClampNeg x1) v3) ((59 - 36) + 1) (Int32.toNatClampNeg x1)) = 112
          · rw [if_pos h7] at H
            refine xp_ok htr 8 (d + 5) 0 0 [eB true] 117 36 [some (.ref 34), some (.int x1)] [.int v3, .int x1, .ref 47] (hM 36 s4 τ) ⟨(xn_in g6), (xn_in g6), h7, ?_⟩
            show xv l Ω (d + 5) 0 0 117 65 [some (.ref 34), some (.int x1)] [] (hM 36 (xh_ui s4 47 (Int32.toNatClampNeg x1) v3) τ) r
            exact xv_sub (L' := [some (.ref 34), some (.int x1)]) ⟨rfl, ⟨rfl, trivial⟩⟩ (g117_65_ok_36 htr d  τ x1 (xh_ui s4 47 (Int32.toNatClampNeg x1) v3) r H)
          · rw [if_neg h7] at H
            refine xp_ok htr 8 (d + 5) 0 0 [eB false] 117 36 [some (.ref 34), some (.int x1)] [.int v3, .int x1, .ref 47] (hM 36 s4 τ) ⟨(xn_in g6), (xn_in g6), h7, ?_⟩
            show xv l Ω (d + 5) 0 0 117 51 [some (.ref 34), some (.int x1)] [] (hM 36 (xh_ui s4 47 (Int32.toNatClampNeg x1) v3) τ) r
            by_cases h14 : ((xh_ui s4 47 (Int32.toNatClampNeg x1) v3) ((59 - 36) + 1) (Int32.toNatClampNeg x1)) = 100
            · rw [if_pos h14] at H
              refine xp_ok htr 7 (d + 5) 0 0 [eB false] 117 51 [some (.ref 34), some (.int x1)] [] (hM 36 (xh_ui s4 47 (Int32.toNatClampNeg x1) v3) τ) ⟨(xn_in g6), h14, ?_⟩
              show xv l Ω (d + 5) 0 0 117 65 [some (.ref 34), some (.int x1)] [] (hM 36 (xh_ui s4 47 (Int32.toNatClampNeg x1) v3) τ) r
              exact xv_sub (L' := [some (.ref 34), some (.int x1)]) ⟨rfl, ⟨rfl, trivial⟩⟩ (g117_65_ok_36 htr d  τ x1 (xh_ui s4 47 (Int32.toNatClampNeg x1) v3) r H)
            · rw [if_neg h14] at H
              refine xp_ok htr 7 (d + 5) 0 0 [eB true] 117 51 [some (.ref 34), some (.int x1)] [] (hM 36 (xh_ui s4 47 (Int32.toNatClampNeg x1) v3) τ) ⟨(xn_in g6), h14, ?_⟩
              show xv l Ω (d + 5) 0 0 117 78 [some (.ref 34), some (.int x1)] [] (hM 36 (xh_ui s4 47 (Int32.toNatClampNeg x1) v3) τ) r
              cases q17 : g127 36 x1 (xh_ui s4 47 (Int32.toNatClampNeg x1) v3) with
              | none => rw [q17] at H; exact False.elim H
              | some q170 =>
                obtain ⟨v15 | v15, s16⟩ := q170
                · rw [q17] at H; dsimp only at H
                  have hc := g127_run_36 (Ω := Ω) htr (d + 1)  τ x1 (xh_ui s4 47 (Int32.toNatClampNeg x1) v3) q17
                  refine xp_ok htr 3 (d + 5) 0 0 [eC none (hM 36 s16 τ)] 117 78 [some (.ref 34), some (.int x1)] [] (hM 36 (xh_ui s4 47 (Int32.toNatClampNeg x1) v3) τ) ⟨hc, ?_⟩
                  show xv l Ω (d + 5) 0 0 117 83 [some (.ref 34), some (.int x1)] [] (hM 36 s16 τ) r
                  exact xv_sub (L' := [some (.ref 34), some (.int x1)]) ⟨rfl, ⟨rfl, trivial⟩⟩ (g117_83_ok_36 htr d  τ x1 s16 r H)
                · rw [q17] at H; exact False.elim H
      · rw [q5] at H; exact False.elim H
theorem g117_22_ok_36 {l : Launch} {Ω : xo_O} (htr : xH l) (d : Nat) (τ : Nat → Nat → Int64) (x1 : Int32) (σ : xS) (r : xv_R) (H : xo (xB false 36 τ r) (g117_22 36 x1 σ)) : xv l Ω (d + 5) 0 0 117 22 [some (.ref 34), some (.int x1)] [] (hM 36 σ τ) r :=
  xlo_ok (A := a117_22 l Ω d 36 τ r) (fun a H => g117_22b_ok_36 htr d  τ a.1 a.2 r H) 1000 (x1, σ) H
theorem g117_run_36 {l : Launch} {Ω : xo_O} (htr : xH l) (d : Nat) (τ : Nat → Nat → Int64)  (σ : xS) {q : xQ} (hq : g117 36  σ = some q) : xv l Ω (d + 5) 0 0 117 0 (xs_loc (xm_l 117) [.ref 34]) [] (hM 36 σ τ) (xq_R false 36 τ q) := by
  have H : xo (xB false 36 τ (xq_R false 36 τ q)) (g117 36  σ) := by rw [hq]; exact rfl
  generalize xq_R false 36 τ q = r at H ⊢
  show xv l Ω (d + 5) 0 0 117 0 [some (.ref 34), none] [] (hM 36 σ τ) r
  unfold g117 at H
  by_cases h1 : (σ (59 - 36) 7) = 0
  · rw [if_pos h1] at H
    refine xp_ok htr 4 (d + 5) 0 0 [eB false] 117 0 [some (.ref 34), none] [] (hM 36 σ τ) ⟨h1, ?_⟩
    show xv l Ω (d + 5) 0 0 117 10 [some (.ref 34), none] [] (hM 36 σ τ) r
    exact xp_ok htr 2 (d + 5) 0 0 [] 117 10 [some (.ref 34), none] [] (hM 36 σ τ) ⟨trivial, (Eq.symm H)⟩
  · rw [if_neg h1] at H
    refine xp_ok htr 4 (d + 5) 0 0 [eB true] 117 0 [some (.ref 34), none] [] (hM 36 σ τ) ⟨h1, ?_⟩
    show xv l Ω (d + 5) 0 0 117 12 [some (.ref 34), none] [] (hM 36 σ τ) r
    refine xp_ok htr 6 (d + 5) 0 0 [] 117 12 [some (.ref 34), none] [] (hM 36 σ τ) ?_
    show xv l Ω (d + 5) 0 0 117 22 [some (.ref 34), some (.int ((σ (59 - 36) 7) - 1))] [] (hM 36 σ τ) r
    exact xv_sub (L' := [some (.ref 34), some (.int ((σ (59 - 36) 7) - 1))]) ⟨rfl, ⟨rfl, trivial⟩⟩ (g117_22_ok_36 htr d  τ ((σ (59 - 36) 7) - 1) σ r H)
/- AccessDesk.verdict -/
def g113 (p : Nat) (a1 : Int32) (a2 : Int32) (a3 : Int32) (a4 : Int32) (σ : xS) : xO := (bif xn a1 6 then (match g114 a2 a4 σ with | some (Sum.inl v2, s3) => (bif xn a3 16 then (match g115 (s3 16 (Int32.toNatClampNeg a3)) (s3 17 (Int32.toNatClampNeg a3)) (s3 18 (Int32.toNatClampNeg a3)) s3 with | some (Sum.inl v6, s7) => (bif xn (σ 8 (Int32.toNatClampNeg a1)) 8 then (match g36 a1 s7 with | some (Sum.inl v10, s11) => (match g116 (σ 8 (Int32.toNatClampNeg a1)) (s7 5 (Int32.toNatClampNeg (σ 8 (Int32.toNatClampNeg a1)))) (s7 6 (Int32.toNatClampNeg (σ 8 (Int32.toNatClampNeg a1)))) v10 s11 with | some (Sum.inl v13, s14) => (match g117 p s14 with | some (Sum.inl v16, s17) => some ((Sum.inl v16, s17)) | some (Sum.inr v16, s17) => none | none => none) | some (Sum.inr v13, s14) => none | none => none) | some (Sum.inr v10, s11) => none | none => none) else none) | some (Sum.inr v6, s7) => none | none => none) else none) | some (Sum.inr v2, s3) => none | none => none) else none)
theorem g113_run_23 {l : Launch} {Ω : xo_O} (htr : xH l) (d : Nat) (τ : Nat → Nat → Int64) (a1 : Int32) (a2 : Int32) (a3 : Int32) (a4 : Int32) (σ : xS) {q : xQ} (hq : g113 23 a1 a2 a3 a4 σ = some q) : xv l Ω (d + 6) 0 0 113 0 (xs_loc (xm_l 113) [.ref 0, .int a1, .int a2, .int a3, .int a4]) [] (hM 23 σ τ) (xq_R false 23 τ q) := by
  have H : xo (xB false 23 τ (xq_R false 23 τ q)) (g113 23 a1 a2 a3 a4 σ) := by rw [hq]; exact rfl
  generalize xq_R false 23 τ q = r at H ⊢
  show xv l Ω (d + 6) 0 0 113 0 [some (.ref 0), some (.int a1), some (.int a2), some (.int a3), some (.int a4), none] [] (hM 23 σ τ) r
  unfold g113 at H
  cases g1 : xn a1 6 with
  | false => rw [g1, cond_false] at H; exact False.elim H
  | true =>
    rw [g1, cond_true] at H
    refine xp_ok htr 8 (d + 6) 0 0 [] 113 0 [some (.ref 0), some (.int a1), some (.int a2), some (.int a3), some (.int a4), none] [] (hM 23 σ τ) ⟨(xn_in g1), ?_⟩
    show xv l Ω (d + 6) 0 0 113 15 [some (.ref 0), some (.int a1), some (.int a2), some (.int a3), some (.int a4), some (.int (σ 8 (Int32.toNatClampNeg a1)))] [.ref 34] (hM 23 σ τ) r
    cases q4 : g114 a2 a4 σ with
    | none => rw [q4] at H; exact False.elim H
    | some q40 =>
      obtain ⟨v2 | v2, s3⟩ := q40
      · rw [q4] at H; dsimp only at H
        have hc := g114_run (Ω := Ω) htr (d + 5) 23 τ a2 a4 σ q4
        refine xp_ok htr 4 (d + 6) 0 0 [eC none (hM 23 s3 τ)] 113 15 [some (.ref 0), some (.int a1), some (.int a2), some (.int a3), some (.int a4), some (.int (σ 8 (Int32.toNatClampNeg a1)))] [.ref 34] (hM 23 σ τ) ⟨hc, ?_⟩
        show xv l Ω (d + 6) 0 0 113 24 [some (.ref 0), some (.int a1), some (.int a2), some (.int a3), some (.int a4), some (.int (σ 8 (Int32.toNatClampNeg a1)))] [] (hM 23 s3 τ) r
        cases g5 : xn a3 16 with
        | false => rw [g5, cond_false] at H; exact False.elim H
        | true =>
          rw [g5, cond_true] at H
          refine xp_ok htr 8 (d + 6) 0 0 [] 113 24 [some (.ref 0), some (.int a1), some (.int a2), some (.int a3), some (.int a4), some (.int (σ 8 (Int32.toNatClampNeg a1)))] [] (hM 23 s3 τ) ⟨(xn_in g5), ?_⟩
          show xv l Ω (d + 6) 0 0 113 40 [some (.ref 0), some (.int a1), some (.int a2), some (.int a3), some (.int a4), some (.int (σ 8 (Int32.toNatClampNeg a1)))] [.int (s3 16 (Int32.toNatClampNeg a3)), .ref 35] (hM 23 s3 τ) r
          refine xp_ok htr 8 (d + 6) 0 0 [] 113 40 [some (.ref 0), some (.int a1), some (.int a2), some (.int a3), some (.int a4), some (.int (σ 8 (Int32.toNatClampNeg a1)))] [.int (s3 16 (Int32.toNatClampNeg a3)), .ref 35] (hM 23 s3 τ) ⟨(xn_in g5), ?_⟩
          show xv l Ω (d + 6) 0 0 113 56 [some (.ref 0), some (.int a1), some (.int a2), some (.int a3), some (.int a4), some (.int (σ 8 (Int32.toNatClampNeg a1)))] [.ref 18, .int (s3 17 (Int32.toNatClampNeg a3)), .int (s3 16 (Int32.toNatClampNeg a3)), .ref 35] (hM 23 s3 τ) r
          cases q8 : g115 (s3 16 (Int32.toNatClampNeg a3)) (s3 17 (Int32.toNatClampNeg a3)) (s3 18 (Int32.toNatClampNeg a3)) s3 with
          | none => rw [q8] at H; exact False.elim H
          | some q80 =>
            obtain ⟨v6 | v6, s7⟩ := q80
            · rw [q8] at H; dsimp only at H
              have hc := g115_run (Ω := Ω) htr (d + 5) 23 τ (s3 16 (Int32.toNatClampNeg a3)) (s3 17 (Int32.toNatClampNeg a3)) (s3 18 (Int32.toNatClampNeg a3)) s3 q8
              refine xp_ok htr 3 (d + 6) 0 0 [eC none (hM 23 s7 τ)] 113 56 [some (.ref 0), some (.int a1), some (.int a2), some (.int a3), some (.int a4), some (.int (σ 8 (Int32.toNatClampNeg a1)))] [.ref 18, .int (s3 17 (Int32.toNatClampNeg a3)), .int (s3 16 (Int32.toNatClampNeg a3)), .ref 35] (hM 23 s3 τ) ⟨(xn_in g5), hc, ?_⟩
              show xv l Ω (d + 6) 0 0 113 61 [some (.ref 0), some (.int a1), some (.int a2), some (.int a3), some (.int a4), some (.int (σ 8 (Int32.toNatClampNeg a1)))] [] (hM 23 s7 τ) r
              refine xp_ok htr 8 (d + 6) 0 0 [] 113 61 [some (.ref 0), some (.int a1), some (.int a2), some (.int a3), some (.int a4), some (.int (σ 8 (Int32.toNatClampNeg a1)))] [] (hM 23 s7 τ) ?_
              show xv l Ω (d + 6) 0 0 113 79 [some (.ref 0), some (.int a1), some (.int a2), some (.int a3), some (.int a4), some (.int (σ 8 (Int32.toNatClampNeg a1)))] [.int (σ 8 (Int32.toNatClampNeg a1)), .ref 5, .int (σ 8 (Int32.toNatClampNeg a1)), .ref 35] (hM 23 s7 τ) r
              cases g9 : xn (σ 8 (Int32.toNatClampNeg a1)) 8 with
              | false => rw [g9, cond_false] at H; exact False.elim H
              | true =>
                rw [g9, cond_true] at H
                refine xp_ok htr 8 (d + 6) 0 0 [] 113 79 [some (.ref 0), some (.int a1), some (.int a2), some (.int a3), some (.int a4), some (.int (σ 8 (Int32.toNatClampNeg a1)))] [.int (σ 8 (Int32.toNatClampNeg a1)), .ref 5, .int (σ 8 (Int32.toNatClampNeg a1)), .ref 35] (hM 23 s7 τ) ⟨(xn_in g9), (xn_in g9), ?_⟩
                show xv l Ω (d + 6) 0 0 113 92 [some (.ref 0), some (.int a1), some (.int a2), some (.int a3), some (.int a4), some (.int (σ 8 (Int32.toNatClampNeg a1)))] [.int a1, .ref 0, .int (s7 6 (Int32.toNatClampNeg (σ 8 (Int32.toNatClampNeg a1)))), .int (s7 5 (Int32.toNatClampNeg (σ 8 (Int32.toNatClampNeg a1)))), .int (σ 8 (Int32.toNatClampNeg a1)), .ref 35] (hM 23 s7 τ) r
                cases q12 : g36 a1 s7 with
                | none => rw [q12] at H; exact False.elim H
                | some q120 =>
                  obtain ⟨v10 | v10, s11⟩ := q120
                  · rw [q12] at H; dsimp only at H
                    have hc := g36_run (Ω := Ω) htr (d + 3) 23 τ a1 s7 q12
                    refine xp_ok htr 1 (d + 6) 0 0 [eC (some (.int v10)) (hM 23 s11 τ)] 113 92 [some (.ref 0), some (.int a1), some (.int a2), some (.int a3), some (.int a4), some (.int (σ 8 (Int32.toNatClampNeg a1)))] [.int a1, .ref 0, .int (s7 6 (Int32.toNatClampNeg (σ 8 (Int32.toNatClampNeg a1)))), .int (s7 5 (Int32.toNatClampNeg (σ 8 (Int32.toNatClampNeg a1)))), .int (σ 8 (Int32.toNatClampNeg a1)), .ref 35] (hM 23 s7 τ) ⟨hc, ?_⟩
                    show xv l Ω (d + 6) 0 0 113 95 [some (.ref 0), some (.int a1), some (.int a2), some (.int a3), some (.int a4), some (.int (σ 8 (Int32.toNatClampNeg a1)))] [.int v10, .int (s7 6 (Int32.toNatClampNeg (σ 8 (Int32.toNatClampNeg a1)))), .int (s7 5 (Int32.toNatClampNeg (σ 8 (Int32.toNatClampNeg a1)))), .int (σ 8 (Int32.toNatClampNeg a1)), .ref 35] (hM 23 s11 τ) r
                    cases q15 : g116 (σ 8 (Int32.toNatClampNeg a1)) (s7 5 (Int32.toNatClampNeg (σ 8 (Int32.toNatClampNeg a1)))) (s7 6 (Int32.toNatClampNeg (σ 8 (Int32.toNatClampNeg a1)))) v10 s11 with
                    | none => rw [q15] at H; exact False.elim H
                    | some q150 =>
                      obtain ⟨v13 | v13, s14⟩ := q150
                      · rw [q15] at H; dsimp only at H
                        have hc := g116_run (Ω := Ω) htr (d + 5) 23 τ (σ 8 (Int32.toNatClampNeg a1)) (s7 5 (Int32.toNatClampNeg (σ 8 (Int32.toNatClampNeg a1)))) (s7 6 (Int32.toNatClampNeg (σ 8 (Int32.toNatClampNeg a1)))) v10 s11 q15
                        refine xp_ok htr 1 (d + 6) 0 0 [eC none (hM 23 s14 τ)] 113 95 [some (.ref 0), some (.int a1), some (.int a2), some (.int a3), some (.int a4), some (.int (σ 8 (Int32.toNatClampNeg a1)))] [.int v10, .int (s7 6 (Int32.toNatClampNeg (σ 8 (Int32.toNatClampNeg a1)))), .int (s7 5 (Int32.toNatClampNeg (σ 8 (Int32.toNatClampNeg a1)))), .int (σ 8 (Int32.toNatClampNeg a1)), .ref 35] (hM 23 s11 τ) ⟨hc, ?_⟩
                        show xv l Ω (d + 6) 0 0 113 98 [some (.ref 0), some (.int a1), some (.int a2), some (.int a3), some (.int a4), some (.int (σ 8 (Int32.toNatClampNeg a1)))] [] (hM 23 s14 τ) r
                        cases q18 : g117 23 s14 with
                        | none => rw [q18] at H; exact False.elim H
                        | some q180 =>
                          obtain ⟨v16 | v16, s17⟩ := q180
                          · rw [q18] at H; dsimp only at H
                            have hc := g117_run_23 (Ω := Ω) htr d  τ  s14 q18
                            refine xp_ok htr 3 (d + 6) 0 0 [eC (some (.int v16)) (hM 23 s17 τ)] 113 98 [some (.ref 0), some (.int a1), some (.int a2), some (.int a3), some (.int a4), some (.int (σ 8 (Int32.toNatClampNeg a1)))] [] (hM 23 s14 τ) ⟨hc, ?_⟩
                            show xv l Ω (d + 6) 0 0 113 105 [some (.ref 0), some (.int a1), some (.int a2), some (.int a3), some (.int a4), some (.int (σ 8 (Int32.toNatClampNeg a1)))] [.int v16] (hM 23 s17 τ) r
                            exact xp_ok htr 1 (d + 6) 0 0 [] 113 105 [some (.ref 0), some (.int a1), some (.int a2), some (.int a3), some (.int a4), some (.int (σ 8 (Int32.toNatClampNeg a1)))] [.int v16] (hM 23 s17 τ) ⟨trivial, (Eq.symm H)⟩
                          · rw [q18] at H; exact False.elim H
                      · rw [q15] at H; exact False.elim H
                  · rw [q12] at H; exact False.elim H
            · rw [q8] at H; exact False.elim H
      · rw [q4] at H; exact False.elim H
theorem g113_run_36 {l : Launch} {Ω : xo_O} (htr : xH l) (d : Nat) (τ : Nat → Nat → Int64) (a1 : Int32) (a2 : Int32) (a3 : Int32) (a4 : Int32) (σ : xS) {q : xQ} (hq : g113 36 a1 a2 a3 a4 σ = some q) : xv l Ω (d + 6) 0 0 113 0 (xs_loc (xm_l 113) [.ref 0, .int a1, .int a2, .int a3, .int a4]) [] (hM 36 σ τ) (xq_R false 36 τ q) := by
  have H : xo (xB false 36 τ (xq_R false 36 τ q)) (g113 36 a1 a2 a3 a4 σ) := by rw [hq]; exact rfl
  generalize xq_R false 36 τ q = r at H ⊢
  show xv l Ω (d + 6) 0 0 113 0 [some (.ref 0), some (.int a1), some (.int a2), some (.int a3), some (.int a4), none] [] (hM 36 σ τ) r
  unfold g113 at H
  cases g1 : xn a1 6 with
  | false => rw [g1, cond_false] at H; exact False.elim H
  | true =>
    rw [g1, cond_true] at H
    refine xp_ok htr 8 (d + 6) 0 0 [] 113 0 [some (.ref 0), some (.int a1), some (.int a2), some (.int a3), some (.int a4), none] [] (hM 36 σ τ) ⟨(xn_in g1), ?_⟩
    show xv l Ω (d + 6) 0 0 113 15 [some (.ref 0), some (.int a1), some (.int a2), some (.int a3), some (.int a4), some (.int (σ 8 (Int32.toNatClampNeg a1)))] [.ref 34] (hM 36 σ τ) r
    cases q4 : g114 a2 a4 σ with
    | none => rw [q4] at H; exact False.elim H
    | some q40 =>
      obtain ⟨v2 | v2, s3⟩ := q40
      · rw [q4] at H; dsimp only at H
        have hc := g114_run (Ω := Ω) htr (d + 5) 36 τ a2 a4 σ q4
        refine xp_ok htr 4 (d + 6) 0 0 [eC none (hM 36 s3 τ)] 113 15 [some (.ref 0), some (.int a1), some (.int a2), some (.int a3), some (.int a4), some (.int (σ 8 (Int32.toNatClampNeg a1)))] [.ref 34] (hM 36 σ τ) ⟨hc, ?_⟩
        show xv l Ω (d + 6) 0 0 113 24 [some (.ref 0), some (.int a1), some (.int a2), some (.int a3), some (.int a4), some (.int (σ 8 (Int32.toNatClampNeg a1)))] [] (hM 36 s3 τ) r
        cases g5 : xn a3 16 with
        | false => rw [g5, cond_false] at H; exact False.elim H
        | true =>
          rw [g5, cond_true] at H
          refine xp_ok htr 8 (d + 6) 0 0 [] 113 24 [some (.ref 0), some (.int a1), some (.int a2), some (.int a3), some (.int a4), some (.int (σ 8 (Int32.toNatClampNeg a1)))] [] (hM 36 s3 τ) ⟨(xn_in g5), ?_⟩
          show xv l Ω (d + 6) 0 0 113 40 [some (.ref 0), some (.int a1), some (.int a2), some (.int a3), some (.int a4), some (.int (σ 8 (Int32.toNatClampNeg a1)))] [.int (s3 16 (Int32.toNatClampNeg a3)), .ref 35] (hM 36 s3 τ) r
          refine xp_ok htr 8 (d + 6) 0 0 [] 113 40 [some (.ref 0), some (.int a1), some (.int a2), some (.int a3), some (.int a4), some (.int (σ 8 (Int32.toNatClampNeg a1)))] [.int (s3 16 (Int32.toNatClampNeg a3)), .ref 35] (hM 36 s3 τ) ⟨(xn_in g5), ?_⟩
          show xv l Ω (d + 6) 0 0 113 56 [some (.ref 0), some (.int a1), some (.int a2), some (.int a3), some (.int a4), some (.int (σ 8 (Int32.toNatClampNeg a1)))] [.ref 18, .int (s3 17 (Int32.toNatClampNeg a3)), .int (s3 16 (Int32.toNatClampNeg a3)), .ref 35] (hM 36 s3 τ) r
          cases q8 : g115 (s3 16 (Int32.toNatClampNeg a3)) (s3 17 (Int32.toNatClampNeg a3)) (s3 18 (Int32.toNatClampNeg a3)) s3 with
          | none => rw [q8] at H; exact False.elim H
          | some q80 =>
            obtain ⟨v6 | v6, s7⟩ := q80
            · rw [q8] at H; dsimp only at H
              have hc := g115_run (Ω := Ω) htr (d + 5) 36 τ (s3 16 (Int32.toNatClampNeg a3)) (s3 17 (Int32.toNatClampNeg a3)) (s3 18 (Int32.toNatClampNeg a3)) s3 q8
              refine xp_ok htr 3 (d + 6) 0 0 [eC none (hM 36 s7 τ)] 113 56 [some (.ref 0), some (.int a1), some (.int a2), some (.int a3), some (.int a4), some (.int (σ 8 (Int32.toNatClampNeg a1)))] [.ref 18, .int (s3 17 (Int32.toNatClampNeg a3)), .int (s3 16 (Int32.toNatClampNeg a3)), .ref 35] (hM 36 s3 τ) ⟨(xn_in g5), hc, ?_⟩
              show xv l Ω (d + 6) 0 0 113 61 [some (.ref 0), some (.int a1), some (.int a2), some (.int a3), some (.int a4), some (.int (σ 8 (Int32.toNatClampNeg a1)))] [] (hM 36 s7 τ) r
              refine xp_ok htr 8 (d + 6) 0 0 [] 113 61 [some (.ref 0), some (.int a1), some (.int a2), some (.int a3), some (.int a4), some (.int (σ 8 (Int32.toNatClampNeg a1)))] [] (hM 36 s7 τ) ?_
              show xv l Ω (d + 6) 0 0 113 79 [some (.ref 0), some (.int a1), some (.int a2), some (.int a3), some (.int a4), some (.int (σ 8 (Int32.toNatClampNeg a1)))] [.int (σ 8 (Int32.toNatClampNeg a1)), .ref 5, .int (σ 8 (Int32.toNatClampNeg a1)), .ref 35] (hM 36 s7 τ) r
              cases g9 : xn (σ 8 (Int32.toNatClampNeg a1)) 8 with
              | false => rw [g9, cond_false] at H; exact False.elim H
              | true =>
                rw [g9, cond_true] at H
                refine xp_ok htr 8 (d + 6) 0 0 [] 113 79 [some (.ref 0), some (.int a1), some (.int a2), some (.int a3), some (.int a4), some (.int (σ 8 (Int32.toNatClampNeg a1)))] [.int (σ 8 (Int32.toNatClampNeg a1)), .ref 5, .int (σ 8 (Int32.toNatClampNeg a1)), .ref 35] (hM 36 s7 τ) ⟨(xn_in g9), (xn_in g9), ?_⟩
                show xv l Ω (d + 6) 0 0 113 92 [some (.ref 0), some (.int a1), some (.int a2), some (.int a3), some (.int a4), some (.int (σ 8 (Int32.toNatClampNeg a1)))] [.int a1, .ref 0, .int (s7 6 (Int32.toNatClampNeg (σ 8 (Int32.toNatClampNeg a1)))), .int (s7 5 (Int32.toNatClampNeg (σ 8 (Int32.toNatClampNeg a1)))), .int (σ 8 (Int32.toNatClampNeg a1)), .ref 35] (hM 36 s7 τ) r
                cases q12 : g36 a1 s7 with
                | none => rw [q12] at H; exact False.elim H
                | some q120 =>
                  obtain ⟨v10 | v10, s11⟩ := q120
                  · rw [q12] at H; dsimp only at H
                    have hc := g36_run (Ω := Ω) htr (d + 3) 36 τ a1 s7 q12
                    refine xp_ok htr 1 (d + 6) 0 0 [eC (some (.int v10)) (hM 36 s11 τ)] 113 92 [some (.ref 0), some (.int a1), some (.int a2), some (.int a3), some (.int a4), some (.int (σ 8 (Int32.toNatClampNeg a1)))] [.int a1, .ref 0, .int (s7 6 (Int32.toNatClampNeg (σ 8 (Int32.toNatClampNeg a1)))), .int (s7 5 (Int32.toNatClampNeg (σ 8 (Int32.toNatClampNeg a1)))), .int (σ 8 (Int32.toNatClampNeg a1)), .ref 35] (hM 36 s7 τ) ⟨hc, ?_⟩
                    show xv l Ω (d + 6) 0 0 113 95 [some (.ref 0), some (.int a1), some (.int a2), some (.int a3), some (.int a4), some (.int (σ 8 (Int32.toNatClampNeg a1)))] [.int v10, .int (s7 6 (Int32.toNatClampNeg (σ 8 (Int32.toNatClampNeg a1)))), .int (s7 5 (Int32.toNatClampNeg (σ 8 (Int32.toNatClampNeg a1)))), .int (σ 8 (Int32.toNatClampNeg a1)), .ref 35] (hM 36 s11 τ) r
                    cases q15 : g116 (σ 8 (Int32.toNatClampNeg a1)) (s7 5 (Int32.toNatClampNeg (σ 8 (Int32.toNatClampNeg a1)))) (s7 6 (Int32.toNatClampNeg (σ 8 (Int32.toNatClampNeg a1)))) v10 s11 with
                    | none => rw [q15] at H; exact False.elim H
                    | some q150 =>
                      obtain ⟨v13 | v13, s14⟩ := q150
                      · rw [q15] at H; dsimp only at H
                        have hc := g116_run (Ω := Ω) htr (d + 5) 36 τ (σ 8 (Int32.toNatClampNeg a1)) (s7 5 (Int32.toNatClampNeg (σ 8 (Int32.toNatClampNeg a1)))) (s7 6 (Int32.toNatClampNeg (σ 8 (Int32.toNatClampNeg a1)))) v10 s11 q15
                        refine xp_ok htr 1 (d + 6) 0 0 [eC none (hM 36 s14 τ)] 113 95 [some (.ref 0), some (.int a1), some (.int a2), some (.int a3), some (.int a4), some (.int (σ 8 (Int32.toNatClampNeg a1)))] [.int v10, .int (s7 6 (Int32.toNatClampNeg (σ 8 (Int32.toNatClampNeg a1)))), .int (s7 5 (Int32.toNatClampNeg (σ 8 (Int32.toNatClampNeg a1)))), .int (σ 8 (Int32.toNatClampNeg a1)), .ref 35] (hM 36 s11 τ) ⟨hc, ?_⟩
                        show xv l Ω (d + 6) 0 0 113 98 [some (.ref 0), some (.int a1), some (.int a2), some (.int a3), some (.int a4), some (.int (σ 8 (Int32.toNatClampNeg a1)))] [] (hM 36 s14 τ) r
                        cases q18 : g117 36 s14 with
                        | none => rw [q18] at H; exact False.elim H
                        | some q180 =>
                          obtain ⟨v16 | v16, s17⟩ := q180
                          · rw [q18] at H; dsimp only at H
                            have hc := g117_run_36 (Ω := Ω) htr d  τ  s14 q18
                            refine xp_ok htr 3 (d + 6) 0 0 [eC (some (.int v16)) (hM 36 s17 τ)] 113 98 [some (.ref 0), some (.int a1), some (.int a2), some (.int a3), some (.int a4), some (.int (σ 8 (Int32.toNatClampNeg a1)))] [] (hM 36 s14 τ) ⟨hc, ?_⟩
                            show xv l Ω (d + 6) 0 0 113 105 [some (.ref 0), some (.int a1), some (.int a2), some (.int a3), some (.int a4), some (.int (σ 8 (Int32.toNatClampNeg a1)))] [.int v16] (hM 36 s17 τ) r
                            exact xp_ok htr 1 (d + 6) 0 0 [] 113 105 [some (.ref 0), some (.int a1), some (.int a2), some (.int a3), some (.int a4), some (.int (σ 8 (Int32.toNatClampNeg a1)))] [.int v16] (hM 36 s17 τ) ⟨trivial, (Eq.symm H)⟩
                          · rw [q18] at H; exact False.elim H
                      · rw [q15] at H; exact False.elim H
                  · rw [q12] at H; exact False.elim H
            · rw [q8] at H; exact False.elim H
      · rw [q4] at H; exact False.elim H
/- AccessDesk.decide -/
def g112_46 (p : Nat) (x1 : Int32) (x2 : Int32) (x3 : Int32) (x4 : Int32) (k0 : Int32) (σ : xS) : Option xQ := (match g26 k0 σ with | some (Sum.inl v12, s13) => (match g44 x1 s13 with | some (Sum.inl v15, s16) => (match g31 v15 s16 with | some (Sum.inl v18, s19) => (match g113 p x1 x2 x3 x4 s19 with | some (Sum.inl v21, s22) => some ((Sum.inl v21, s22)) | some (Sum.inr v21, s22) => none | none => none) | some (Sum.inr v18, s19) => some ((Sum.inr v18, s19)) | none => none) | some (Sum.inr v15, s16) => none | none => none) | some (Sum.inr v12, s13) => some ((Sum.inr v12, s13)) | none => none)
def g112_45 (p : Nat) (x1 : Int32) (x2 : Int32) (x3 : Int32) (x4 : Int32) (σ : xS) : Option xQ := g112_46 p x1 x2 x3 x4 0 σ
def g112_21 (p : Nat) (x1 : Int32) (x2 : Int32) (x3 : Int32) (x4 : Int32) (k0 : Int32) (σ : xS) : Option xQ := (match g26 k0 σ with | some (Sum.inl v5, s6) => (match g80 x3 s6 with | some (Sum.inl v8, s9) => (if v8 = 0 then g112_45 p x1 x2 x3 x4 s9 else (match g25 x4 24 s9 with | some (Sum.inl v24, s25) => (if v24 = 0 then g112_45 p x1 x2 x3 x4 s25 else g112_46 p x1 x2 x3 x4 1 s25) | some (Sum.inr v24, s25) => none | none => none)) | some (Sum.inr v8, s9) => none | none => none) | some (Sum.inr v5, s6) => some ((Sum.inr v5, s6)) | none => none)
def g112_20 (p : Nat) (x1 : Int32) (x2 : Int32) (x3 : Int32) (x4 : Int32) (σ : xS) : Option xQ := g112_21 p x1 x2 x3 x4 0 σ
def g112 (p : Nat) (a1 : Int32) (a2 : Int32) (a3 : Int32) (a4 : Int32) (σ : xS) : xO := (match g63 a1 σ with | some (Sum.inl v1, s2) => (if v1 = 0 then g112_20 p a1 a2 a3 a4 s2 else (match g25 a2 10 s2 with | some (Sum.inl v28, s29) => (if v28 = 0 then g112_20 p a1 a2 a3 a4 s29 else g112_21 p a1 a2 a3 a4 1 s29) | some (Sum.inr v28, s29) => none | none => none)) | some (Sum.inr v1, s2) => none | none => none)
theorem g112_46_ok_23 {l : Launch} {Ω : xo_O} (htr : xH l) (d : Nat) (τ : Nat → Nat → Int64) (x1 : Int32) (x2 : Int32) (x3 : Int32) (x4 : Int32) (k0 : Int32) (σ : xS) (r : xv_R) (H : xo (xB false 23 τ r) (g112_46 23 x1 x2 x3 x4 k0 σ)) : xv l Ω (d + 7) 2 12 112 46 [some (.ref 0), some (.int x1), some (.int x2), some (.int x3), some (.int x4)] [.int k0] (hM 23 σ τ) r := by
  unfold g112_46 at H
  cases q14 : g26 k0 σ with
  | none => rw [q14] at H; exact False.elim H
  | some q140 =>
    obtain ⟨v12 | v12, s13⟩ := q140
    · rw [q14] at H; dsimp only at H
      have hc := g26_run (Ω := Ω) htr d 23 τ k0 σ q14
      refine xp_ok htr 1 (d + 7) 2 12 [eN none (hM 23 s13 τ) 1 6] 112 46 [some (.ref 0), some (.int x1), some (.int x2), some (.int x3), some (.int x4)] [.int k0] (hM 23 σ τ) ⟨hc, ?_⟩
      show xv l Ω (d + 7) 1 6 112 49 [some (.ref 0), some (.int x1), some (.int x2), some (.int x3), some (.int x4)] [] (hM 23 s13 τ) r
      cases q17 : g44 x1 s13 with
      | none => rw [q17] at H; exact False.elim H
      | some q170 =>
        obtain ⟨v15 | v15, s16⟩ := q170
        · rw [q17] at H; dsimp only at H
          have hc := g44_run (Ω := Ω) htr (d + 6) 23 τ x1 s13 q17
          refine xp_ok htr 4 (d + 7) 1 6 [eC (some (.int v15)) (hM 23 s16 τ)] 112 49 [some (.ref 0), some (.int x1), some (.int x2), some (.int x3), some (.int x4)] [] (hM 23 s13 τ) ⟨hc, ?_⟩
          show xv l Ω (d + 7) 1 6 112 57 [some (.ref 0), some (.int x1), some (.int x2), some (.int x3), some (.int x4)] [.int v15] (hM 23 s16 τ) r
          cases q20 : g31 v15 s16 with
          | none => rw [q20] at H; exact False.elim H
          | some q200 =>
            obtain ⟨v18 | v18, s19⟩ := q200
            · rw [q20] at H; dsimp only at H
              have hc := g31_run (Ω := Ω) htr d 23 τ v15 s16 q20
              refine xp_ok htr 1 (d + 7) 1 6 [eN none (hM 23 s19 τ) 1 6] 112 57 [some (.ref 0), some (.int x1), some (.int x2), some (.int x3), some (.int x4)] [.int v15] (hM 23 s16 τ) ⟨hc, ?_⟩
              show xv l Ω (d + 7) 0 0 112 60 [some (.ref 0), some (.int x1), some (.int x2), some (.int x3), some (.int x4)] [] (hM 23 s19 τ) r
              cases q23 : g113 23 x1 x2 x3 x4 s19 with
              | none => rw [q23] at H; exact False.elim H
              | some q230 =>
                obtain ⟨v21 | v21, s22⟩ := q230
                · rw [q23] at H; dsimp only at H
                  have hc := g113_run_23 (Ω := Ω) htr d  τ x1 x2 x3 x4 s19 q23
                  refine xp_ok htr 6 (d + 7) 0 0 [eC (some (.int v21)) (hM 23 s22 τ)] 112 60 [some (.ref 0), some (.int x1), some (.int x2), some (.int x3), some (.int x4)] [] (hM 23 s19 τ) ⟨hc, ?_⟩
                  show xv l Ω (d + 7) 0 0 112 69 [some (.ref 0), some (.int x1), some (.int x2), some (.int x3), some (.int x4)] [.int v21] (hM 23 s22 τ) r
                  exact xp_ok htr 1 (d + 7) 0 0 [] 112 69 [some (.ref 0), some (.int x1), some (.int x2), some (.int x3), some (.int x4)] [.int v21] (hM 23 s22 τ) ⟨trivial, (Eq.symm H)⟩
                · rw [q23] at H; exact False.elim H
            · rw [q20] at H; dsimp only at H
              have hc := g31_run (Ω := Ω) htr d 23 τ v15 s16 q20
              exact xp_ok htr 1 (d + 7) 1 6 [eT v18 (hM 23 s19 τ) 1 6] 112 57 [some (.ref 0), some (.int x1), some (.int x2), some (.int x3), some (.int x4)] [.int v15] (hM 23 s16 τ) ⟨hc, (Eq.symm H)⟩
        · rw [q17] at H; exact False.elim H
    · rw [q14] at H; dsimp only at H
      have hc := g26_run (Ω := Ω) htr d 23 τ k0 σ q14
      exact xp_ok htr 1 (d + 7) 2 12 [eT v12 (hM 23 s13 τ) 1 6] 112 46 [some (.ref 0), some (.int x1), some (.int x2), some (.int x3), some (.int x4)] [.int k0] (hM 23 σ τ) ⟨hc, (Eq.symm H)⟩
theorem g112_45_ok_23 {l : Launch} {Ω : xo_O} (htr : xH l) (d : Nat) (τ : Nat → Nat → Int64) (x1 : Int32) (x2 : Int32) (x3 : Int32) (x4 : Int32) (σ : xS) (r : xv_R) (H : xo (xB false 23 τ r) (g112_45 23 x1 x2 x3 x4 σ)) : xv l Ω (d + 7) 2 12 112 45 [some (.ref 0), some (.int x1), some (.int x2), some (.int x3), some (.int x4)] [] (hM 23 σ τ) r := by
  unfold g112_45 at H
  refine xp_ok htr 1 (d + 7) 2 12 [] 112 45 [some (.ref 0), some (.int x1), some (.int x2), some (.int x3), some (.int x4)] [] (hM 23 σ τ) ?_
  show xv l Ω (d + 7) 2 12 112 46 [some (.ref 0), some (.int x1), some (.int x2), some (.int x3), some (.int x4)] [.int 0] (hM 23 σ τ) r
  exact xv_sub (L' := [some (.ref 0), some (.int x1), some (.int x2), some (.int x3), some (.int x4)]) ⟨rfl, ⟨rfl, ⟨rfl, ⟨rfl, ⟨rfl, trivial⟩⟩⟩⟩⟩ (g112_46_ok_23 htr d  τ x1 x2 x3 x4 0 σ r H)
theorem g112_21_ok_23 {l : Launch} {Ω : xo_O} (htr : xH l) (d : Nat) (τ : Nat → Nat → Int64) (x1 : Int32) (x2 : Int32) (x3 : Int32) (x4 : Int32) (k0 : Int32) (σ : xS) (r : xv_R) (H : xo (xB false 23 τ r) (g112_21 23 x1 x2 x3 x4 k0 σ)) : xv l Ω (d + 7) 3 18 112 21 [some (.ref 0), some (.int x1), some (.int x2), some (.int x3), some (.int x4)] [.int k0] (hM 23 σ τ) r := by
  unfold g112_21 at H
  cases q7 : g26 k0 σ with
  | none => rw [q7] at H; exact False.elim H
  | some q70 =>
    obtain ⟨v5 | v5, s6⟩ := q70
    · rw [q7] at H; dsimp only at H
      have hc := g26_run (Ω := Ω) htr d 23 τ k0 σ q7
      refine xp_ok htr 1 (d + 7) 3 18 [eN none (hM 23 s6 τ) 1 6] 112 21 [some (.ref 0), some (.int x1), some (.int x2), some (.int x3), some (.int x4)] [.int k0] (hM 23 σ τ) ⟨hc, ?_⟩
      show xv l Ω (d + 7) 2 12 112 24 [some (.ref 0), some (.int x1), some (.int x2), some (.int x3), some (.int x4)] [] (hM 23 s6 τ) r
      cases q10 : g80 x3 s6 with
      | none => rw [q10] at H; exact False.elim H
      | some q100 =>
        obtain ⟨v8 | v8, s9⟩ := q100
        · rw [q10] at H; dsimp only at H
          have hc := g80_run (Ω := Ω) htr (d + 5) 23 τ x3 s6 q10
          refine xp_ok htr 2 (d + 7) 2 12 [eC (some (.int v8)) (hM 23 s9 τ)] 112 24 [some (.ref 0), some (.int x1), some (.int x2), some (.int x3), some (.int x4)] [] (hM 23 s6 τ) ⟨hc, ?_⟩
          show xv l Ω (d + 7) 2 12 112 28 [some (.ref 0), some (.int x1), some (.int x2), some (.int x3), some (.int x4)] [.int v8] (hM 23 s9 τ) r
          by_cases h11 : v8 = 0
          · rw [if_pos h11] at H
            refine xp_ok htr 1 (d + 7) 2 12 [eB true] 112 28 [some (.ref 0), some (.int x1), some (.int x2), some (.int x3), some (.int x4)] [.int v8] (hM 23 s9 τ) ⟨h11, ?_⟩
            show xv l Ω (d + 7) 2 12 112 45 [some (.ref 0), some (.int x1), some (.int x2), some (.int x3), some (.int x4)] [] (hM 23 s9 τ) r
            exact xv_sub (L' := [some (.ref 0), some (.int x1), some (.int x2), some (.int x3), some (.int x4)]) ⟨rfl, ⟨rfl, ⟨rfl, ⟨rfl, ⟨rfl, trivial⟩⟩⟩⟩⟩ (g112_45_ok_23 htr d  τ x1 x2 x3 x4 s9 r H)
          · rw [if_neg h11] at H
            refine xp_ok htr 1 (d + 7) 2 12 [eB false] 112 28 [some (.ref 0), some (.int x1), some (.int x2), some (.int x3), some (.int x4)] [.int v8] (hM 23 s9 τ) ⟨h11, ?_⟩
            show xv l Ω (d + 7) 2 12 112 31 [some (.ref 0), some (.int x1), some (.int x2), some (.int x3), some (.int x4)] [] (hM 23 s9 τ) r
            cases q26 : g25 x4 24 s9 with
            | none => rw [q26] at H; exact False.elim H
            | some q260 =>
              obtain ⟨v24 | v24, s25⟩ := q260
              · rw [q26] at H; dsimp only at H
                have hc := g25_run (Ω := Ω) htr (d + 6) 23 τ x4 24 s9 q26
                refine xp_ok htr 3 (d + 7) 2 12 [eC (some (.int v24)) (hM 23 s25 τ)] 112 31 [some (.ref 0), some (.int x1), some (.int x2), some (.int x3), some (.int x4)] [] (hM 23 s9 τ) ⟨hc, ?_⟩
                show xv l Ω (d + 7) 2 12 112 38 [some (.ref 0), some (.int x1), some (.int x2), some (.int x3), some (.int x4)] [.int v24] (hM 23 s25 τ) r
                by_cases h27 : v24 = 0
                · rw [if_pos h27] at H
                  refine xp_ok htr 1 (d + 7) 2 12 [eB true] 112 38 [some (.ref 0), some (.int x1), some (.int x2), some (.int x3), some (.int x4)] [.int v24] (hM 23 s25 τ) ⟨h27, ?_⟩
                  show xv l Ω (d + 7) 2 12 112 45 [some (.ref 0), some (.int x1), some (.int x2), some (.int x3), some (.int x4)] [] (hM 23 s25 τ) r
                  exact xv_sub (L' := [some (.ref 0), some (.int x1), some (.int x2), some (.int x3), some (.int x4)]) ⟨rfl, ⟨rfl, ⟨rfl, ⟨rfl, ⟨rfl, trivial⟩⟩⟩⟩⟩ (g112_45_ok_23 htr d  τ x1 x2 x3 x4 s25 r H)
                · rw [if_neg h27] at H
                  refine xp_ok htr 1 (d + 7) 2 12 [eB false] 112 38 [some (.ref 0), some (.int x1), some (.int x2), some (.int x3), some (.int x4)] [.int v24] (hM 23 s25 τ) ⟨h27, ?_⟩
                  show xv l Ω (d + 7) 2 12 112 41 [some (.ref 0), some (.int x1), some (.int x2), some (.int x3), some (.int x4)] [] (hM 23 s25 τ) r
                  refine xp_ok htr 2 (d + 7) 2 12 [] 112 41 [some (.ref 0), some (.int x1), some (.int x2), some (.int x3), some (.int x4)] [] (hM 23 s25 τ) ?_
                  show xv l Ω (d + 7) 2 12 112 46 [some (.ref 0), some (.int x1), some (.int x2), some (.int x3), some (.int x4)] [.int 1] (hM 23 s25 τ) r
                  exact xv_sub (L' := [some (.ref 0), some (.int x1), some (.int x2), some (.int x3), some (.int x4)]) ⟨rfl, ⟨rfl, ⟨rfl, ⟨rfl, ⟨rfl, trivial⟩⟩⟩⟩⟩ (g112_46_ok_23 htr d  τ x1 x2 x3 x4 1 s25 r H)
              · rw [q26] at H; exact False.elim H
        · rw [q10] at H; exact False.elim H
    · rw [q7] at H; dsimp only at H
      have hc := g26_run (Ω := Ω) htr d 23 τ k0 σ q7
      exact xp_ok htr 1 (d + 7) 3 18 [eT v5 (hM 23 s6 τ) 1 6] 112 21 [some (.ref 0), some (.int x1), some (.int x2), some (.int x3), some (.int x4)] [.int k0] (hM 23 σ τ) ⟨hc, (Eq.symm H)⟩
theorem g112_20_ok_23 {l : Launch} {Ω : xo_O} (htr : xH l) (d : Nat) (τ : Nat → Nat → Int64) (x1 : Int32) (x2 : Int32) (x3 : Int32) (x4 : Int32) (σ : xS) (r : xv_R) (H : xo (xB false 23 τ r) (g112_20 23 x1 x2 x3 x4 σ)) : xv l Ω (d + 7) 3 18 112 20 [some (.ref 0), some (.int x1), some (.int x2), some (.int x3), some (.int x4)] [] (hM 23 σ τ) r := by
  unfold g112_20 at H
  refine xp_ok htr 1 (d + 7) 3 18 [] 112 20 [some (.ref 0), some (.int x1), some (.int x2), some (.int x3), some (.int x4)] [] (hM 23 σ τ) ?_
  show xv l Ω (d + 7) 3 18 112 21 [some (.ref 0), some (.int x1), some (.int x2), some (.int x3), some (.int x4)] [.int 0] (hM 23 σ τ) r
  exact xv_sub (L' := [some (.ref 0), some (.int x1), some (.int x2), some (.int x3), some (.int x4)]) ⟨rfl, ⟨rfl, ⟨rfl, ⟨rfl, ⟨rfl, trivial⟩⟩⟩⟩⟩ (g112_21_ok_23 htr d  τ x1 x2 x3 x4 0 σ r H)
theorem g112_run_23 {l : Launch} {Ω : xo_O} (htr : xH l) (d : Nat) (τ : Nat → Nat → Int64) (a1 : Int32) (a2 : Int32) (a3 : Int32) (a4 : Int32) (σ : xS) {q : xQ} (hq : g112 23 a1 a2 a3 a4 σ = some q) : xv l Ω (d + 7) 3 18 112 0 (xs_loc (xm_l 112) [.ref 0, .int a1, .int a2, .int a3, .int a4]) [] (hM 23 σ τ) (xq_R false 23 τ q) := by
  have H : xo (xB false 23 τ (xq_R false 23 τ q)) (g112 23 a1 a2 a3 a4 σ) := by rw [hq]; exact rfl
  generalize xq_R false 23 τ q = r at H ⊢
  show xv l Ω (d + 7) 3 18 112 0 [some (.ref 0), some (.int a1), some (.int a2), some (.int a3), some (.int a4)] [] (hM 23 σ τ) r
  unfold g112 at H
  cases q3 : g63 a1 σ with
  | none => rw [q3] at H; exact False.elim H
  | some q30 =>
    obtain ⟨v1 | v1, s2⟩ := q30
    · rw [q3] at H; dsimp only at H
      have hc := g63_run (Ω := Ω) htr (d + 5) 23 τ a1 σ q3
      refine xp_ok htr 2 (d + 7) 3 18 [eC (some (.int v1)) (hM 23 s2 τ)] 112 0 [some (.ref 0), some (.int a1), some (.int a2), some (.int a3), some (.int a4)] [] (hM 23 σ τ) ⟨hc, ?_⟩
      show xv l Ω (d + 7) 3 18 112 4 [some (.ref 0), some (.int a1), some (.int a2), some (.int a3), some (.int a4)] [.int v1] (hM 23 s2 τ) r
      by_cases h4 : v1 = 0
      · rw [if_pos h4] at H
        refine xp_ok htr 1 (d + 7) 3 18 [eB true] 112 4 [some (.ref 0), some (.int a1), some (.int a2), some (.int a3), some (.int a4)] [.int v1] (hM 23 s2 τ) ⟨h4, ?_⟩
        show xv l Ω (d + 7) 3 18 112 20 [some (.ref 0), some (.int a1), some (.int a2), some (.int a3), some (.int a4)] [] (hM 23 s2 τ) r
        exact xv_sub (L' := [some (.ref 0), some (.int a1), some (.int a2), some (.int a3), some (.int a4)]) ⟨rfl, ⟨rfl, ⟨rfl, ⟨rfl, ⟨rfl, trivial⟩⟩⟩⟩⟩ (g112_20_ok_23 htr d  τ a1 a2 a3 a4 s2 r H)
      · rw [if_neg h4] at H
        refine xp_ok htr 1 (d + 7) 3 18 [eB false] 112 4 [some (.ref 0), some (.int a1), some (.int a2), some (.int a3), some (.int a4)] [.int v1] (hM 23 s2 τ) ⟨h4, ?_⟩
        show xv l Ω (d + 7) 3 18 112 7 [some (.ref 0), some (.int a1), some (.int a2), some (.int a3), some (.int a4)] [] (hM 23 s2 τ) r
        cases q30 : g25 a2 10 s2 with
        | none => rw [q30] at H; exact False.elim H
        | some q300 =>
          obtain ⟨v28 | v28, s29⟩ := q300
          · rw [q30] at H; dsimp only at H
            have hc := g25_run (Ω := Ω) htr (d + 6) 23 τ a2 10 s2 q30
            refine xp_ok htr 3 (d + 7) 3 18 [eC (some (.int v28)) (hM 23 s29 τ)] 112 7 [some (.ref 0), some (.int a1), some (.int a2), some (.int a3), some (.int a4)] [] (hM 23 s2 τ) ⟨hc, ?_⟩
            show xv l Ω (d + 7) 3 18 112 13 [some (.ref 0), some (.int a1), some (.int a2), some (.int a3), some (.int a4)] [.int v28] (hM 23 s29 τ) r
            by_cases h31 : v28 = 0
            · rw [if_pos h31] at H
              refine xp_ok htr 1 (d + 7) 3 18 [eB true] 112 13 [some (.ref 0), some (.int a1), some (.int a2), some (.int a3), some (.int a4)] [.int v28] (hM 23 s29 τ) ⟨h31, ?_⟩
              show xv l Ω (d + 7) 3 18 112 20 [some (.ref 0), some (.int a1), some (.int a2), some (.int a3), some (.int a4)] [] (hM 23 s29 τ) r
              exact xv_sub (L' := [some (.ref 0), some (.int a1), some (.int a2), some (.int a3), some (.int a4)]) ⟨rfl, ⟨rfl, ⟨rfl, ⟨rfl, ⟨rfl, trivial⟩⟩⟩⟩⟩ (g112_20_ok_23 htr d  τ a1 a2 a3 a4 s29 r H)
            · rw [if_neg h31] at H
              refine xp_ok htr 1 (d + 7) 3 18 [eB false] 112 13 [some (.ref 0), some (.int a1), some (.int a2), some (.int a3), some (.int a4)] [.int v28] (hM 23 s29 τ) ⟨h31, ?_⟩
              show xv l Ω (d + 7) 3 18 112 16 [some (.ref 0), some (.int a1), some (.int a2), some (.int a3), some (.int a4)] [] (hM 23 s29 τ) r
              refine xp_ok htr 2 (d + 7) 3 18 [] 112 16 [some (.ref 0), some (.int a1), some (.int a2), some (.int a3), some (.int a4)] [] (hM 23 s29 τ) ?_
              show xv l Ω (d + 7) 3 18 112 21 [some (.ref 0), some (.int a1), some (.int a2), some (.int a3), some (.int a4)] [.int 1] (hM 23 s29 τ) r
              exact xv_sub (L' := [some (.ref 0), some (.int a1), some (.int a2), some (.int a3), some (.int a4)]) ⟨rfl, ⟨rfl, ⟨rfl, ⟨rfl, ⟨rfl, trivial⟩⟩⟩⟩⟩ (g112_21_ok_23 htr d  τ a1 a2 a3 a4 1 s29 r H)
          · rw [q30] at H; exact False.elim H
    · rw [q3] at H; exact False.elim H
theorem g112_46_ok_36 {l : Launch} {Ω : xo_O} (htr : xH l) (d : Nat) (τ : Nat → Nat → Int64) (x1 : Int32) (x2 : Int32) (x3 : Int32) (x4 : Int32) (k0 : Int32) (σ : xS) (r : xv_R) (H : xo (xB false 36 τ r) (g112_46 36 x1 x2 x3 x4 k0 σ)) : xv l Ω (d + 7) 2 12 112 46 [some (.ref 0), some (.int x1), some (.int x2), some (.int x3), some (.int x4)] [.int k0] (hM 36 σ τ) r := by
  unfold g112_46 at H
  cases q14 : g26 k0 σ with
  | none => rw [q14] at H; exact False.elim H
  | some q140 =>
    obtain ⟨v12 | v12, s13⟩ := q140
    · rw [q14] at H; dsimp only at H
      have hc := g26_run (Ω := Ω) htr d 36 τ k0 σ q14
      refine xp_ok htr 1 (d + 7) 2 12 [eN none (hM 36 s13 τ) 1 6] 112 46 [some (.ref 0), some (.int x1), some (.int x2), some (.int x3), some (.int x4)] [.int k0] (hM 36 σ τ) ⟨hc, ?_⟩
      show xv l Ω (d + 7) 1 6 112 49 [some (.ref 0), some (.int x1), some (.int x2), some (.int x3), some (.int x4)] [] (hM 36 s13 τ) r
      cases q17 : g44 x1 s13 with
      | none => rw [q17] at H; exact False.elim H
      | some q170 =>
        obtain ⟨v15 | v15, s16⟩ := q170
        · rw [q17] at H; dsimp only at H
          have hc := g44_run (Ω := Ω) htr (d + 6) 36 τ x1 s13 q17
          refine xp_ok htr 4 (d + 7) 1 6 [eC (some (.int v15)) (hM 36 s16 τ)] 112 49 [some (.ref 0), some (.int x1), some (.int x2), some (.int x3), some (.int x4)] [] (hM 36 s13 τ) ⟨hc, ?_⟩
          show xv l Ω (d + 7) 1 6 112 57 [some (.ref 0), some (.int x1), some (.int x2), some (.int x3), some (.int x4)] [.int v15] (hM 36 s16 τ) r
          cases q20 : g31 v15 s16 with
          | none => rw [q20] at H; exact False.elim H
          | some q200 =>
            obtain ⟨v18 | v18, s19⟩ := q200
            · rw [q20] at H; dsimp only at H
              have hc := g31_run (Ω := Ω) htr d 36 τ v15 s16 q20
              refine xp_ok htr 1 (d + 7) 1 6 [eN none (hM 36 s19 τ) 1 6] 112 57 [some (.ref 0), some (.int x1), some (.int x2), some (.int x3), some (.int x4)] [.int v15] (hM 36 s16 τ) ⟨hc, ?_⟩
              show xv l Ω (d + 7) 0 0 112 60 [some (.ref 0), some (.int x1), some (.int x2), some (.int x3), some (.int x4)] [] (hM 36 s19 τ) r
              cases q23 : g113 36 x1 x2 x3 x4 s19 with
              | none => rw [q23] at H; exact False.elim H
              | some q230 =>
                obtain ⟨v21 | v21, s22⟩ := q230
                · rw [q23] at H; dsimp only at H
                  have hc := g113_run_36 (Ω := Ω) htr d  τ x1 x2 x3 x4 s19 q23
                  refine xp_ok htr 6 (d + 7) 0 0 [eC (some (.int v21)) (hM 36 s22 τ)] 112 60 [some (.ref 0), some (.int x1), some (.int x2), some (.int x3), some (.int x4)] [] (hM 36 s19 τ) ⟨hc, ?_⟩
                  show xv l Ω (d + 7) 0 0 112 69 [some (.ref 0), some (.int x1), some (.int x2), some (.int x3), some (.int x4)] [.int v21] (hM 36 s22 τ) r
                  exact xp_ok htr 1 (d + 7) 0 0 [] 112 69 [some (.ref 0), some (.int x1), some (.int x2), some (.int x3), some (.int x4)] [.int v21] (hM 36 s22 τ) ⟨trivial, (Eq.symm H)⟩
                · rw [q23] at H; exact False.elim H
            · rw [q20] at H; dsimp only at H
              have hc := g31_run (Ω := Ω) htr d 36 τ v15 s16 q20
              exact xp_ok htr 1 (d + 7) 1 6 [eT v18 (hM 36 s19 τ) 1 6] 112 57 [some (.ref 0), some (.int x1), some (.int x2), some (.int x3), some (.int x4)] [.int v15] (hM 36 s16 τ) ⟨hc, (Eq.symm H)⟩
        · rw [q17] at H; exact False.elim H
    · rw [q14] at H; dsimp only at H
      have hc := g26_run (Ω := Ω) htr d 36 τ k0 σ q14
      exact xp_ok htr 1 (d + 7) 2 12 [eT v12 (hM 36 s13 τ) 1 6] 112 46 [some (.ref 0), some (.int x1), some (.int x2), some (.int x3), some (.int x4)] [.int k0] (hM 36 σ τ) ⟨hc, (Eq.symm H)⟩
theorem g112_45_ok_36 {l : Launch} {Ω : xo_O} (htr : xH l) (d : Nat) (τ : Nat → Nat → Int64) (x1 : Int32) (x2 : Int32) (x3 : Int32) (x4 : Int32) (σ : xS) (r : xv_R) (H : xo (xB false 36 τ r) (g112_45 36 x1 x2 x3 x4 σ)) : xv l Ω (d + 7) 2 12 112 45 [some (.ref 0), some (.int x1), some (.int x2), some (.int x3), some (.int x4)] [] (hM 36 σ τ) r := by
  unfold g112_45 at H
  refine xp_ok htr 1 (d + 7) 2 12 [] 112 45 [some (.ref 0), some (.int x1), some (.int x2), some (.int x3), some (.int x4)] [] (hM 36 σ τ) ?_
  show xv l Ω (d + 7) 2 12 112 46 [some (.ref 0), some (.int x1), some (.int x2), some (.int x3), some (.int x4)] [.int 0] (hM 36 σ τ) r
  exact xv_sub (L' := [some (.ref 0), some (.int x1), some (.int x2), some (.int x3), some (.int x4)]) ⟨rfl, ⟨rfl, ⟨rfl, ⟨rfl, ⟨rfl, trivial⟩⟩⟩⟩⟩ (g112_46_ok_36 htr d  τ x1 x2 x3 x4 0 σ r H)
theorem g112_21_ok_36 {l : Launch} {Ω : xo_O} (htr : xH l) (d : Nat) (τ : Nat → Nat → Int64) (x1 : Int32) (x2 : Int32) (x3 : Int32) (x4 : Int32) (k0 : Int32) (σ : xS) (r : xv_R) (H : xo (xB false 36 τ r) (g112_21 36 x1 x2 x3 x4 k0 σ)) : xv l Ω (d + 7) 3 18 112 21 [some (.ref 0), some (.int x1), some (.int x2), some (.int x3), some (.int x4)] [.int k0] (hM 36 σ τ) r := by
  unfold g112_21 at H
  cases q7 : g26 k0 σ with
  | none => rw [q7] at H; exact False.elim H
  | some q70 =>
    obtain ⟨v5 | v5, s6⟩ := q70
    · rw [q7] at H; dsimp only at H
      have hc := g26_run (Ω := Ω) htr d 36 τ k0 σ q7
      refine xp_ok htr 1 (d + 7) 3 18 [eN none (hM 36 s6 τ) 1 6] 112 21 [some (.ref 0), some (.int x1), some (.int x2), some (.int x3), some (.int x4)] [.int k0] (hM 36 σ τ) ⟨hc, ?_⟩
      show xv l Ω (d + 7) 2 12 112 24 [some (.ref 0), some (.int x1), some (.int x2), some (.int x3), some (.int x4)] [] (hM 36 s6 τ) r
      cases q10 : g80 x3 s6 with
      | none => rw [q10] at H; exact False.elim H
      | some q100 =>
        obtain ⟨v8 | v8, s9⟩ := q100
        · rw [q10] at H; dsimp only at H
          have hc := g80_run (Ω := Ω) htr (d + 5) 36 τ x3 s6 q10
          refine xp_ok htr 2 (d + 7) 2 12 [eC (some (.int v8)) (hM 36 s9 τ)] 112 24 [some (.ref 0), some (.int x1), some (.int x2), some (.int x3), some (.int x4)] [] (hM 36 s6 τ) ⟨hc, ?_⟩
          show xv l Ω (d + 7) 2 12 112 28 [some (.ref 0), some (.int x1), some (.int x2), some (.int x3), some (.int x4)] [.int v8] (hM 36 s9 τ) r
          by_cases h11 : v8 = 0
          · rw [if_pos h11] at H
            refine xp_ok htr 1 (d + 7) 2 12 [eB true] 112 28 [some (.ref 0), some (.int x1), some (.int x2), some (.int x3), some (.int x4)] [.int v8] (hM 36 s9 τ) ⟨h11, ?_⟩
            show xv l Ω (d + 7) 2 12 112 45 [some (.ref 0), some (.int x1), some (.int x2), some (.int x3), some (.int x4)] [] (hM 36 s9 τ) r
            exact xv_sub (L' := [some (.ref 0), some (.int x1), some (.int x2), some (.int x3), some (.int x4)]) ⟨rfl, ⟨rfl, ⟨rfl, ⟨rfl, ⟨rfl, trivial⟩⟩⟩⟩⟩ (g112_45_ok_36 htr d  τ x1 x2 x3 x4 s9 r H)
          · rw [if_neg h11] at H
            refine xp_ok htr 1 (d + 7) 2 12 [eB false] 112 28 [some (.ref 0), some (.int x1), some (.int x2), some (.int x3), some (.int x4)] [.int v8] (hM 36 s9 τ) ⟨h11, ?_⟩
            show xv l Ω (d + 7) 2 12 112 31 [some (.ref 0), some (.int x1), some (.int x2), some (.int x3), some (.int x4)] [] (hM 36 s9 τ) r
            cases q26 : g25 x4 24 s9 with
            | none => rw [q26] at H; exact False.elim H
            | some q260 =>
              obtain ⟨v24 | v24, s25⟩ := q260
              · rw [q26] at H; dsimp only at H
                have hc := g25_run (Ω := Ω) htr (d + 6) 36 τ x4 24 s9 q26
                refine xp_ok htr 3 (d + 7) 2 12 [eC (some (.int v24)) (hM 36 s25 τ)] 112 31 [some (.ref 0), some (.int x1), some (.int x2), some (.int x3), some (.int x4)] [] (hM 36 s9 τ) ⟨hc, ?_⟩
                show xv l Ω (d + 7) 2 12 112 38 [some (.ref 0), some (.int x1), some (.int x2), some (.int x3), some (.int x4)] [.int v24] (hM 36 s25 τ) r
                by_cases h27 : v24 = 0
                · rw [if_pos h27] at H
                  refine xp_ok htr 1 (d + 7) 2 12 [eB true] 112 38 [some (.ref 0), some (.int x1), some (.int x2), some (.int x3), some (.int x4)] [.int v24] (hM 36 s25 τ) ⟨h27, ?_⟩
                  show xv l Ω (d + 7) 2 12 112 45 [some (.ref 0), some (.int x1), some (.int x2), some (.int x3), some (.int x4)] [] (hM 36 s25 τ) r
                  exact xv_sub (L' := [some (.ref 0), some (.int x1), some (.int x2), some (.int x3), some (.int x4)]) ⟨rfl, ⟨rfl, ⟨rfl, ⟨rfl, ⟨rfl, trivial⟩⟩⟩⟩⟩ (g112_45_ok_36 htr d  τ x1 x2 x3 x4 s25 r H)
                · rw [if_neg h27] at H
                  refine xp_ok htr 1 (d + 7) 2 12 [eB false] 112 38 [some (.ref 0), some (.int x1), some (.int x2), some (.int x3), some (.int x4)] [.int v24] (hM 36 s25 τ) ⟨h27, ?_⟩
                  show xv l Ω (d + 7) 2 12 112 41 [some (.ref 0), some (.int x1), some (.int x2), some (.int x3), some (.int x4)] [] (hM 36 s25 τ) r
                  refine xp_ok htr 2 (d + 7) 2 12 [] 112 41 [some (.ref 0), some (.int x1), some (.int x2), some (.int x3), some (.int x4)] [] (hM 36 s25 τ) ?_
                  show xv l Ω (d + 7) 2 12 112 46 [some (.ref 0), some (.int x1), some (.int x2), some (.int x3), some (.int x4)] [.int 1] (hM 36 s25 τ) r
                  exact xv_sub (L' := [some (.ref 0), some (.int x1), some (.int x2), some (.int x3), some (.int x4)]) ⟨rfl, ⟨rfl, ⟨rfl, ⟨rfl, ⟨rfl, trivial⟩⟩⟩⟩⟩ (g112_46_ok_36 htr d  τ x1 x2 x3 x4 1 s25 r H)
              · rw [q26] at H; exact False.elim H
        · rw [q10] at H; exact False.elim H
    · rw [q7] at H; dsimp only at H
      have hc := g26_run (Ω := Ω) htr d 36 τ k0 σ q7
      exact xp_ok htr 1 (d + 7) 3 18 [eT v5 (hM 36 s6 τ) 1 6] 112 21 [some (.ref 0), some (.int x1), some (.int x2), some (.int x3), some (.int x4)] [.int k0] (hM 36 σ τ) ⟨hc, (Eq.symm H)⟩
theorem g112_20_ok_36 {l : Launch} {Ω : xo_O} (htr : xH l) (d : Nat) (τ : Nat → Nat → Int64) (x1 : Int32) (x2 : Int32) (x3 : Int32) (x4 : Int32) (σ : xS) (r : xv_R) (H : xo (xB false 36 τ r) (g112_20 36 x1 x2 x3 x4 σ)) : xv l Ω (d + 7) 3 18 112 20 [some (.ref 0), some (.int x1), some (.int x2), some (.int x3), some (.int x4)] [] (hM 36 σ τ) r := by
  unfold g112_20 at H
  refine xp_ok htr 1 (d + 7) 3 18 [] 112 20 [some (.ref 0), some (.int x1), some (.int x2), some (.int x3), some (.int x4)] [] (hM 36 σ τ) ?_
  show xv l Ω (d + 7) 3 18 112 21 [some (.ref 0), some (.int x1), some (.int x2), some (.int x3), some (.int x4)] [.int 0] (hM 36 σ τ) r
  exact xv_sub (L' := [some (.ref 0), some (.int x1), some (.int x2), some (.int x3), some (.int x4)]) ⟨rfl, ⟨rfl, ⟨rfl, ⟨rfl, ⟨rfl, trivial⟩⟩⟩⟩⟩ (g112_21_ok_36 htr d  τ x1 x2 x3 x4 0 σ r H)
theorem g112_run_36 {l : Launch} {Ω : xo_O} (htr : xH l) (d : Nat) (τ : Nat → Nat → Int64) (a1 : Int32) (a2 : Int32) (a3 : Int32) (a4 : Int32) (σ : xS) {q : xQ} (hq : g112 36 a1 a2 a3 a4 σ = some q) : xv l Ω (d + 7) 3 18 112 0 (xs_loc (xm_l 112) [.ref 0, .int a1, .int a2, .int a3, .int a4]) [] (hM 36 σ τ) (xq_R false 36 τ q) := by
  have H : xo (xB false 36 τ (xq_R false 36 τ q)) (g112 36 a1 a2 a3 a4 σ) := by rw [hq]; exact rfl
  generalize xq_R false 36 τ q = r at H ⊢
  show xv l Ω (d + 7) 3 18 112 0 [some (.ref 0), some (.int a1), some (.int a2), some (.int a3), some (.int a4)] [] (hM 36 σ τ) r
  unfold g112 at H
  cases q3 : g63 a1 σ with
  | none => rw [q3] at H; exact False.elim H
  | some q30 =>
    obtain ⟨v1 | v1, s2⟩ := q30
    · rw [q3] at H; dsimp only at H
      have hc := g63_run (Ω := Ω) htr (d + 5) 36 τ a1 σ q3
      refine xp_ok htr 2 (d + 7) 3 18 [eC (some (.int v1)) (hM 36 s2 τ)] 112 0 [some (.ref 0), some (.int a1), some (.int a2), some (.int a3), some (.int a4)] [] (hM 36 σ τ) ⟨hc, ?_⟩
      show xv l Ω (d + 7) 3 18 112 4 [some (.ref 0), some (.int a1), some (.int a2), some (.int a3), some (.int a4)] [.int v1] (hM 36 s2 τ) r
      by_cases h4 : v1 = 0
      · rw [if_pos h4] at H
        refine xp_ok htr 1 (d + 7) 3 18 [eB true] 112 4 [some (.ref 0), some (.int a1), some (.int a2), some (.int a3), some (.int a4)] [.int v1] (hM 36 s2 τ) ⟨h4, ?_⟩
        show xv l Ω (d + 7) 3 18 112 20 [some (.ref 0), some (.int a1), some (.int a2), some (.int a3), some (.int a4)] [] (hM 36 s2 τ) r
        exact xv_sub (L' := [some (.ref 0), some (.int a1), some (.int a2), some (.int a3), some (.int a4)]) ⟨rfl, ⟨rfl, ⟨rfl, ⟨rfl, ⟨rfl, trivial⟩⟩⟩⟩⟩ (g112_20_ok_36 htr d  τ a1 a2 a3 a4 s2 r H)
      · rw [if_neg h4] at H
        refine xp_ok htr 1 (d + 7) 3 18 [eB false] 112 4 [some (.ref 0), some (.int a1), some (.int a2), some (.int a3), some (.int a4)] [.int v1] (hM 36 s2 τ) ⟨h4, ?_⟩
        show xv l Ω (d + 7) 3 18 112 7 [some (.ref 0), some (.int a1), some (.int a2), some (.int a3), some (.int a4)] [] (hM 36 s2 τ) r
        cases q30 : g25 a2 10 s2 with
        | none => rw [q30] at H; exact False.elim H
        | some q300 =>
          obtain ⟨v28 | v28, s29⟩ := q300
          · rw [q30] at H; dsimp only at H
            have hc := g25_run (Ω := Ω) htr (d + 6) 36 τ a2 10 s2 q30
            refine xp_ok htr 3 (d + 7) 3 18 [eC (some (.int v28)) (hM 36 s29 τ)] 112 7 [some (.ref 0), some (.int a1), some (.int a2), some (.int a3), some (.int a4)] [] (hM 36 s2 τ) ⟨hc, ?_⟩
            show xv l Ω (d + 7) 3 18 112 13 [some (.ref 0), some (.int a1), some (.int a2), some (.int a3), some (.int a4)] [.int v28] (hM 36 s29 τ) r
            by_cases h31 : v28 = 0
            · rw [if_pos h31] at H
              refine xp_ok htr 1 (d + 7) 3 18 [eB true] 112 13 [some (.ref 0), some (.int a1), some (.int a2), some (.int a3), some (.int a4)] [.int v28] (hM 36 s29 τ) ⟨h31, ?_⟩
              show xv l Ω (d + 7) 3 18 112 20 [some (.ref 0), some (.int a1), some (.int a2), some (.int a3), some (.int a4)] [] (hM 36 s29 τ) r
              exact xv_sub (L' := [some (.ref 0), some (.int a1), some (.int a2), some (.int a3), some (.int a4)]) ⟨rfl, ⟨rfl, ⟨rfl, ⟨rfl, ⟨rfl, trivial⟩⟩⟩⟩⟩ (g112_20_ok_36 htr d  τ a1 a2 a3 a4 s29 r H)
            · rw [if_neg h31] at H
              refine xp_ok htr 1 (d + 7) 3 18 [eB false] 112 13 [some (.ref 0), some (.int a1), some (.int a2), some (.int a3), some (.int a4)] [.int v28] (hM 36 s29 τ) ⟨h31, ?_⟩
              show xv l Ω (d + 7) 3 18 112 16 [some (.ref 0), some (.int a1), some (.int a2), some (.int a3), some (.int a4)] [] (hM 36 s29 τ) r
              refine xp_ok htr 2 (d + 7) 3 18 [] 112 16 [some (.ref 0), some (.int a1), some (.int a2), some (.int a3), some (.int a4)] [] (hM 36 s29 τ) ?_
              show xv l Ω (d + 7) 3 18 112 21 [some (.ref 0), some (.int a1), some (.int a2), some (.int a3), some (.int a4)] [.int 1] (hM 36 s29 τ) r
              exact xv_sub (L' := [some (.ref 0), some (.int a1), some (.int a2), some (.int a3), some (.int a4)]) ⟨rfl, ⟨rfl, ⟨rfl, ⟨rfl, ⟨rfl, trivial⟩⟩⟩⟩⟩ (g112_21_ok_36 htr d  τ a1 a2 a3 a4 1 s29 r H)
          · rw [q30] at H; exact False.elim H
    · rw [q3] at H; exact False.elim H
/- AccessDesk$Sessions.isDaytime -/
def g138 (a0 : Int32) (σ : xS) : xO := (if a0 < 8 then some ((Sum.inl 0, σ)) else (if 17 < a0 then some ((Sum.inl 0, σ)) else some ((Sum.inl 1, σ))))
theorem g138_run {l : Launch} {Ω : xo_O} (htr : xH l) (d : Nat) (p : Nat) (τ : Nat → Nat → Int64) (a0 : Int32) (σ : xS) {q : xQ} (hq : g138 a0 σ = some q) : xv l Ω d 0 0 138 0 (xs_loc (xm_l 138) [.int a0]) [] (hM p σ τ) (xq_R false p τ q) := by
  have H : xo (xB false p τ (xq_R false p τ q)) (g138 a0 σ) := by rw [hq]; exact rfl
  generalize xq_R false p τ q = r at H ⊢
  show xv l Ω d 0 0 138 0 [some (.int a0)] [] (hM p σ τ) r
  unfold g138 at H
  by_cases h1 : a0 < 8
  · rw [if_pos h1] at H
    refine xp_ok htr 3 d 0 0 [eB true] 138 0 [some (.int a0)] [] (hM p σ τ) ⟨h1, ?_⟩
    show xv l Ω d 0 0 138 16 [some (.int a0)] [] (hM p σ τ) r
    exact xp_ok htr 2 d 0 0 [] 138 16 [some (.int a0)] [] (hM p σ τ) ⟨Or.inl rfl, (Eq.symm H)⟩
  · rw [if_neg h1] at H
    refine xp_ok htr 3 d 0 0 [eB false] 138 0 [some (.int a0)] [] (hM p σ τ) ⟨h1, ?_⟩
    show xv l Ω d 0 0 138 6 [some (.int a0)] [] (hM p σ τ) r
    by_cases h2 : 17 < a0
    · rw [if_pos h2] at H
      refine xp_ok htr 3 d 0 0 [eB true] 138 6 [some (.int a0)] [] (hM p σ τ) ⟨h2, ?_⟩
      show xv l Ω d 0 0 138 16 [some (.int a0)] [] (hM p σ τ) r
      exact xp_ok htr 2 d 0 0 [] 138 16 [some (.int a0)] [] (hM p σ τ) ⟨Or.inl rfl, (Eq.symm H)⟩
    · rw [if_neg h2] at H
      refine xp_ok htr 3 d 0 0 [eB false] 138 6 [some (.int a0)] [] (hM p σ τ) ⟨h2, ?_⟩
      show xv l Ω d 0 0 138 12 [some (.int a0)] [] (hM p σ τ) r
      exact xp_ok htr 3 d 0 0 [] 138 12 [some (.int a0)] [] (hM p σ τ) ⟨Or.inr rfl, (Eq.symm H)⟩
